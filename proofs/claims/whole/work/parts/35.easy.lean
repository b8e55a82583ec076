/-! the calls that look at a cell or change one -/
section T35
variable {kt : Nat → Nat × Nat} {I I' : Nat → Nat → Int32} {J J' : Nat → Nat → Int64} {T : Nat → Nat → Nat} {n s : Nat} {L : Nat} {xs : Nat → Int32} {K : Option Value → am_M → Prop}
theorem L_rule (x v : Int32) : sg_Call (68, 1, 0, [.ref 20, .int x, .int v, .null], []) (135, 1, 0, [.ref 107, .int x, .int v], []) := by
  intro L xs kt I J T n s K hS hK
  have h13 := hS.1.2.2.2.1
  have h3 : vp_in 3 1448 := vpl (k := 3) (by decide) (by decide)
  have h4 : vp_in 4 1448 := vpl (k := 4) (by decide) (by decide)
  obtain ⟨hc, wc, tc, hR, hB⟩ := hS.2.1
  by_cases hA : x = 0 ∧ ¬ v < 0 ∧ ¬ 29 < v
  · obtain ⟨rfl, h0, h1⟩ := hA
    refine am_wq_T (cut := fun _ _ => false) (inl := fun _ => true) 120 _ _ _ ?_
    repeat' first
       | (refine And.intro (fun hx_ => ?_) (fun hx_ => ?_) <;> first | exact absurd hx_ (of_decide_eq_false rfl) | exact absurd (of_decide_eq_true rfl) hx_ | exact absurd hx_ (by assumption) | exact absurd (by assumption) hx_ | skip)
       | (refine And.intro rfl ?_)
       | (refine And.intro ⟨rfl, vpd rfl⟩ ?_)
       | (refine And.intro ⟨rfl, by assumption⟩ ?_)
       | (refine And.intro (by assumption) ?_)
       | (refine And.intro ⟨rfl, ?_⟩ ?_)
       | (refine And.intro ?_ ?_)
    refine hK _ kt (am_up I 21 8 v) J T n s ⟨h13, rfl, ?_⟩
    refine am_wq_T (cut := fun _ _ => false) (inl := fun _ => true) 120 _ _ _ ?_
    repeat' first
       | (refine And.intro (fun hx_ => ?_) (fun hx_ => ?_) <;> first | exact absurd hx_ (of_decide_eq_false rfl) | exact absurd (of_decide_eq_true rfl) hx_ | exact absurd hx_ (by assumption) | exact absurd (by assumption) hx_ | skip)
       | (refine And.intro rfl ?_)
       | (refine And.intro ⟨rfl, vpd rfl⟩ ?_)
       | (refine And.intro ⟨rfl, by assumption⟩ ?_)
       | (refine And.intro (by assumption) ?_)
       | (refine And.intro ⟨rfl, ?_⟩ ?_)
       | (refine And.intro ?_ ?_)
    · refine End_of (I := am_up (am_up I 21 8 v) 108 3 v) ?_ (sim_cell (by unfold cellR; omega) hS fun hc wc tc q b => LB_up (by omega) (by omega) ⟨fun _ => ?_, by omega, by omega⟩ b)
      · exact hR.2.2.2.2.2.2.2.2.2.2.2.1.symm
      · unfold sg_in; (simp only [Int32.lt_iff_toInt_lt, Int32.le_iff_toInt_le, gt_iff_lt, ge_iff_le, ← Int32.toInt_inj, Int32.reduceToInt, Int32.reduceMul, Int32.reduceAdd, Int32.reduceSub, ne_eq, true_and, and_true, false_and, and_false, not_true_eq_false, not_false_eq_true, true_or, or_true, false_or, or_false] at *; omega)
  · by_cases hA' : x = 1 ∧ ¬ v < 50 ∧ ¬ 200 < v
    · obtain ⟨rfl, h0, h1⟩ := hA'
      refine am_wq_T (cut := fun _ _ => false) (inl := fun _ => true) 120 _ _ _ ?_
      repeat' first
         | (refine And.intro (fun hx_ => ?_) (fun hx_ => ?_) <;> first | exact absurd hx_ (of_decide_eq_false rfl) | exact absurd (of_decide_eq_true rfl) hx_ | exact absurd hx_ (by assumption) | exact absurd (by assumption) hx_ | skip)
         | (refine And.intro rfl ?_)
         | (refine And.intro ⟨rfl, vpd rfl⟩ ?_)
         | (refine And.intro ⟨rfl, by assumption⟩ ?_)
         | (refine And.intro (by assumption) ?_)
         | (refine And.intro ⟨rfl, ?_⟩ ?_)
         | (refine And.intro ?_ ?_)
      refine hK _ kt (am_up I 21 9 v) J T n s ⟨h13, rfl, ?_⟩
      refine am_wq_T (cut := fun _ _ => false) (inl := fun _ => true) 120 _ _ _ ?_
      repeat' first
         | (refine And.intro (fun hx_ => ?_) (fun hx_ => ?_) <;> first | exact absurd hx_ (of_decide_eq_false rfl) | exact absurd (of_decide_eq_true rfl) hx_ | exact absurd hx_ (by assumption) | exact absurd (by assumption) hx_ | skip)
         | (refine And.intro rfl ?_)
         | (refine And.intro ⟨rfl, vpd rfl⟩ ?_)
         | (refine And.intro ⟨rfl, by assumption⟩ ?_)
         | (refine And.intro (by assumption) ?_)
         | (refine And.intro ⟨rfl, ?_⟩ ?_)
         | (refine And.intro ?_ ?_)
      · refine End_of (I := am_up (am_up I 21 9 v) 108 4 v) ?_ (sim_cell (by unfold cellR; omega) hS fun hc wc tc q b => LB_up (by omega) (by omega) ⟨by omega, fun _ => ?_, by omega⟩ b)
        · exact hR.2.2.2.2.2.2.2.2.2.2.2.2.1.symm
        · unfold sg_in; (simp only [Int32.lt_iff_toInt_lt, Int32.le_iff_toInt_le, gt_iff_lt, ge_iff_le, ← Int32.toInt_inj, Int32.reduceToInt, Int32.reduceMul, Int32.reduceAdd, Int32.reduceSub, ne_eq, true_and, and_true, false_and, and_false, not_true_eq_false, not_false_eq_true, true_or, or_true, false_or, or_false] at *; omega)
    · have hM : sg_Mid L xs I n s (135, 1, 0, [.ref 107, .int x, .int v], []) (-1000000001) kt I J T n s := by
        refine ⟨h13, rfl, ?_⟩
        by_cases hx : x = 0
        · subst hx
          refine am_wq_T (cut := fun _ _ => false) (inl := fun _ => true) 120 _ _ _ ?_
          repeat' first
             | (refine And.intro (fun hx_ => ?_) (fun hx_ => ?_) <;> first | exact absurd hx_ (of_decide_eq_false rfl) | exact absurd (of_decide_eq_true rfl) hx_ | exact absurd hx_ (by assumption) | exact absurd (by assumption) hx_ | skip)
             | (refine And.intro rfl ?_)
             | (refine And.intro ⟨rfl, vpd rfl⟩ ?_)
             | (refine And.intro ⟨rfl, by assumption⟩ ?_)
             | (refine And.intro (by assumption) ?_)
             | (refine And.intro ⟨rfl, ?_⟩ ?_)
             | (refine And.intro ?_ ?_)
          all_goals first | exact End_of rfl hS | (exfalso; simp only [Int32.lt_iff_toInt_lt, Int32.le_iff_toInt_le, gt_iff_lt, ge_iff_le, ← Int32.toInt_inj, Int32.reduceToInt, Int32.reduceMul, Int32.reduceAdd, Int32.reduceSub, ne_eq, true_and, and_true, false_and, and_false, not_true_eq_false, not_false_eq_true, true_or, or_true, false_or, or_false] at *; omega)
        · by_cases hx1 : x = 1
          · subst hx1
            refine am_wq_T (cut := fun _ _ => false) (inl := fun _ => true) 120 _ _ _ ?_
            repeat' first
               | (refine And.intro (fun hx_ => ?_) (fun hx_ => ?_) <;> first | exact absurd hx_ (of_decide_eq_false rfl) | exact absurd (of_decide_eq_true rfl) hx_ | exact absurd hx_ (by assumption) | exact absurd (by assumption) hx_ | skip)
               | (refine And.intro rfl ?_)
               | (refine And.intro ⟨rfl, vpd rfl⟩ ?_)
               | (refine And.intro ⟨rfl, by assumption⟩ ?_)
               | (refine And.intro (by assumption) ?_)
               | (refine And.intro ⟨rfl, ?_⟩ ?_)
               | (refine And.intro ?_ ?_)
            all_goals first | exact End_of rfl hS | (exfalso; simp only [Int32.lt_iff_toInt_lt, Int32.le_iff_toInt_le, gt_iff_lt, ge_iff_le, ← Int32.toInt_inj, Int32.reduceToInt, Int32.reduceMul, Int32.reduceAdd, Int32.reduceSub, ne_eq, true_and, and_true, false_and, and_false, not_true_eq_false, not_false_eq_true, true_or, or_true, false_or, or_false] at *; omega)
          · refine am_wq_T (cut := fun _ _ => false) (inl := fun _ => true) 120 _ _ _ ?_
            repeat' first
               | (refine And.intro (fun hx_ => ?_) (fun hx_ => ?_) <;> first | exact absurd hx_ (of_decide_eq_false rfl) | exact absurd (of_decide_eq_true rfl) hx_ | exact absurd hx_ (by assumption) | exact absurd (by assumption) hx_ | skip)
               | (refine And.intro rfl ?_)
               | (refine And.intro ⟨rfl, vpd rfl⟩ ?_)
               | (refine And.intro ⟨rfl, by assumption⟩ ?_)
               | (refine And.intro (by assumption) ?_)
               | (refine And.intro ⟨rfl, ?_⟩ ?_)
               | (refine And.intro ?_ ?_)
            all_goals first | exact End_of rfl hS | (exfalso; simp only [Int32.lt_iff_toInt_lt, Int32.le_iff_toInt_le, gt_iff_lt, ge_iff_le, ← Int32.toInt_inj, Int32.reduceToInt, Int32.reduceMul, Int32.reduceAdd, Int32.reduceSub, ne_eq, true_and, and_true, false_and, and_false, not_true_eq_false, not_false_eq_true, true_or, or_true, false_or, or_false] at *; omega)
      refine am_wq_T (cut := fun _ _ => false) (inl := fun _ => true) 120 _ _ _ ?_
      repeat' first
         | (refine And.intro (fun hx_ => ?_) (fun hx_ => ?_) <;> first | exact absurd hx_ (of_decide_eq_false rfl) | exact absurd (of_decide_eq_true rfl) hx_ | exact absurd hx_ (by assumption) | exact absurd (by assumption) hx_ | skip)
         | (refine And.intro rfl ?_)
         | (refine And.intro ⟨rfl, vpd rfl⟩ ?_)
         | (refine And.intro ⟨rfl, by assumption⟩ ?_)
         | (refine And.intro (by assumption) ?_)
         | (refine And.intro ⟨rfl, ?_⟩ ?_)
         | (refine And.intro ?_ ?_)
      all_goals first | exact hK _ _ _ _ _ _ _ hM | (exfalso; simp only [Int32.lt_iff_toInt_lt, Int32.le_iff_toInt_le, gt_iff_lt, ge_iff_le, ← Int32.toInt_inj, Int32.reduceToInt, Int32.reduceMul, Int32.reduceAdd, Int32.reduceSub, ne_eq, true_and, and_true, false_and, and_false, not_true_eq_false, not_false_eq_true, true_or, or_true, false_or, or_false] at *; omega)
theorem e5_of (h : Nat) : (21 : Int32) + 5 * nI h = nI (21 + 5 * h) := by rw [show (21 : Int32) = nI 21 from rfl, show (5 : Int32) = nI 5 from rfl, pk_mul, nI_add]
theorem m_hole1 {hc h : Nat} (hN : I 108 1 = nI hc) (hhc : hc ≤ 10) (hh : h < hc) : ¬ I 108 1 - 1 < nI h := by
  obtain ⟨j, rfl⟩ : ∃ j, hc = j + 1 := ⟨hc - 1, by omega⟩
  rw [hN, nI_pred]
  exact nI_nlt (by omega) (by omega)
theorem m_turns {hc h : Nat} {v : Int32} (hN : I 108 1 = nI hc) (hhc : hc ≤ 10) (hh : h < hc) (b0 : ¬ v < 0) (b1 : ¬ 5 < v) (hK : K (some (.int (I 108 (21 + 5 * h)))) (am_mk kt (am_up I 108 (21 + 5 * h) v) J T n s)) : am_T am_C (131, 2, 0, [.ref 107, .int (nI h), .int v], []) (am_mk kt I J T n s) K := by
  have a0 : ¬ nI h < 0 := nI_pos (by omega)
  have a2 := m_hole1 hN hhc hh
  have e5 := e5_of h
  have hv5 : vp_in (21 + 5 * nI h) 1448 := by rw [e5]; exact vpl (by omega) (by decide)
  refine am_wq_T (cut := fun _ _ => false) (inl := fun _ => true) 120 _ _ _ ?_
  repeat' first
     | (refine And.intro (fun hx_ => ?_) (fun hx_ => ?_) <;> first | exact absurd hx_ (of_decide_eq_false rfl) | exact absurd (of_decide_eq_true rfl) hx_ | exact absurd hx_ (by assumption) | exact absurd (by assumption) hx_ | skip)
     | (refine And.intro rfl ?_)
     | (refine And.intro ⟨rfl, vpd rfl⟩ ?_)
     | (refine And.intro ⟨rfl, by assumption⟩ ?_)
     | (refine And.intro (by assumption) ?_)
     | (refine And.intro ⟨rfl, ?_⟩ ?_)
     | (refine And.intro ?_ ?_)
  rw [← nI_clamp (n := 21 + 5 * h) (by omega), ← e5] at hK
  exact hK
theorem L_turns (x v : Int32) : sg_Call (65, 1, 0, [.ref 20, .int x, .int v, .null, .null], []) (131, 2, 0, [.ref 107, .int x, .int v], []) := by
  intro L xs kt I J T n s K hS hK
  have h13 := hS.1.2.2.2.1
  obtain ⟨hc, wc, tc, hR, hB⟩ := hS.2.1
  rcases hole_cases hR x with ⟨h, hh, hh10, rfl, a0, a1, a2, hv⟩ | a0 | ⟨a0, a1, a2⟩
  · rcases rng v 0 5 with ⟨b0, b1⟩ | b0 | ⟨b0, b1⟩
    · have hk : am_K (am_k kt, I, J, am_r T, n, s) (am_R (am_k kt, I, J, am_r T, n, s) 22 (nI h).toNatClampNeg) = (1, 5) := by rw [rH21 hh10]; exact kH21 hh10
      have hnz : ¬ am_R (am_k kt, I, J, am_r T, n, s) 22 (nI h).toNatClampNeg = 0 := by rw [rH21 hh10]; omega
      have hr : am_R (am_k kt, I, J, am_r T, n, s) 22 (nI h).toNatClampNeg = 27 + h := rH21 hh10
      have hM : sg_Mid L xs I n s (131, 2, 0, [.ref 107, .int (nI h), .int v], []) (I (27 + h) 0) kt (am_up I (27 + h) 0 v) J T n s := by
        refine ⟨h13, up_off (by omega), m_turns (hc := hc) (by rw [up_off (by omega)]; exact hR.2.2.2.1) hR.1 hh b0 b1 ?_⟩
        refine End_of ?_ (sim_cell (r := 27 + h) (k := 0) (j := 21 + 5 * h + 0) (by unfold cellR; omega) hS fun hc wc tc q b => LB_hole q.2.1 (by decide) ?_ b)
        · rw [up_off (by omega)]; exact (hR.2.2.2.2.2.2.2.2.2.1 h hh 0 (by decide)).symm
        · unfold sg_in bd; (simp only [Int32.lt_iff_toInt_lt, Int32.le_iff_toInt_le, gt_iff_lt, ge_iff_le, ← Int32.toInt_inj, Int32.reduceToInt, Int32.reduceMul, Int32.reduceAdd, Int32.reduceSub, ne_eq, true_and, and_true, false_and, and_false, not_true_eq_false, not_false_eq_true, true_or, or_true, false_or, or_false] at *; omega)
      have key := hK _ _ _ _ _ _ _ hM
      rw [← hr] at key
      refine am_wq_T (cut := fun _ _ => false) (inl := fun _ => true) 120 _ _ _ ?_
      repeat' first
         | (refine And.intro (fun hx_ => ?_) (fun hx_ => ?_) <;> first | exact absurd hx_ (of_decide_eq_false rfl) | exact absurd (of_decide_eq_true rfl) hx_ | exact absurd hx_ (by assumption) | exact absurd (by assumption) hx_ | skip)
         | (refine And.intro rfl ?_)
         | (refine And.intro ⟨rfl, vpd rfl⟩ ?_)
         | (refine And.intro ⟨rfl, by assumption⟩ ?_)
         | (refine And.intro (by assumption) ?_)
         | (refine And.intro ⟨rfl, ?_⟩ ?_)
         | (refine And.intro ?_ ?_)
      exact key
    · have hM : sg_Mid L xs I n s (131, 2, 0, [.ref 107, .int (nI h), .int v], []) (-1000000001) kt I J T n s := by
        refine ⟨h13, rfl, ?_⟩
        refine am_wq_T (cut := fun _ _ => false) (inl := fun _ => true) 120 _ _ _ ?_
        repeat' first
           | (refine And.intro (fun hx_ => ?_) (fun hx_ => ?_) <;> first | exact absurd hx_ (of_decide_eq_false rfl) | exact absurd (of_decide_eq_true rfl) hx_ | exact absurd hx_ (by assumption) | exact absurd (by assumption) hx_ | skip)
           | (refine And.intro rfl ?_)
           | (refine And.intro ⟨rfl, vpd rfl⟩ ?_)
           | (refine And.intro ⟨rfl, by assumption⟩ ?_)
           | (refine And.intro (by assumption) ?_)
           | (refine And.intro ⟨rfl, ?_⟩ ?_)
           | (refine And.intro ?_ ?_)
        all_goals exact End_of rfl hS
      refine am_wq_T (cut := fun _ _ => false) (inl := fun _ => true) 120 _ _ _ ?_
      repeat' first
         | (refine And.intro (fun hx_ => ?_) (fun hx_ => ?_) <;> first | exact absurd hx_ (of_decide_eq_false rfl) | exact absurd (of_decide_eq_true rfl) hx_ | exact absurd hx_ (by assumption) | exact absurd (by assumption) hx_ | skip)
         | (refine And.intro rfl ?_)
         | (refine And.intro ⟨rfl, vpd rfl⟩ ?_)
         | (refine And.intro ⟨rfl, by assumption⟩ ?_)
         | (refine And.intro (by assumption) ?_)
         | (refine And.intro ⟨rfl, ?_⟩ ?_)
         | (refine And.intro ?_ ?_)
      all_goals exact hK _ _ _ _ _ _ _ hM
    · have hM : sg_Mid L xs I n s (131, 2, 0, [.ref 107, .int (nI h), .int v], []) (-1000000001) kt I J T n s := by
        refine ⟨h13, rfl, ?_⟩
        refine am_wq_T (cut := fun _ _ => false) (inl := fun _ => true) 120 _ _ _ ?_
        repeat' first
           | (refine And.intro (fun hx_ => ?_) (fun hx_ => ?_) <;> first | exact absurd hx_ (of_decide_eq_false rfl) | exact absurd (of_decide_eq_true rfl) hx_ | exact absurd hx_ (by assumption) | exact absurd (by assumption) hx_ | skip)
           | (refine And.intro rfl ?_)
           | (refine And.intro ⟨rfl, vpd rfl⟩ ?_)
           | (refine And.intro ⟨rfl, by assumption⟩ ?_)
           | (refine And.intro (by assumption) ?_)
           | (refine And.intro ⟨rfl, ?_⟩ ?_)
           | (refine And.intro ?_ ?_)
        all_goals exact End_of rfl hS
      refine am_wq_T (cut := fun _ _ => false) (inl := fun _ => true) 120 _ _ _ ?_
      repeat' first
         | (refine And.intro (fun hx_ => ?_) (fun hx_ => ?_) <;> first | exact absurd hx_ (of_decide_eq_false rfl) | exact absurd (of_decide_eq_true rfl) hx_ | exact absurd hx_ (by assumption) | exact absurd (by assumption) hx_ | skip)
         | (refine And.intro rfl ?_)
         | (refine And.intro ⟨rfl, vpd rfl⟩ ?_)
         | (refine And.intro ⟨rfl, by assumption⟩ ?_)
         | (refine And.intro (by assumption) ?_)
         | (refine And.intro ⟨rfl, ?_⟩ ?_)
         | (refine And.intro ?_ ?_)
      all_goals exact hK _ _ _ _ _ _ _ hM
  · have hM : sg_Mid L xs I n s (131, 2, 0, [.ref 107, .int x, .int v], []) (-1000000001) kt I J T n s := by
      refine ⟨h13, rfl, ?_⟩
      refine am_wq_T (cut := fun _ _ => false) (inl := fun _ => true) 120 _ _ _ ?_
      repeat' first
         | (refine And.intro (fun hx_ => ?_) (fun hx_ => ?_) <;> first | exact absurd hx_ (of_decide_eq_false rfl) | exact absurd (of_decide_eq_true rfl) hx_ | exact absurd hx_ (by assumption) | exact absurd (by assumption) hx_ | skip)
         | (refine And.intro rfl ?_)
         | (refine And.intro ⟨rfl, vpd rfl⟩ ?_)
         | (refine And.intro ⟨rfl, by assumption⟩ ?_)
         | (refine And.intro (by assumption) ?_)
         | (refine And.intro ⟨rfl, ?_⟩ ?_)
         | (refine And.intro ?_ ?_)
      all_goals exact End_of rfl hS
    refine am_wq_T (cut := fun _ _ => false) (inl := fun _ => true) 120 _ _ _ ?_
    repeat' first
       | (refine And.intro (fun hx_ => ?_) (fun hx_ => ?_) <;> first | exact absurd hx_ (of_decide_eq_false rfl) | exact absurd (of_decide_eq_true rfl) hx_ | exact absurd hx_ (by assumption) | exact absurd (by assumption) hx_ | skip)
       | (refine And.intro rfl ?_)
       | (refine And.intro ⟨rfl, vpd rfl⟩ ?_)
       | (refine And.intro ⟨rfl, by assumption⟩ ?_)
       | (refine And.intro (by assumption) ?_)
       | (refine And.intro ⟨rfl, ?_⟩ ?_)
       | (refine And.intro ?_ ?_)
    all_goals exact hK _ _ _ _ _ _ _ hM
  · have hM : sg_Mid L xs I n s (131, 2, 0, [.ref 107, .int x, .int v], []) (-1000000001) kt I J T n s := by
      refine ⟨h13, rfl, ?_⟩
      refine am_wq_T (cut := fun _ _ => false) (inl := fun _ => true) 120 _ _ _ ?_
      repeat' first
         | (refine And.intro (fun hx_ => ?_) (fun hx_ => ?_) <;> first | exact absurd hx_ (of_decide_eq_false rfl) | exact absurd (of_decide_eq_true rfl) hx_ | exact absurd hx_ (by assumption) | exact absurd (by assumption) hx_ | skip)
         | (refine And.intro rfl ?_)
         | (refine And.intro ⟨rfl, vpd rfl⟩ ?_)
         | (refine And.intro ⟨rfl, by assumption⟩ ?_)
         | (refine And.intro (by assumption) ?_)
         | (refine And.intro ⟨rfl, ?_⟩ ?_)
         | (refine And.intro ?_ ?_)
      all_goals exact End_of rfl hS
    refine am_wq_T (cut := fun _ _ => false) (inl := fun _ => true) 120 _ _ _ ?_
    repeat' first
       | (refine And.intro (fun hx_ => ?_) (fun hx_ => ?_) <;> first | exact absurd hx_ (of_decide_eq_false rfl) | exact absurd (of_decide_eq_true rfl) hx_ | exact absurd hx_ (by assumption) | exact absurd (by assumption) hx_ | skip)
       | (refine And.intro rfl ?_)
       | (refine And.intro ⟨rfl, vpd rfl⟩ ?_)
       | (refine And.intro ⟨rfl, by assumption⟩ ?_)
       | (refine And.intro (by assumption) ?_)
       | (refine And.intro ⟨rfl, ?_⟩ ?_)
       | (refine And.intro ?_ ?_)
    all_goals exact hK _ _ _ _ _ _ _ hM
end T35
