/-! told, as -/
section T37
variable {kt : Nat → Nat × Nat} {I I' : Nat → Nat → Int32} {J J' : Nat → Nat → Int64} {T : Nat → Nat → Nat} {n s : Nat} {L : Nat} {xs : Nat → Int32} {K : Option Value → am_M → Prop}
theorem in6 {v : Int32} (b0 : ¬ v < 0) (b1 : ¬ 5 < v) : v = 0 ∨ v = 1 ∨ v = 2 ∨ v = 3 ∨ v = 4 ∨ v = 5 := by (simp only [Int32.lt_iff_toInt_lt, Int32.le_iff_toInt_le, gt_iff_lt, ge_iff_le, ← Int32.toInt_inj, Int32.reduceToInt, Int32.reduceMul, Int32.reduceAdd, Int32.reduceSub, ne_eq, true_and, and_true, false_and, and_false, not_true_eq_false, not_false_eq_true, true_or, or_true, false_or, or_false] at *; omega)
theorem L_told (x v : Int32) : sg_Call (63, 2, 0, [.ref 20, .int x, .int v, .null], []) (128, 2, 0, [.ref 107, .int x, .int v], []) := by
  intro L xs kt I J T n s K hS hK
  have h13 := hS.1.2.2.2.1
  obtain ⟨hc, wc, tc, hR, hB⟩ := hS.2.1
  rcases hole_cases hR x with ⟨h, hh, hh10, rfl, a0, a1, a2, hv⟩ | a0 | ⟨a0, a1, a2⟩
  · have hk : am_K (am_k kt, I, J, am_r T, n, s) (am_R (am_k kt, I, J, am_r T, n, s) 22 (nI h).toNatClampNeg) = (1, 5) := by rw [rH21 hh10]; exact kH21 hh10
    have hnz : ¬ am_R (am_k kt, I, J, am_r T, n, s) 22 (nI h).toNatClampNeg = 0 := by rw [rH21 hh10]; omega
    have hr : am_R (am_k kt, I, J, am_r T, n, s) 22 (nI h).toNatClampNeg = 27 + h := rH21 hh10
    have hf := hR.2.2.2.2.2.2.2.2.2.1 h hh
    have hf0 : I (27 + h) 0 = I 108 (21 + 5 * h) := hf 0 (by decide)
    rcases rng v 0 5 with ⟨b0, b1⟩ | b0 | ⟨b0, b1⟩
    · rcases in6 b0 b1 with rfl | rfl | rfl | rfl | rfl | rfl
      · have hM : sg_Mid L xs I n s (128, 2, 0, [.ref 107, .int (nI h), .int 0], []) (I (27 + h) 0) kt I J T n s := by
          refine ⟨h13, rfl, ?_⟩
          refine am_wq_T (cut := fun _ _ => false) (inl := fun z => !(Nat.beq z 121)) 120 _ _ _ ?_
          repeat' first
             | (refine m_of (h := h) (w := 0) rfl rfl (by omega) (by decide) ?_)
             | (refine And.intro (fun hx_ => ?_) (fun hx_ => ?_) <;> first | exact absurd hx_ (of_decide_eq_false rfl) | exact absurd (of_decide_eq_true rfl) hx_ | exact absurd hx_ (by assumption) | exact absurd (by assumption) hx_ | skip)
             | (refine And.intro rfl ?_)
             | (refine And.intro ⟨rfl, vpd rfl⟩ ?_)
             | (refine And.intro ⟨rfl, by assumption⟩ ?_)
             | (refine And.intro (by assumption) ?_)
             | (refine And.intro ⟨rfl, ?_⟩ ?_)
             | (refine And.intro ?_ ?_)
          exact End_of (hf 0 (by decide)).symm hS
        have key := hK _ _ _ _ _ _ _ hM
        rw [← hr] at key
        refine am_wq_T (cut := fun _ _ => false) (inl := fun _ => true) 120 _ _ _ ?_
        repeat' first
           | (refine And.intro (fun hx_ => ?_) (fun hx_ => ?_) <;> first | exact absurd hx_ (of_decide_eq_false rfl) | exact absurd (of_decide_eq_true rfl) hx_ | exact absurd hx_ (by assumption) | exact absurd (by assumption) hx_ | skip)
           | (refine And.intro rfl ?_)
           | (refine And.intro ⟨rfl, vpd rfl⟩ ?_)
           | (refine And.intro ⟨rfl, by assumption⟩ ?_)
           | (refine And.intro (by assumption) ?_)
           | (refine And.intro ⟨rfl, ?_⟩ ?_)
           | (refine And.intro ?_ ?_)
        exact key
      · have hM : sg_Mid L xs I n s (128, 2, 0, [.ref 107, .int (nI h), .int 1], []) (I (27 + h) 1) kt I J T n s := by
          refine ⟨h13, rfl, ?_⟩
          refine am_wq_T (cut := fun _ _ => false) (inl := fun z => !(Nat.beq z 121)) 120 _ _ _ ?_
          repeat' first
             | (refine m_of (h := h) (w := 1) rfl rfl (by omega) (by decide) ?_)
             | (refine And.intro (fun hx_ => ?_) (fun hx_ => ?_) <;> first | exact absurd hx_ (of_decide_eq_false rfl) | exact absurd (of_decide_eq_true rfl) hx_ | exact absurd hx_ (by assumption) | exact absurd (by assumption) hx_ | skip)
             | (refine And.intro rfl ?_)
             | (refine And.intro ⟨rfl, vpd rfl⟩ ?_)
             | (refine And.intro ⟨rfl, by assumption⟩ ?_)
             | (refine And.intro (by assumption) ?_)
             | (refine And.intro ⟨rfl, ?_⟩ ?_)
             | (refine And.intro ?_ ?_)
          exact End_of (hf 1 (by decide)).symm hS
        have key := hK _ _ _ _ _ _ _ hM
        rw [← hr] at key
        refine am_wq_T (cut := fun _ _ => false) (inl := fun _ => true) 120 _ _ _ ?_
        repeat' first
           | (refine And.intro (fun hx_ => ?_) (fun hx_ => ?_) <;> first | exact absurd hx_ (of_decide_eq_false rfl) | exact absurd (of_decide_eq_true rfl) hx_ | exact absurd hx_ (by assumption) | exact absurd (by assumption) hx_ | skip)
           | (refine And.intro rfl ?_)
           | (refine And.intro ⟨rfl, vpd rfl⟩ ?_)
           | (refine And.intro ⟨rfl, by assumption⟩ ?_)
           | (refine And.intro (by assumption) ?_)
           | (refine And.intro ⟨rfl, ?_⟩ ?_)
           | (refine And.intro ?_ ?_)
        exact key
      · have hM : sg_Mid L xs I n s (128, 2, 0, [.ref 107, .int (nI h), .int 2], []) (I (27 + h) 2) kt I J T n s := by
          refine ⟨h13, rfl, ?_⟩
          refine am_wq_T (cut := fun _ _ => false) (inl := fun z => !(Nat.beq z 121)) 120 _ _ _ ?_
          repeat' first
             | (refine m_of (h := h) (w := 2) rfl rfl (by omega) (by decide) ?_)
             | (refine And.intro (fun hx_ => ?_) (fun hx_ => ?_) <;> first | exact absurd hx_ (of_decide_eq_false rfl) | exact absurd (of_decide_eq_true rfl) hx_ | exact absurd hx_ (by assumption) | exact absurd (by assumption) hx_ | skip)
             | (refine And.intro rfl ?_)
             | (refine And.intro ⟨rfl, vpd rfl⟩ ?_)
             | (refine And.intro ⟨rfl, by assumption⟩ ?_)
             | (refine And.intro (by assumption) ?_)
             | (refine And.intro ⟨rfl, ?_⟩ ?_)
             | (refine And.intro ?_ ?_)
          exact End_of (hf 2 (by decide)).symm hS
        have key := hK _ _ _ _ _ _ _ hM
        rw [← hr] at key
        refine am_wq_T (cut := fun _ _ => false) (inl := fun _ => true) 120 _ _ _ ?_
        repeat' first
           | (refine And.intro (fun hx_ => ?_) (fun hx_ => ?_) <;> first | exact absurd hx_ (of_decide_eq_false rfl) | exact absurd (of_decide_eq_true rfl) hx_ | exact absurd hx_ (by assumption) | exact absurd (by assumption) hx_ | skip)
           | (refine And.intro rfl ?_)
           | (refine And.intro ⟨rfl, vpd rfl⟩ ?_)
           | (refine And.intro ⟨rfl, by assumption⟩ ?_)
           | (refine And.intro (by assumption) ?_)
           | (refine And.intro ⟨rfl, ?_⟩ ?_)
           | (refine And.intro ?_ ?_)
        exact key
      · have hM : sg_Mid L xs I n s (128, 2, 0, [.ref 107, .int (nI h), .int 3], []) (I (27 + h) 3) kt I J T n s := by
          refine ⟨h13, rfl, ?_⟩
          refine am_wq_T (cut := fun _ _ => false) (inl := fun z => !(Nat.beq z 121)) 120 _ _ _ ?_
          repeat' first
             | (refine m_of (h := h) (w := 3) rfl rfl (by omega) (by decide) ?_)
             | (refine And.intro (fun hx_ => ?_) (fun hx_ => ?_) <;> first | exact absurd hx_ (of_decide_eq_false rfl) | exact absurd (of_decide_eq_true rfl) hx_ | exact absurd hx_ (by assumption) | exact absurd (by assumption) hx_ | skip)
             | (refine And.intro rfl ?_)
             | (refine And.intro ⟨rfl, vpd rfl⟩ ?_)
             | (refine And.intro ⟨rfl, by assumption⟩ ?_)
             | (refine And.intro (by assumption) ?_)
             | (refine And.intro ⟨rfl, ?_⟩ ?_)
             | (refine And.intro ?_ ?_)
          exact End_of (hf 3 (by decide)).symm hS
        have key := hK _ _ _ _ _ _ _ hM
        rw [← hr] at key
        refine am_wq_T (cut := fun _ _ => false) (inl := fun _ => true) 120 _ _ _ ?_
        repeat' first
           | (refine And.intro (fun hx_ => ?_) (fun hx_ => ?_) <;> first | exact absurd hx_ (of_decide_eq_false rfl) | exact absurd (of_decide_eq_true rfl) hx_ | exact absurd hx_ (by assumption) | exact absurd (by assumption) hx_ | skip)
           | (refine And.intro rfl ?_)
           | (refine And.intro ⟨rfl, vpd rfl⟩ ?_)
           | (refine And.intro ⟨rfl, by assumption⟩ ?_)
           | (refine And.intro (by assumption) ?_)
           | (refine And.intro ⟨rfl, ?_⟩ ?_)
           | (refine And.intro ?_ ?_)
        exact key
      · have hM : sg_Mid L xs I n s (128, 2, 0, [.ref 107, .int (nI h), .int 4], []) (I (27 + h) 4) kt I J T n s := by
          refine ⟨h13, rfl, ?_⟩
          refine am_wq_T (cut := fun _ _ => false) (inl := fun z => !(Nat.beq z 121)) 120 _ _ _ ?_
          repeat' first
             | (refine m_of (h := h) (w := 4) rfl rfl (by omega) (by decide) ?_)
             | (refine And.intro (fun hx_ => ?_) (fun hx_ => ?_) <;> first | exact absurd hx_ (of_decide_eq_false rfl) | exact absurd (of_decide_eq_true rfl) hx_ | exact absurd hx_ (by assumption) | exact absurd (by assumption) hx_ | skip)
             | (refine And.intro rfl ?_)
             | (refine And.intro ⟨rfl, vpd rfl⟩ ?_)
             | (refine And.intro ⟨rfl, by assumption⟩ ?_)
             | (refine And.intro (by assumption) ?_)
             | (refine And.intro ⟨rfl, ?_⟩ ?_)
             | (refine And.intro ?_ ?_)
          exact End_of (hf 4 (by decide)).symm hS
        have key := hK _ _ _ _ _ _ _ hM
        rw [← hr] at key
        refine am_wq_T (cut := fun _ _ => false) (inl := fun _ => true) 120 _ _ _ ?_
        repeat' first
           | (refine And.intro (fun hx_ => ?_) (fun hx_ => ?_) <;> first | exact absurd hx_ (of_decide_eq_false rfl) | exact absurd (of_decide_eq_true rfl) hx_ | exact absurd hx_ (by assumption) | exact absurd (by assumption) hx_ | skip)
           | (refine And.intro rfl ?_)
           | (refine And.intro ⟨rfl, vpd rfl⟩ ?_)
           | (refine And.intro ⟨rfl, by assumption⟩ ?_)
           | (refine And.intro (by assumption) ?_)
           | (refine And.intro ⟨rfl, ?_⟩ ?_)
           | (refine And.intro ?_ ?_)
        exact key
      · have hM : sg_Mid L xs I n s (128, 2, 0, [.ref 107, .int (nI h), .int 5], []) (sg_worth (I (27 + h) 0) (I (27 + h) 1) (I (27 + h) 2) (I (27 + h) 3)) kt I J T n s := by
          refine ⟨h13, rfl, ?_⟩
          refine am_wq_T (cut := fun _ _ => false) (inl := fun z => !((Nat.beq z 121 || Nat.beq z 127))) 120 _ _ _ ?_
          repeat' first
             | (refine m_worth (h := h) (by omega) ?_)
             | (refine And.intro (fun hx_ => ?_) (fun hx_ => ?_) <;> first | exact absurd hx_ (of_decide_eq_false rfl) | exact absurd (of_decide_eq_true rfl) hx_ | exact absurd hx_ (by assumption) | exact absurd (by assumption) hx_ | skip)
             | (refine And.intro rfl ?_)
             | (refine And.intro ⟨rfl, vpd rfl⟩ ?_)
             | (refine And.intro ⟨rfl, by assumption⟩ ?_)
             | (refine And.intro (by assumption) ?_)
             | (refine And.intro ⟨rfl, ?_⟩ ?_)
             | (refine And.intro ?_ ?_)
          refine End_of ?_ hS
          rw [hf0, hf 1 (by decide), hf 2 (by decide), hf 3 (by decide)]
        have key := hK _ _ _ _ _ _ _ hM
        rw [← hr] at key
        refine am_wq_T (cut := fun _ _ => false) (inl := fun z => !(Nat.beq z 12)) 120 _ _ _ ?_
        repeat' first
           | (refine c_worth (by assumption) ?_)
           | (refine And.intro (fun hx_ => ?_) (fun hx_ => ?_) <;> first | exact absurd hx_ (of_decide_eq_false rfl) | exact absurd (of_decide_eq_true rfl) hx_ | exact absurd hx_ (by assumption) | exact absurd (by assumption) hx_ | skip)
           | (refine And.intro rfl ?_)
           | (refine And.intro ⟨rfl, vpd rfl⟩ ?_)
           | (refine And.intro ⟨rfl, by assumption⟩ ?_)
           | (refine And.intro (by assumption) ?_)
           | (refine And.intro ⟨rfl, ?_⟩ ?_)
           | (refine And.intro ?_ ?_)
        exact key
    · have hM : sg_Mid L xs I n s (128, 2, 0, [.ref 107, .int (nI h), .int v], []) (-1000000001) kt I J T n s := by
        refine ⟨h13, rfl, ?_⟩
        refine am_wq_T (cut := fun _ _ => false) (inl := fun _ => true) 120 _ _ _ ?_
        repeat' first
           | (refine And.intro (fun hx_ => ?_) (fun hx_ => ?_) <;> first | exact absurd hx_ (of_decide_eq_false rfl) | exact absurd (of_decide_eq_true rfl) hx_ | exact absurd hx_ (by assumption) | exact absurd (by assumption) hx_ | skip)
           | (refine And.intro rfl ?_)
           | (refine And.intro ⟨rfl, vpd rfl⟩ ?_)
           | (refine And.intro ⟨rfl, by assumption⟩ ?_)
           | (refine And.intro (by assumption) ?_)
           | (refine And.intro ⟨rfl, ?_⟩ ?_)
           | (refine And.intro ?_ ?_)
        all_goals exact End_of rfl hS
      refine am_wq_T (cut := fun _ _ => false) (inl := fun _ => true) 120 _ _ _ ?_
      repeat' first
         | (refine And.intro (fun hx_ => ?_) (fun hx_ => ?_) <;> first | exact absurd hx_ (of_decide_eq_false rfl) | exact absurd (of_decide_eq_true rfl) hx_ | exact absurd hx_ (by assumption) | exact absurd (by assumption) hx_ | skip)
         | (refine And.intro rfl ?_)
         | (refine And.intro ⟨rfl, vpd rfl⟩ ?_)
         | (refine And.intro ⟨rfl, by assumption⟩ ?_)
         | (refine And.intro (by assumption) ?_)
         | (refine And.intro ⟨rfl, ?_⟩ ?_)
         | (refine And.intro ?_ ?_)
      all_goals exact hK _ _ _ _ _ _ _ hM
    · have hM : sg_Mid L xs I n s (128, 2, 0, [.ref 107, .int (nI h), .int v], []) (-1000000001) kt I J T n s := by
        refine ⟨h13, rfl, ?_⟩
        refine am_wq_T (cut := fun _ _ => false) (inl := fun _ => true) 120 _ _ _ ?_
        repeat' first
           | (refine And.intro (fun hx_ => ?_) (fun hx_ => ?_) <;> first | exact absurd hx_ (of_decide_eq_false rfl) | exact absurd (of_decide_eq_true rfl) hx_ | exact absurd hx_ (by assumption) | exact absurd (by assumption) hx_ | skip)
           | (refine And.intro rfl ?_)
           | (refine And.intro ⟨rfl, vpd rfl⟩ ?_)
           | (refine And.intro ⟨rfl, by assumption⟩ ?_)
           | (refine And.intro (by assumption) ?_)
           | (refine And.intro ⟨rfl, ?_⟩ ?_)
           | (refine And.intro ?_ ?_)
        all_goals exact End_of rfl hS
      refine am_wq_T (cut := fun _ _ => false) (inl := fun _ => true) 120 _ _ _ ?_
      repeat' first
         | (refine And.intro (fun hx_ => ?_) (fun hx_ => ?_) <;> first | exact absurd hx_ (of_decide_eq_false rfl) | exact absurd (of_decide_eq_true rfl) hx_ | exact absurd hx_ (by assumption) | exact absurd (by assumption) hx_ | skip)
         | (refine And.intro rfl ?_)
         | (refine And.intro ⟨rfl, vpd rfl⟩ ?_)
         | (refine And.intro ⟨rfl, by assumption⟩ ?_)
         | (refine And.intro (by assumption) ?_)
         | (refine And.intro ⟨rfl, ?_⟩ ?_)
         | (refine And.intro ?_ ?_)
      all_goals exact hK _ _ _ _ _ _ _ hM
  · have hM : sg_Mid L xs I n s (128, 2, 0, [.ref 107, .int x, .int v], []) (-1000000001) kt I J T n s := by
      refine ⟨h13, rfl, ?_⟩
      refine am_wq_T (cut := fun _ _ => false) (inl := fun _ => true) 120 _ _ _ ?_
      repeat' first
         | (refine And.intro (fun hx_ => ?_) (fun hx_ => ?_) <;> first | exact absurd hx_ (of_decide_eq_false rfl) | exact absurd (of_decide_eq_true rfl) hx_ | exact absurd hx_ (by assumption) | exact absurd (by assumption) hx_ | skip)
         | (refine And.intro rfl ?_)
         | (refine And.intro ⟨rfl, vpd rfl⟩ ?_)
         | (refine And.intro ⟨rfl, by assumption⟩ ?_)
         | (refine And.intro (by assumption) ?_)
         | (refine And.intro ⟨rfl, ?_⟩ ?_)
         | (refine And.intro ?_ ?_)
      all_goals exact End_of rfl hS
    refine am_wq_T (cut := fun _ _ => false) (inl := fun _ => true) 120 _ _ _ ?_
    repeat' first
       | (refine And.intro (fun hx_ => ?_) (fun hx_ => ?_) <;> first | exact absurd hx_ (of_decide_eq_false rfl) | exact absurd (of_decide_eq_true rfl) hx_ | exact absurd hx_ (by assumption) | exact absurd (by assumption) hx_ | skip)
       | (refine And.intro rfl ?_)
       | (refine And.intro ⟨rfl, vpd rfl⟩ ?_)
       | (refine And.intro ⟨rfl, by assumption⟩ ?_)
       | (refine And.intro (by assumption) ?_)
       | (refine And.intro ⟨rfl, ?_⟩ ?_)
       | (refine And.intro ?_ ?_)
    all_goals exact hK _ _ _ _ _ _ _ hM
  · have hM : sg_Mid L xs I n s (128, 2, 0, [.ref 107, .int x, .int v], []) (-1000000001) kt I J T n s := by
      refine ⟨h13, rfl, ?_⟩
      refine am_wq_T (cut := fun _ _ => false) (inl := fun _ => true) 120 _ _ _ ?_
      repeat' first
         | (refine And.intro (fun hx_ => ?_) (fun hx_ => ?_) <;> first | exact absurd hx_ (of_decide_eq_false rfl) | exact absurd (of_decide_eq_true rfl) hx_ | exact absurd hx_ (by assumption) | exact absurd (by assumption) hx_ | skip)
         | (refine And.intro rfl ?_)
         | (refine And.intro ⟨rfl, vpd rfl⟩ ?_)
         | (refine And.intro ⟨rfl, by assumption⟩ ?_)
         | (refine And.intro (by assumption) ?_)
         | (refine And.intro ⟨rfl, ?_⟩ ?_)
         | (refine And.intro ?_ ?_)
      all_goals exact End_of rfl hS
    refine am_wq_T (cut := fun _ _ => false) (inl := fun _ => true) 120 _ _ _ ?_
    repeat' first
       | (refine And.intro (fun hx_ => ?_) (fun hx_ => ?_) <;> first | exact absurd hx_ (of_decide_eq_false rfl) | exact absurd (of_decide_eq_true rfl) hx_ | exact absurd hx_ (by assumption) | exact absurd (by assumption) hx_ | skip)
       | (refine And.intro rfl ?_)
       | (refine And.intro ⟨rfl, vpd rfl⟩ ?_)
       | (refine And.intro ⟨rfl, by assumption⟩ ?_)
       | (refine And.intro (by assumption) ?_)
       | (refine And.intro ⟨rfl, ?_⟩ ?_)
       | (refine And.intro ?_ ?_)
    all_goals exact hK _ _ _ _ _ _ _ hM
theorem L_as (x v : Int32) : sg_Call (64, 1, 0, [.ref 20, .int x, .int v, .null], []) (130, 2, 0, [.ref 107, .int x, .int v], []) := by
  intro L xs kt I J T n s K hS hK
  have h13 := hS.1.2.2.2.1
  have h14 : I 14 = am_above := (hS.1.2.2.2.2.1 14 (by decide)).1
  obtain ⟨hc, wc, tc, hR, hB⟩ := hS.2.1
  rcases hole_cases hR x with ⟨h, hh, hh10, rfl, a0, a1, a2, hv⟩ | a0 | ⟨a0, a1, a2⟩
  · have hk : am_K (am_k kt, I, J, am_r T, n, s) (am_R (am_k kt, I, J, am_r T, n, s) 22 (nI h).toNatClampNeg) = (1, 5) := by rw [rH21 hh10]; exact kH21 hh10
    have hnz : ¬ am_R (am_k kt, I, J, am_r T, n, s) 22 (nI h).toNatClampNeg = 0 := by rw [rH21 hh10]; omega
    have hr : am_R (am_k kt, I, J, am_r T, n, s) 22 (nI h).toNatClampNeg = 27 + h := rH21 hh10
    have hf := hR.2.2.2.2.2.2.2.2.2.1 h hh
    have hf0 : I (27 + h) 0 = I 108 (21 + 5 * h) := hf 0 (by decide)
    rcases rng v 0 5 with ⟨b0, b1⟩ | b0 | ⟨b0, b1⟩
    · have hb : sg_in (I (am_R (am_k kt, I, J, am_r T, n, s) 22 (nI h).toNatClampNeg) 0) 0 5 := by rw [hr, hf0]; exact (hB.1 h hh).1
      by_cases hu : und (I 108 (21 + 5 * h)) v
      · have hu' : und (I (am_R (am_k kt, I, J, am_r T, n, s) 22 (nI h).toNatClampNeg) 0) v := by rw [hr, hf0]; exact hu
        have hM : sg_Mid L xs I n s (130, 2, 0, [.ref 107, .int (nI h), .int v], []) (I (27 + h) 2) kt I J T n s := by
          refine ⟨h13, rfl, ?_⟩
          refine am_wq_T (cut := fun _ _ => false) (inl := fun z => !((Nat.beq z 121 || Nat.beq z 129))) 120 _ _ _ ?_
          repeat' first
             | (refine m_of (h := h) (w := 0) rfl rfl (by omega) (by decide) ?_)
             | (refine m_of (h := h) (w := 2) rfl rfl (by omega) (by decide) ?_)
             | (refine m_under (fun _ => ?_) (fun q => absurd hu q))
             | (refine And.intro (fun hx_ => ?_) (fun hx_ => ?_) <;> first | exact absurd hx_ (of_decide_eq_false rfl) | exact absurd (of_decide_eq_true rfl) hx_ | exact absurd hx_ (by assumption) | exact absurd (by assumption) hx_ | skip)
             | (refine And.intro rfl ?_)
             | (refine And.intro ⟨rfl, vpd rfl⟩ ?_)
             | (refine And.intro ⟨rfl, by assumption⟩ ?_)
             | (refine And.intro (by assumption) ?_)
             | (refine And.intro ⟨rfl, ?_⟩ ?_)
             | (refine And.intro ?_ ?_)
          exact End_of (hf 2 (by decide)).symm hS
        have key := hK _ _ _ _ _ _ _ hM
        rw [← hr] at key
        refine am_wq_T (cut := fun _ _ => false) (inl := fun z => !(Nat.beq z 11)) 120 _ _ _ ?_
        repeat' first
           | (refine c_isOf v h14 (by assumption) hb (fun _ => ?_) (fun q => absurd hu' q))
           | (refine And.intro (fun hx_ => ?_) (fun hx_ => ?_) <;> first | exact absurd hx_ (of_decide_eq_false rfl) | exact absurd (of_decide_eq_true rfl) hx_ | exact absurd hx_ (by assumption) | exact absurd (by assumption) hx_ | skip)
           | (refine And.intro rfl ?_)
           | (refine And.intro ⟨rfl, vpd rfl⟩ ?_)
           | (refine And.intro ⟨rfl, by assumption⟩ ?_)
           | (refine And.intro (by assumption) ?_)
           | (refine And.intro ⟨rfl, ?_⟩ ?_)
           | (refine And.intro ?_ ?_)
        exact key
      · have hu' : ¬ und (I (am_R (am_k kt, I, J, am_r T, n, s) 22 (nI h).toNatClampNeg) 0) v := by rw [hr, hf0]; exact hu
        have hM : sg_Mid L xs I n s (130, 2, 0, [.ref 107, .int (nI h), .int v], []) (-1000000012) kt I J T n s := by
          refine ⟨h13, rfl, ?_⟩
          refine am_wq_T (cut := fun _ _ => false) (inl := fun z => !((Nat.beq z 121 || Nat.beq z 129))) 120 _ _ _ ?_
          repeat' first
             | (refine m_of (h := h) (w := 0) rfl rfl (by omega) (by decide) ?_)
             | (refine m_under (fun q => absurd q hu) (fun _ => ?_))
             | (refine And.intro (fun hx_ => ?_) (fun hx_ => ?_) <;> first | exact absurd hx_ (of_decide_eq_false rfl) | exact absurd (of_decide_eq_true rfl) hx_ | exact absurd hx_ (by assumption) | exact absurd (by assumption) hx_ | skip)
             | (refine And.intro rfl ?_)
             | (refine And.intro ⟨rfl, vpd rfl⟩ ?_)
             | (refine And.intro ⟨rfl, by assumption⟩ ?_)
             | (refine And.intro (by assumption) ?_)
             | (refine And.intro ⟨rfl, ?_⟩ ?_)
             | (refine And.intro ?_ ?_)
          exact End_of rfl hS
        have key := hK _ _ _ _ _ _ _ hM
        refine am_wq_T (cut := fun _ _ => false) (inl := fun z => !(Nat.beq z 11)) 120 _ _ _ ?_
        repeat' first
           | (refine c_isOf v h14 (by assumption) hb (fun q => absurd q hu') (fun _ => ?_))
           | (refine And.intro (fun hx_ => ?_) (fun hx_ => ?_) <;> first | exact absurd hx_ (of_decide_eq_false rfl) | exact absurd (of_decide_eq_true rfl) hx_ | exact absurd hx_ (by assumption) | exact absurd (by assumption) hx_ | skip)
           | (refine And.intro rfl ?_)
           | (refine And.intro ⟨rfl, vpd rfl⟩ ?_)
           | (refine And.intro ⟨rfl, by assumption⟩ ?_)
           | (refine And.intro (by assumption) ?_)
           | (refine And.intro ⟨rfl, ?_⟩ ?_)
           | (refine And.intro ?_ ?_)
        exact key
    · have hM : sg_Mid L xs I n s (130, 2, 0, [.ref 107, .int (nI h), .int v], []) (-1000000001) kt I J T n s := by
        refine ⟨h13, rfl, ?_⟩
        refine am_wq_T (cut := fun _ _ => false) (inl := fun _ => true) 120 _ _ _ ?_
        repeat' first
           | (refine And.intro (fun hx_ => ?_) (fun hx_ => ?_) <;> first | exact absurd hx_ (of_decide_eq_false rfl) | exact absurd (of_decide_eq_true rfl) hx_ | exact absurd hx_ (by assumption) | exact absurd (by assumption) hx_ | skip)
           | (refine And.intro rfl ?_)
           | (refine And.intro ⟨rfl, vpd rfl⟩ ?_)
           | (refine And.intro ⟨rfl, by assumption⟩ ?_)
           | (refine And.intro (by assumption) ?_)
           | (refine And.intro ⟨rfl, ?_⟩ ?_)
           | (refine And.intro ?_ ?_)
        all_goals exact End_of rfl hS
      refine am_wq_T (cut := fun _ _ => false) (inl := fun _ => true) 120 _ _ _ ?_
      repeat' first
         | (refine And.intro (fun hx_ => ?_) (fun hx_ => ?_) <;> first | exact absurd hx_ (of_decide_eq_false rfl) | exact absurd (of_decide_eq_true rfl) hx_ | exact absurd hx_ (by assumption) | exact absurd (by assumption) hx_ | skip)
         | (refine And.intro rfl ?_)
         | (refine And.intro ⟨rfl, vpd rfl⟩ ?_)
         | (refine And.intro ⟨rfl, by assumption⟩ ?_)
         | (refine And.intro (by assumption) ?_)
         | (refine And.intro ⟨rfl, ?_⟩ ?_)
         | (refine And.intro ?_ ?_)
      all_goals exact hK _ _ _ _ _ _ _ hM
    · have hM : sg_Mid L xs I n s (130, 2, 0, [.ref 107, .int (nI h), .int v], []) (-1000000001) kt I J T n s := by
        refine ⟨h13, rfl, ?_⟩
        refine am_wq_T (cut := fun _ _ => false) (inl := fun _ => true) 120 _ _ _ ?_
        repeat' first
           | (refine And.intro (fun hx_ => ?_) (fun hx_ => ?_) <;> first | exact absurd hx_ (of_decide_eq_false rfl) | exact absurd (of_decide_eq_true rfl) hx_ | exact absurd hx_ (by assumption) | exact absurd (by assumption) hx_ | skip)
           | (refine And.intro rfl ?_)
           | (refine And.intro ⟨rfl, vpd rfl⟩ ?_)
           | (refine And.intro ⟨rfl, by assumption⟩ ?_)
           | (refine And.intro (by assumption) ?_)
           | (refine And.intro ⟨rfl, ?_⟩ ?_)
           | (refine And.intro ?_ ?_)
        all_goals exact End_of rfl hS
      refine am_wq_T (cut := fun _ _ => false) (inl := fun _ => true) 120 _ _ _ ?_
      repeat' first
         | (refine And.intro (fun hx_ => ?_) (fun hx_ => ?_) <;> first | exact absurd hx_ (of_decide_eq_false rfl) | exact absurd (of_decide_eq_true rfl) hx_ | exact absurd hx_ (by assumption) | exact absurd (by assumption) hx_ | skip)
         | (refine And.intro rfl ?_)
         | (refine And.intro ⟨rfl, vpd rfl⟩ ?_)
         | (refine And.intro ⟨rfl, by assumption⟩ ?_)
         | (refine And.intro (by assumption) ?_)
         | (refine And.intro ⟨rfl, ?_⟩ ?_)
         | (refine And.intro ?_ ?_)
      all_goals exact hK _ _ _ _ _ _ _ hM
  · have hM : sg_Mid L xs I n s (130, 2, 0, [.ref 107, .int x, .int v], []) (-1000000001) kt I J T n s := by
      refine ⟨h13, rfl, ?_⟩
      refine am_wq_T (cut := fun _ _ => false) (inl := fun _ => true) 120 _ _ _ ?_
      repeat' first
         | (refine And.intro (fun hx_ => ?_) (fun hx_ => ?_) <;> first | exact absurd hx_ (of_decide_eq_false rfl) | exact absurd (of_decide_eq_true rfl) hx_ | exact absurd hx_ (by assumption) | exact absurd (by assumption) hx_ | skip)
         | (refine And.intro rfl ?_)
         | (refine And.intro ⟨rfl, vpd rfl⟩ ?_)
         | (refine And.intro ⟨rfl, by assumption⟩ ?_)
         | (refine And.intro (by assumption) ?_)
         | (refine And.intro ⟨rfl, ?_⟩ ?_)
         | (refine And.intro ?_ ?_)
      all_goals exact End_of rfl hS
    refine am_wq_T (cut := fun _ _ => false) (inl := fun _ => true) 120 _ _ _ ?_
    repeat' first
       | (refine And.intro (fun hx_ => ?_) (fun hx_ => ?_) <;> first | exact absurd hx_ (of_decide_eq_false rfl) | exact absurd (of_decide_eq_true rfl) hx_ | exact absurd hx_ (by assumption) | exact absurd (by assumption) hx_ | skip)
       | (refine And.intro rfl ?_)
       | (refine And.intro ⟨rfl, vpd rfl⟩ ?_)
       | (refine And.intro ⟨rfl, by assumption⟩ ?_)
       | (refine And.intro (by assumption) ?_)
       | (refine And.intro ⟨rfl, ?_⟩ ?_)
       | (refine And.intro ?_ ?_)
    all_goals exact hK _ _ _ _ _ _ _ hM
  · have hM : sg_Mid L xs I n s (130, 2, 0, [.ref 107, .int x, .int v], []) (-1000000001) kt I J T n s := by
      refine ⟨h13, rfl, ?_⟩
      refine am_wq_T (cut := fun _ _ => false) (inl := fun _ => true) 120 _ _ _ ?_
      repeat' first
         | (refine And.intro (fun hx_ => ?_) (fun hx_ => ?_) <;> first | exact absurd hx_ (of_decide_eq_false rfl) | exact absurd (of_decide_eq_true rfl) hx_ | exact absurd hx_ (by assumption) | exact absurd (by assumption) hx_ | skip)
         | (refine And.intro rfl ?_)
         | (refine And.intro ⟨rfl, vpd rfl⟩ ?_)
         | (refine And.intro ⟨rfl, by assumption⟩ ?_)
         | (refine And.intro (by assumption) ?_)
         | (refine And.intro ⟨rfl, ?_⟩ ?_)
         | (refine And.intro ?_ ?_)
      all_goals exact End_of rfl hS
    refine am_wq_T (cut := fun _ _ => false) (inl := fun _ => true) 120 _ _ _ ?_
    repeat' first
       | (refine And.intro (fun hx_ => ?_) (fun hx_ => ?_) <;> first | exact absurd hx_ (of_decide_eq_false rfl) | exact absurd (of_decide_eq_true rfl) hx_ | exact absurd hx_ (by assumption) | exact absurd (by assumption) hx_ | skip)
       | (refine And.intro rfl ?_)
       | (refine And.intro ⟨rfl, vpd rfl⟩ ?_)
       | (refine And.intro ⟨rfl, by assumption⟩ ?_)
       | (refine And.intro (by assumption) ?_)
       | (refine And.intro ⟨rfl, ?_⟩ ?_)
       | (refine And.intro ?_ ?_)
    all_goals exact hK _ _ _ _ _ _ _ hM
end T37
