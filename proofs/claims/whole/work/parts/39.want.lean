/-! want -/
section T39
variable {kt : Nat → Nat × Nat} {I I' : Nat → Nat → Int32} {J J' : Nat → Nat → Int64} {T : Nat → Nat → Nat} {n s : Nat} {L : Nat} {xs : Nat → Int32} {K : Option Value → am_M → Prop}
theorem e9_of (w : Nat) : (9 : Int32) + 2 * nI w = nI (9 + 2 * w) := by rw [show (9 : Int32) = nI 9 from rfl, show (2 : Int32) = nI 2 from rfl, pk_mul, nI_add]
theorem m_want3 {wc : Nat} {x v : Int32} (hN : I 108 7 = nI wc) (hw : wc < 6) (hK : K (some (.int (nI wc))) (am_mk kt (am_up I 108 7 (nI (wc + 1))) J T n s)) : am_T am_C (145, 2, 70, [.ref 107, .int x, .int v], []) (am_mk kt I J T n s) K := by
  refine am_wq_T (cut := fun _ _ => false) (inl := fun _ => true) 120 _ _ _ ?_
  repeat' first
     | (refine And.intro (fun hx_ => ?_) (fun hx_ => ?_) <;> first | exact absurd hx_ (of_decide_eq_false rfl) | exact absurd (of_decide_eq_true rfl) hx_ | exact absurd hx_ (by assumption) | exact absurd (by assumption) hx_ | skip)
     | (refine And.intro rfl ?_)
     | (refine And.intro ⟨rfl, vpd rfl⟩ ?_)
     | (refine And.intro ⟨rfl, by assumption⟩ ?_)
     | (refine And.intro (by assumption) ?_)
     | (refine And.intro ⟨rfl, ?_⟩ ?_)
     | (refine And.intro ?_ ?_)
  rw [← nI_pred, nI_succ, ← hN] at hK
  exact hK
theorem m_want2 {wc : Nat} {x v : Int32} (hN : I 108 7 = nI wc) (hw : wc < 6) (hK : K (some (.int (nI wc))) (am_mk kt (am_up (am_up I 108 (10 + 2 * wc) v) 108 7 (nI (wc + 1))) J T n s)) : am_T am_C (145, 2, 50, [.ref 107, .int x, .int v], []) (am_mk kt I J T n s) K := by
  have e : 9 + 2 * I 108 7 + 1 = nI (10 + 2 * wc) := by rw [hN, e9_of, nI_1, show 9 + 2 * wc + 1 = 10 + 2 * wc by omega]
  have hv : vp_in (9 + 2 * I 108 7 + 1) 1448 := by rw [e]; exact vpl (by omega) (by decide)
  refine am_wq_T (cut := fun z pc => (Nat.beq z 145 && Nat.beq pc 70)) (inl := fun _ => true) 120 _ _ _ ?_
  repeat' first
     | (refine And.intro (fun hx_ => ?_) (fun hx_ => ?_) <;> first | exact absurd hx_ (of_decide_eq_false rfl) | exact absurd (of_decide_eq_true rfl) hx_ | exact absurd hx_ (by assumption) | exact absurd (by assumption) hx_ | skip)
     | (refine And.intro rfl ?_)
     | (refine And.intro ⟨rfl, vpd rfl⟩ ?_)
     | (refine And.intro ⟨rfl, by assumption⟩ ?_)
     | (refine And.intro (by assumption) ?_)
     | (refine And.intro ⟨rfl, ?_⟩ ?_)
     | (refine And.intro ?_ ?_)
  have key := m_want3 (I := am_up I 108 (10 + 2 * wc) v) (x := x) (v := v) (wc := wc) (by rw [up_ne (by omega)]; exact hN) hw hK
  rw [← nI_clamp (n := 10 + 2 * wc) (by omega), ← e] at key
  exact key
theorem m_want {wc : Nat} {x v : Int32} (hN : I 108 7 = nI wc) (hw : wc < 6) (a0 : ¬ x < 0) (a1 : ¬ 29 < x) (b0 : ¬ v < 1) (b1 : ¬ 99 < v) (hK : K (some (.int (nI wc))) (am_mk kt (am_up (am_up (am_up I 108 (9 + 2 * wc) x) 108 (10 + 2 * wc) v) 108 7 (nI (wc + 1))) J T n s)) : am_T am_C (145, 2, 0, [.ref 107, .int x, .int v], []) (am_mk kt I J T n s) K := by
  have hN' : ¬ I 108 7 = 6 := by rw [hN]; intro q; have := (nI_eq (b := 6) (by omega) (by decide)).mp q; omega
  have e : 9 + 2 * I 108 7 = nI (9 + 2 * wc) := by rw [hN, e9_of]
  have hv : vp_in (9 + 2 * I 108 7) 1448 := by rw [e]; exact vpl (by omega) (by decide)
  refine am_wq_T (cut := fun z pc => (Nat.beq z 145 && Nat.beq pc 50)) (inl := fun _ => true) 120 _ _ _ ?_
  repeat' first
     | (refine And.intro (fun hx_ => ?_) (fun hx_ => ?_) <;> first | exact absurd hx_ (of_decide_eq_false rfl) | exact absurd (of_decide_eq_true rfl) hx_ | exact absurd hx_ (by assumption) | exact absurd (by assumption) hx_ | skip)
     | (refine And.intro rfl ?_)
     | (refine And.intro ⟨rfl, vpd rfl⟩ ?_)
     | (refine And.intro ⟨rfl, by assumption⟩ ?_)
     | (refine And.intro (by assumption) ?_)
     | (refine And.intro ⟨rfl, ?_⟩ ?_)
     | (refine And.intro ?_ ?_)
  have key := m_want2 (I := am_up I 108 (9 + 2 * wc) x) (x := x) (v := v) (wc := wc) (by rw [up_ne (by omega)]; exact hN) hw hK
  rw [← nI_clamp (n := 9 + 2 * wc) (by omega), ← e] at key
  exact key
theorem L_want (x v : Int32) : sg_Call (73, 1, 0, [.ref 20, .int x, .int v, .null], []) (145, 2, 0, [.ref 107, .int x, .int v], []) := by
  intro L xs kt I J T n s K hS hK
  have h13 := hS.1.2.2.2.1
  obtain ⟨hc, wc, tc, hR, hB⟩ := hS.2.1
  have hN : I 108 7 = nI wc := hR.2.2.2.2.1
  have hN2 : I 21 4 = nI wc := hR.2.2.2.2.2.2.2.1
  rcases rng x 0 29 with ⟨a0, a1⟩ | a0 | ⟨a0, a1⟩
  · rcases rng v 1 99 with ⟨b0, b1⟩ | b0 | ⟨b0, b1⟩
    · by_cases hw : wc < 6
      · have h6 : I 21 4 < 6 := by rw [hN2]; exact nI_lt (b := 6) hw (by decide)
        have hv : vp_in (I 21 4) 6 := by rw [hN2]; exact vpl hw (by decide)
        have hM : sg_Mid L xs I n s (145, 2, 0, [.ref 107, .int x, .int v], []) (nI wc) kt (am_up (am_up (am_up I 23 wc x) 24 wc v) 21 4 (nI (wc + 1))) J T n s := by
          refine ⟨h13, by rw [up_off (by omega), up_off (by omega), up_off (by omega)], m_want (wc := wc) (by rw [up_off (by omega), up_off (by omega), up_off (by omega)]; exact hN) hw a0 a1 b0 b1 ?_⟩
          refine End_of rfl (sim_land (fun r' k' _ h1 h2 => ?_) (fun _ _ => rfl) ?_ hS)
          · rw [up_ne (by omega), up_ne (by omega), up_ne (by omega), up_ne (by omega), up_ne (by omega), up_ne (by omega)]
          · rw [up_row, up_row, up_row, up_off (by omega), up_off (by omega), up_off (by omega)]
            have q1 := LR_up (v := x) (r := 23) (k := wc) (j := 9 + 2 * wc) (by decide) (by unfold cellR; omega) hR
            have q2 := LR_up (v := v) (r := 24) (k := wc) (j := 10 + 2 * wc) (by decide) (by unfold cellR; omega) q1
            refine ⟨hc, wc + 1, tc, LR_off (by decide) (by omega) (LR_off (by decide) (by omega) (LR_off (by decide) (by omega) (LR_wc (by decide) (by omega) ?_ q2))), ?_⟩
            · intro w hw'
              rcases Nat.lt_or_ge w wc with c | c
              · exact q2.2.2.2.2.2.2.2.2.2.2.1 w c
              · have : w = wc := by omega
                subst this
                refine ⟨?_, ?_⟩
                · rw [up_ne (by omega), up_eq, upN_ne (by omega), upN_eq]
                · rw [up_eq, show 9 + 2 * w + 1 = 10 + 2 * w by omega, upN_eq]
            · have b := LB_iff.mp hB
              refine LB_more 7 (by omega) (LB_iff.mpr ⟨?_, ?_, ?_, ?_, ?_⟩)
              · intro h hh k hk
                rw [upN_ne (by omega), upN_ne (by omega)]; exact b.1 h hh k hk
              · intro w hw'
                rcases Nat.lt_or_ge w wc with c | c
                · rw [upN_ne (by omega), upN_ne (by omega), upN_ne (by omega), upN_ne (by omega)]; exact b.2.1 w c
                · have : w = wc := by omega
                  subst this
                  rw [upN_ne (by omega), upN_eq, upN_eq]
                  unfold sg_in
                  refine ⟨?_, ?_⟩
                  · clear hK hS hR hB b q1 q2; (simp only [Int32.lt_iff_toInt_lt, Int32.le_iff_toInt_le, gt_iff_lt, ge_iff_le, ← Int32.toInt_inj, Int32.reduceToInt, Int32.reduceMul, Int32.reduceAdd, Int32.reduceSub, ne_eq, true_and, and_true, false_and, and_false, not_true_eq_false, not_false_eq_true, true_or, or_true, false_or, or_false] at *; omega)
                  · clear hK hS hR hB b q1 q2; (simp only [Int32.lt_iff_toInt_lt, Int32.le_iff_toInt_le, gt_iff_lt, ge_iff_le, ← Int32.toInt_inj, Int32.reduceToInt, Int32.reduceMul, Int32.reduceAdd, Int32.reduceSub, ne_eq, true_and, and_true, false_and, and_false, not_true_eq_false, not_false_eq_true, true_or, or_true, false_or, or_false] at *; omega)
              · rw [upN_ne (by omega), upN_ne (by omega)]; exact b.2.2.1
              · rw [upN_ne (by omega), upN_ne (by omega)]; exact b.2.2.2.1
              · rw [upN_ne (by omega), upN_ne (by omega)]; exact b.2.2.2.2
        have key := hK _ _ _ _ _ _ _ hM
        rw [nI_succ, ← hN2, ← nI_clamp (n := wc) (by omega), ← hN2] at key
        refine am_wq_T (cut := fun _ _ => false) (inl := fun _ => true) 120 _ _ _ ?_
        repeat' first
           | (refine And.intro (fun hx_ => ?_) (fun hx_ => ?_) <;> first | exact absurd hx_ (of_decide_eq_false rfl) | exact absurd (of_decide_eq_true rfl) hx_ | exact absurd hx_ (by assumption) | exact absurd (by assumption) hx_ | skip)
           | (refine And.intro rfl ?_)
           | (refine And.intro ⟨rfl, vpd rfl⟩ ?_)
           | (refine And.intro ⟨rfl, by assumption⟩ ?_)
           | (refine And.intro (by assumption) ?_)
           | (refine And.intro ⟨rfl, ?_⟩ ?_)
           | (refine And.intro ?_ ?_)
        exact key
      · have e6 : wc = 6 := by have := hR.2.1; omega
        subst e6
        have h6 : ¬ I 21 4 < 6 := by rw [hN2]; exact nI_nlt (b := 6) (by decide) (by decide)
        have h7 : I 108 7 = 6 := hN
        have hM : sg_Mid L xs I n s (145, 2, 0, [.ref 107, .int x, .int v], []) (-1000000003) kt I J T n s := by
          refine ⟨h13, rfl, ?_⟩
          refine am_wq_T (cut := fun _ _ => false) (inl := fun _ => true) 120 _ _ _ ?_
          repeat' first
             | (refine And.intro (fun hx_ => ?_) (fun hx_ => ?_) <;> first | exact absurd hx_ (of_decide_eq_false rfl) | exact absurd (of_decide_eq_true rfl) hx_ | exact absurd hx_ (by assumption) | exact absurd (by assumption) hx_ | skip)
             | (refine And.intro rfl ?_)
             | (refine And.intro ⟨rfl, vpd rfl⟩ ?_)
             | (refine And.intro ⟨rfl, by assumption⟩ ?_)
             | (refine And.intro (by assumption) ?_)
             | (refine And.intro ⟨rfl, ?_⟩ ?_)
             | (refine And.intro ?_ ?_)
          all_goals exact End_of rfl hS
        refine am_wq_T (cut := fun _ _ => false) (inl := fun _ => true) 120 _ _ _ ?_
        repeat' first
           | (refine And.intro (fun hx_ => ?_) (fun hx_ => ?_) <;> first | exact absurd hx_ (of_decide_eq_false rfl) | exact absurd (of_decide_eq_true rfl) hx_ | exact absurd hx_ (by assumption) | exact absurd (by assumption) hx_ | skip)
           | (refine And.intro rfl ?_)
           | (refine And.intro ⟨rfl, vpd rfl⟩ ?_)
           | (refine And.intro ⟨rfl, by assumption⟩ ?_)
           | (refine And.intro (by assumption) ?_)
           | (refine And.intro ⟨rfl, ?_⟩ ?_)
           | (refine And.intro ?_ ?_)
        all_goals exact hK _ _ _ _ _ _ _ hM
    · have hM : sg_Mid L xs I n s (145, 2, 0, [.ref 107, .int x, .int v], []) (-1000000001) kt I J T n s := by
        refine ⟨h13, rfl, ?_⟩
        refine am_wq_T (cut := fun _ _ => false) (inl := fun _ => true) 120 _ _ _ ?_
        repeat' first
           | (refine And.intro (fun hx_ => ?_) (fun hx_ => ?_) <;> first | exact absurd hx_ (of_decide_eq_false rfl) | exact absurd (of_decide_eq_true rfl) hx_ | exact absurd hx_ (by assumption) | exact absurd (by assumption) hx_ | skip)
           | (refine And.intro rfl ?_)
           | (refine And.intro ⟨rfl, vpd rfl⟩ ?_)
           | (refine And.intro ⟨rfl, by assumption⟩ ?_)
           | (refine And.intro (by assumption) ?_)
           | (refine And.intro ⟨rfl, ?_⟩ ?_)
           | (refine And.intro ?_ ?_)
        all_goals exact End_of rfl hS
      refine am_wq_T (cut := fun _ _ => false) (inl := fun _ => true) 120 _ _ _ ?_
      repeat' first
         | (refine And.intro (fun hx_ => ?_) (fun hx_ => ?_) <;> first | exact absurd hx_ (of_decide_eq_false rfl) | exact absurd (of_decide_eq_true rfl) hx_ | exact absurd hx_ (by assumption) | exact absurd (by assumption) hx_ | skip)
         | (refine And.intro rfl ?_)
         | (refine And.intro ⟨rfl, vpd rfl⟩ ?_)
         | (refine And.intro ⟨rfl, by assumption⟩ ?_)
         | (refine And.intro (by assumption) ?_)
         | (refine And.intro ⟨rfl, ?_⟩ ?_)
         | (refine And.intro ?_ ?_)
      all_goals exact hK _ _ _ _ _ _ _ hM
    · have hM : sg_Mid L xs I n s (145, 2, 0, [.ref 107, .int x, .int v], []) (-1000000001) kt I J T n s := by
        refine ⟨h13, rfl, ?_⟩
        refine am_wq_T (cut := fun _ _ => false) (inl := fun _ => true) 120 _ _ _ ?_
        repeat' first
           | (refine And.intro (fun hx_ => ?_) (fun hx_ => ?_) <;> first | exact absurd hx_ (of_decide_eq_false rfl) | exact absurd (of_decide_eq_true rfl) hx_ | exact absurd hx_ (by assumption) | exact absurd (by assumption) hx_ | skip)
           | (refine And.intro rfl ?_)
           | (refine And.intro ⟨rfl, vpd rfl⟩ ?_)
           | (refine And.intro ⟨rfl, by assumption⟩ ?_)
           | (refine And.intro (by assumption) ?_)
           | (refine And.intro ⟨rfl, ?_⟩ ?_)
           | (refine And.intro ?_ ?_)
        all_goals exact End_of rfl hS
      refine am_wq_T (cut := fun _ _ => false) (inl := fun _ => true) 120 _ _ _ ?_
      repeat' first
         | (refine And.intro (fun hx_ => ?_) (fun hx_ => ?_) <;> first | exact absurd hx_ (of_decide_eq_false rfl) | exact absurd (of_decide_eq_true rfl) hx_ | exact absurd hx_ (by assumption) | exact absurd (by assumption) hx_ | skip)
         | (refine And.intro rfl ?_)
         | (refine And.intro ⟨rfl, vpd rfl⟩ ?_)
         | (refine And.intro ⟨rfl, by assumption⟩ ?_)
         | (refine And.intro (by assumption) ?_)
         | (refine And.intro ⟨rfl, ?_⟩ ?_)
         | (refine And.intro ?_ ?_)
      all_goals exact hK _ _ _ _ _ _ _ hM
  · have hM : sg_Mid L xs I n s (145, 2, 0, [.ref 107, .int x, .int v], []) (-1000000001) kt I J T n s := by
      refine ⟨h13, rfl, ?_⟩
      refine am_wq_T (cut := fun _ _ => false) (inl := fun _ => true) 120 _ _ _ ?_
      repeat' first
         | (refine And.intro (fun hx_ => ?_) (fun hx_ => ?_) <;> first | exact absurd hx_ (of_decide_eq_false rfl) | exact absurd (of_decide_eq_true rfl) hx_ | exact absurd hx_ (by assumption) | exact absurd (by assumption) hx_ | skip)
         | (refine And.intro rfl ?_)
         | (refine And.intro ⟨rfl, vpd rfl⟩ ?_)
         | (refine And.intro ⟨rfl, by assumption⟩ ?_)
         | (refine And.intro (by assumption) ?_)
         | (refine And.intro ⟨rfl, ?_⟩ ?_)
         | (refine And.intro ?_ ?_)
      all_goals exact End_of rfl hS
    refine am_wq_T (cut := fun _ _ => false) (inl := fun _ => true) 120 _ _ _ ?_
    repeat' first
       | (refine And.intro (fun hx_ => ?_) (fun hx_ => ?_) <;> first | exact absurd hx_ (of_decide_eq_false rfl) | exact absurd (of_decide_eq_true rfl) hx_ | exact absurd hx_ (by assumption) | exact absurd (by assumption) hx_ | skip)
       | (refine And.intro rfl ?_)
       | (refine And.intro ⟨rfl, vpd rfl⟩ ?_)
       | (refine And.intro ⟨rfl, by assumption⟩ ?_)
       | (refine And.intro (by assumption) ?_)
       | (refine And.intro ⟨rfl, ?_⟩ ?_)
       | (refine And.intro ?_ ?_)
    all_goals exact hK _ _ _ _ _ _ _ hM
  · have hM : sg_Mid L xs I n s (145, 2, 0, [.ref 107, .int x, .int v], []) (-1000000001) kt I J T n s := by
      refine ⟨h13, rfl, ?_⟩
      refine am_wq_T (cut := fun _ _ => false) (inl := fun _ => true) 120 _ _ _ ?_
      repeat' first
         | (refine And.intro (fun hx_ => ?_) (fun hx_ => ?_) <;> first | exact absurd hx_ (of_decide_eq_false rfl) | exact absurd (of_decide_eq_true rfl) hx_ | exact absurd hx_ (by assumption) | exact absurd (by assumption) hx_ | skip)
         | (refine And.intro rfl ?_)
         | (refine And.intro ⟨rfl, vpd rfl⟩ ?_)
         | (refine And.intro ⟨rfl, by assumption⟩ ?_)
         | (refine And.intro (by assumption) ?_)
         | (refine And.intro ⟨rfl, ?_⟩ ?_)
         | (refine And.intro ?_ ?_)
      all_goals exact End_of rfl hS
    refine am_wq_T (cut := fun _ _ => false) (inl := fun _ => true) 120 _ _ _ ?_
    repeat' first
       | (refine And.intro (fun hx_ => ?_) (fun hx_ => ?_) <;> first | exact absurd hx_ (of_decide_eq_false rfl) | exact absurd (of_decide_eq_true rfl) hx_ | exact absurd hx_ (by assumption) | exact absurd (by assumption) hx_ | skip)
       | (refine And.intro rfl ?_)
       | (refine And.intro ⟨rfl, vpd rfl⟩ ?_)
       | (refine And.intro ⟨rfl, by assumption⟩ ?_)
       | (refine And.intro (by assumption) ?_)
       | (refine And.intro ⟨rfl, ?_⟩ ?_)
       | (refine And.intro ?_ ?_)
    all_goals exact hK _ _ _ _ _ _ _ hM
end T39
