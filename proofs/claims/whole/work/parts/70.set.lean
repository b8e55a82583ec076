/-! set -/
section T70
variable {kt : Nat → Nat × Nat} {I I' : Nat → Nat → Int32} {J J' : Nat → Nat → Int64} {T T' : Nat → Nat → Nat} {n s : Nat} {L : Nat} {xs : Nat → Int32} {K : Option Value → am_M → Prop} {N N' : Nat → Int32} {hc wc tc h w : Nat}
theorem in4 {v : Int32} (b0 : ¬ v < 1) (b1 : ¬ 4 < v) : v = 1 ∨ v = 2 ∨ v = 3 ∨ v = 4 := by (simp only [Int32.lt_iff_toInt_lt, Int32.le_iff_toInt_le, gt_iff_lt, ge_iff_le, ← Int32.toInt_inj, Int32.reduceToInt, Int32.reduceMul, Int32.reduceAdd, Int32.reduceSub, ne_eq, true_and, and_true, false_and, and_false, not_true_eq_false, not_false_eq_true, true_or, or_true, false_or, or_false] at *; omega)
theorem m_becomes {x v : Int32} {j : Nat} (hx : x = nI j) (hj : j < 1448) (hK : K (some (.int (I 108 j))) (am_mk kt (am_up I 108 j v) J T n s)) : am_T am_C (123, 0, 0, [.ref 107, .int x, .int v, .null], []) (am_mk kt I J T n s) K := by
  subst hx
  have v1 : vp_in (nI j) 1448 := vpl hj (by decide)
  have e : (nI j).toNatClampNeg = j := nI_clamp (by omega)
  rw [← e] at hK
  refine am_wq_T (cut := fun _ _ => false) (inl := fun _ => true) 120 _ _ _ ?_
  exact And.intro rfl (And.intro ⟨rfl, v1⟩ (And.intro rfl (And.intro ⟨rfl, v1⟩ hK)))
theorem set_land {k : Nat} {v : Int32} (hk : k < 5) (hh : h < hc) (hv : sg_in v 0 (bd k)) (hR : sg_LR kt I T n 21 (I 108) hc wc tc) (hB : sg_LB (I 108) hc wc) (hS : sg_Sim L xs kt I J T n) : sg_Sim L xs kt (am_up (am_up I (27 + h) k v) 108 (21 + 5 * h + k) v) J T n := by
  have h10 := hR.1
  refine sim_land (I := I) (fun r k _ p1 p2 => ?_) (fun _ _ => rfl) ?_ hS
  · rw [up_off p2, up_off (by omega)]
  · rw [up_row, up_off (by omega)]
    have q := LR_up (v := v) (r := 27 + h) (k := k) (j := 21 + 5 * h + k) (by decide) (by unfold cellR; omega) hR
    exact ⟨hc, wc, tc, LR_cg (fun r k hr => by rw [up_off (by omega)]) q, LB_hole hR.2.1 hk hv hB⟩
theorem L_set (x w v : Int32) : sg_Call (66, 2, 0, [.ref 20, .int x, .int w, .int v, .null, .null], []) (132, 2, 0, [.ref 107, .int x, .int w, .int v], []) := by
  intro L xs kt I J T n s K hS hK
  have h13 := hS.1.2.2.2.1
  obtain ⟨hc, wc, tc, hR, hB⟩ := hS.2.1
  have bad : sg_Mid L xs I n s (132, 2, 0, [.ref 107, .int x, .int w, .int v], []) (-1000000001) kt I J T n s → K (some (.int (-1000000001))) (am_mk kt I J T n s) := fun hM => hK _ _ _ _ _ _ _ hM
  rcases hole_cases hR x with ⟨h, hh, hh10, rfl, a0, a1, a2, hv⟩ | a0 | ⟨a0, a1, a2⟩
  · have hnz : ¬ 27 + h = 0 := by omega
    have hkh : am_k kt (27 + h) = (1, 5) := kL21 hh10
    have hf := hR.2.2.2.2.2.2.2.2.2.1 h hh
    rcases rng w 1 4 with ⟨c0, c1⟩ | c0 | ⟨c0, c1⟩
    · rcases in4 c0 c1 with rfl | rfl | rfl | rfl
      · rcases rng v 0 29 with ⟨b0, b1⟩ | b0 | ⟨b0, b1⟩
        · have hb : sg_in v 0 (bd 1) := by show sg_in v 0 29; unfold sg_in; clear hK hS hR hB bad hf; (simp only [Int32.lt_iff_toInt_lt, Int32.le_iff_toInt_le, gt_iff_lt, ge_iff_le, ← Int32.toInt_inj, Int32.reduceToInt, Int32.reduceMul, Int32.reduceAdd, Int32.reduceSub, ne_eq, true_and, and_true, false_and, and_false, not_true_eq_false, not_false_eq_true, true_or, or_true, false_or, or_false] at *; omega)
          have hM : sg_Mid L xs I n s (132, 2, 0, [.ref 107, .int (nI h), .int 1, .int v], []) (I (27 + h) 1) kt (am_up I (27 + h) 1 v) J T n s := by
            refine ⟨h13, by rw [up_off (by omega)], ?_⟩
            have a3 : ¬ am_up I (27 + h) 1 v 108 1 - 1 < nI h := by rw [up_off (by omega)]; exact a2
            refine am_wq_T (cut := fun _ _ => false) (inl := fun z => !((Nat.beq z 117 || (Nat.beq z 113 || Nat.beq z 123)))) 120 _ _ _ ?_
            refine And.intro rfl (m_isHole_y a0 a3 (And.intro (fun q => absurd q m1z) (fun _ => m_in_y c0 c1 (And.intro (fun q => absurd q m1z) (fun _ => And.intro (fun q => absurd rfl q) (fun _ => ?_))))))
            refine m_in_y b0 b1 (And.intro (fun _ => ?_) (fun q => absurd m1z q))
            refine And.intro rfl (m_becomes (j := 21 + 5 * h + 1) (ix_of h 1) (by omega) ?_)
            refine End_of ?_ (set_land (by decide) hh hb hR hB hS)
            rw [up_off (by omega)]; exact (hf 1 (by decide)).symm
          have key := hK _ _ _ _ _ _ _ hM
          refine am_wq_T (cut := fun _ _ => false) (inl := fun z => !((Nat.beq z 15 || Nat.beq z 105))) 120 _ _ _ ?_
          refine And.intro rfl (And.intro rfl (c_find_y a0 a1 hh10 hv (And.intro (fun q => absurd q hnz) (fun _ => And.intro (fun _ => ?_) (fun q => absurd rfl q)))))
          refine c_within_y b0 b1 (And.intro (fun _ => ?_) (fun q => absurd m1z q))
          refine And.intro hkh (And.intro (fun q => absurd q (by decide)) (fun _ => And.intro (fun _ => And.intro hkh ?_) (fun q => absurd rfl q)))
          exact And.intro hkh (And.intro (fun _ => And.intro hkh key) (fun q => absurd rfl q))
        all_goals
          have key := bad (by
            refine ⟨h13, rfl, ?_⟩
            refine am_wq_T (cut := fun _ _ => false) (inl := fun z => !((Nat.beq z 117 || (Nat.beq z 113 || Nat.beq z 123)))) 120 _ _ _ ?_
            refine And.intro rfl (m_isHole_y a0 a2 (And.intro (fun q => absurd q m1z) (fun _ => m_in_y c0 c1 (And.intro (fun q => absurd q m1z) (fun _ => And.intro (fun q => absurd rfl q) (fun _ => ?_))))))
            first | exact m_in_n0 b0 (And.intro (fun q => absurd rfl q) (fun _ => End_of rfl hS)) | exact m_in_n1 b0 b1 (And.intro (fun q => absurd rfl q) (fun _ => End_of rfl hS)))
          refine am_wq_T (cut := fun _ _ => false) (inl := fun z => !((Nat.beq z 15 || Nat.beq z 105))) 120 _ _ _ ?_
          refine And.intro rfl (And.intro rfl (c_find_y a0 a1 hh10 hv (And.intro (fun q => absurd q hnz) (fun _ => And.intro (fun _ => ?_) (fun q => absurd rfl q)))))
          first | exact c_within_n0 b0 (And.intro (fun q => absurd rfl q) (fun _ => key)) | exact c_within_n1 b0 b1 (And.intro (fun q => absurd rfl q) (fun _ => key))
      · rcases rng v 0 99 with ⟨b0, b1⟩ | b0 | ⟨b0, b1⟩
        · have hb : sg_in v 0 (bd 2) := by show sg_in v 0 99; unfold sg_in; clear hK hS hR hB bad hf; (simp only [Int32.lt_iff_toInt_lt, Int32.le_iff_toInt_le, gt_iff_lt, ge_iff_le, ← Int32.toInt_inj, Int32.reduceToInt, Int32.reduceMul, Int32.reduceAdd, Int32.reduceSub, ne_eq, true_and, and_true, false_and, and_false, not_true_eq_false, not_false_eq_true, true_or, or_true, false_or, or_false] at *; omega)
          have hM : sg_Mid L xs I n s (132, 2, 0, [.ref 107, .int (nI h), .int 2, .int v], []) (I (27 + h) 2) kt (am_up I (27 + h) 2 v) J T n s := by
            refine ⟨h13, by rw [up_off (by omega)], ?_⟩
            have a3 : ¬ am_up I (27 + h) 2 v 108 1 - 1 < nI h := by rw [up_off (by omega)]; exact a2
            refine am_wq_T (cut := fun _ _ => false) (inl := fun z => !((Nat.beq z 117 || (Nat.beq z 113 || Nat.beq z 123)))) 120 _ _ _ ?_
            refine And.intro rfl (m_isHole_y a0 a3 (And.intro (fun q => absurd q m1z) (fun _ => m_in_y c0 c1 (And.intro (fun q => absurd q m1z) (fun _ => And.intro (fun _ => And.intro (fun q => absurd rfl q) (fun _ => ?_)) (fun q => absurd (by decide) q))))))
            refine m_in_y b0 b1 (And.intro (fun _ => ?_) (fun q => absurd m1z q))
            refine And.intro rfl (m_becomes (j := 21 + 5 * h + 2) (ix_of h 2) (by omega) ?_)
            refine End_of ?_ (set_land (by decide) hh hb hR hB hS)
            rw [up_off (by omega)]; exact (hf 2 (by decide)).symm
          have key := hK _ _ _ _ _ _ _ hM
          refine am_wq_T (cut := fun _ _ => false) (inl := fun z => !((Nat.beq z 15 || Nat.beq z 105))) 120 _ _ _ ?_
          refine And.intro rfl (And.intro rfl (c_find_y a0 a1 hh10 hv (And.intro (fun q => absurd q hnz) (fun _ => And.intro (fun q => absurd q (by decide)) (fun _ => And.intro (fun _ => ?_) (fun q => absurd rfl q))))))
          refine c_within_y b0 b1 (And.intro (fun _ => ?_) (fun q => absurd m1z q))
          refine And.intro hkh (And.intro (fun q => absurd q (by decide)) (fun _ => And.intro (fun q => absurd q (by decide)) (fun _ => And.intro (fun _ => And.intro hkh ?_) (fun q => absurd rfl q))))
          exact And.intro hkh (And.intro (fun q => absurd q (by decide)) (fun _ => And.intro (fun _ => And.intro hkh key) (fun q => absurd rfl q)))
        all_goals
          have key := bad (by
            refine ⟨h13, rfl, ?_⟩
            refine am_wq_T (cut := fun _ _ => false) (inl := fun z => !((Nat.beq z 117 || (Nat.beq z 113 || Nat.beq z 123)))) 120 _ _ _ ?_
            refine And.intro rfl (m_isHole_y a0 a2 (And.intro (fun q => absurd q m1z) (fun _ => m_in_y c0 c1 (And.intro (fun q => absurd q m1z) (fun _ => And.intro (fun _ => And.intro (fun q => absurd rfl q) (fun _ => ?_)) (fun q => absurd (by decide) q))))))
            first | exact m_in_n0 b0 (And.intro (fun q => absurd rfl q) (fun _ => End_of rfl hS)) | exact m_in_n1 b0 b1 (And.intro (fun q => absurd rfl q) (fun _ => End_of rfl hS)))
          refine am_wq_T (cut := fun _ _ => false) (inl := fun z => !((Nat.beq z 15 || Nat.beq z 105))) 120 _ _ _ ?_
          refine And.intro rfl (And.intro rfl (c_find_y a0 a1 hh10 hv (And.intro (fun q => absurd q hnz) (fun _ => And.intro (fun q => absurd q (by decide)) (fun _ => And.intro (fun _ => ?_) (fun q => absurd rfl q))))))
          first | exact c_within_n0 b0 (And.intro (fun q => absurd rfl q) (fun _ => key)) | exact c_within_n1 b0 b1 (And.intro (fun q => absurd rfl q) (fun _ => key))
      · rcases rng v 0 7 with ⟨b0, b1⟩ | b0 | ⟨b0, b1⟩
        · have hb : sg_in v 0 (bd 3) := by show sg_in v 0 7; unfold sg_in; clear hK hS hR hB bad hf; (simp only [Int32.lt_iff_toInt_lt, Int32.le_iff_toInt_le, gt_iff_lt, ge_iff_le, ← Int32.toInt_inj, Int32.reduceToInt, Int32.reduceMul, Int32.reduceAdd, Int32.reduceSub, ne_eq, true_and, and_true, false_and, and_false, not_true_eq_false, not_false_eq_true, true_or, or_true, false_or, or_false] at *; omega)
          have hM : sg_Mid L xs I n s (132, 2, 0, [.ref 107, .int (nI h), .int 3, .int v], []) (I (27 + h) 3) kt (am_up I (27 + h) 3 v) J T n s := by
            refine ⟨h13, by rw [up_off (by omega)], ?_⟩
            have a3 : ¬ am_up I (27 + h) 3 v 108 1 - 1 < nI h := by rw [up_off (by omega)]; exact a2
            refine am_wq_T (cut := fun _ _ => false) (inl := fun z => !((Nat.beq z 117 || (Nat.beq z 113 || Nat.beq z 123)))) 120 _ _ _ ?_
            refine And.intro rfl (m_isHole_y a0 a3 (And.intro (fun q => absurd q m1z) (fun _ => m_in_y c0 c1 (And.intro (fun q => absurd q m1z) (fun _ => And.intro (fun _ => And.intro (fun _ => And.intro (fun q => absurd rfl q) (fun _ => ?_)) (fun q => absurd (by decide) q)) (fun q => absurd (by decide) q))))))
            refine m_in_y b0 b1 (And.intro (fun _ => ?_) (fun q => absurd m1z q))
            refine And.intro rfl (m_becomes (j := 21 + 5 * h + 3) (ix_of h 3) (by omega) ?_)
            refine End_of ?_ (set_land (by decide) hh hb hR hB hS)
            rw [up_off (by omega)]; exact (hf 3 (by decide)).symm
          have key := hK _ _ _ _ _ _ _ hM
          refine am_wq_T (cut := fun _ _ => false) (inl := fun z => !((Nat.beq z 15 || Nat.beq z 105))) 120 _ _ _ ?_
          refine And.intro rfl (And.intro rfl (c_find_y a0 a1 hh10 hv (And.intro (fun q => absurd q hnz) (fun _ => And.intro (fun q => absurd q (by decide)) (fun _ => And.intro (fun q => absurd q (by decide)) (fun _ => And.intro (fun _ => ?_) (fun q => absurd rfl q)))))))
          refine c_within_y b0 b1 (And.intro (fun _ => ?_) (fun q => absurd m1z q))
          refine And.intro hkh (And.intro (fun q => absurd q (by decide)) (fun _ => And.intro (fun q => absurd q (by decide)) (fun _ => And.intro (fun q => absurd q (by decide)) (fun _ => And.intro (fun _ => And.intro hkh ?_) (fun q => absurd rfl q)))))
          exact And.intro hkh (And.intro (fun q => absurd q (by decide)) (fun _ => And.intro (fun q => absurd q (by decide)) (fun _ => And.intro (fun _ => And.intro hkh key) (fun q => absurd rfl q))))
        all_goals
          have key := bad (by
            refine ⟨h13, rfl, ?_⟩
            refine am_wq_T (cut := fun _ _ => false) (inl := fun z => !((Nat.beq z 117 || (Nat.beq z 113 || Nat.beq z 123)))) 120 _ _ _ ?_
            refine And.intro rfl (m_isHole_y a0 a2 (And.intro (fun q => absurd q m1z) (fun _ => m_in_y c0 c1 (And.intro (fun q => absurd q m1z) (fun _ => And.intro (fun _ => And.intro (fun _ => And.intro (fun q => absurd rfl q) (fun _ => ?_)) (fun q => absurd (by decide) q)) (fun q => absurd (by decide) q))))))
            first | exact m_in_n0 b0 (And.intro (fun q => absurd rfl q) (fun _ => End_of rfl hS)) | exact m_in_n1 b0 b1 (And.intro (fun q => absurd rfl q) (fun _ => End_of rfl hS)))
          refine am_wq_T (cut := fun _ _ => false) (inl := fun z => !((Nat.beq z 15 || Nat.beq z 105))) 120 _ _ _ ?_
          refine And.intro rfl (And.intro rfl (c_find_y a0 a1 hh10 hv (And.intro (fun q => absurd q hnz) (fun _ => And.intro (fun q => absurd q (by decide)) (fun _ => And.intro (fun q => absurd q (by decide)) (fun _ => And.intro (fun _ => ?_) (fun q => absurd rfl q)))))))
          first | exact c_within_n0 b0 (And.intro (fun q => absurd rfl q) (fun _ => key)) | exact c_within_n1 b0 b1 (And.intro (fun q => absurd rfl q) (fun _ => key))
      · rcases rng v 0 999 with ⟨b0, b1⟩ | b0 | ⟨b0, b1⟩
        · have hb : sg_in v 0 (bd 4) := by show sg_in v 0 999; unfold sg_in; clear hK hS hR hB bad hf; (simp only [Int32.lt_iff_toInt_lt, Int32.le_iff_toInt_le, gt_iff_lt, ge_iff_le, ← Int32.toInt_inj, Int32.reduceToInt, Int32.reduceMul, Int32.reduceAdd, Int32.reduceSub, ne_eq, true_and, and_true, false_and, and_false, not_true_eq_false, not_false_eq_true, true_or, or_true, false_or, or_false] at *; omega)
          have hM : sg_Mid L xs I n s (132, 2, 0, [.ref 107, .int (nI h), .int 4, .int v], []) (I (27 + h) 4) kt (am_up I (27 + h) 4 v) J T n s := by
            refine ⟨h13, by rw [up_off (by omega)], ?_⟩
            have a3 : ¬ am_up I (27 + h) 4 v 108 1 - 1 < nI h := by rw [up_off (by omega)]; exact a2
            refine am_wq_T (cut := fun _ _ => false) (inl := fun z => !((Nat.beq z 117 || (Nat.beq z 113 || Nat.beq z 123)))) 120 _ _ _ ?_
            refine And.intro rfl (m_isHole_y a0 a3 (And.intro (fun q => absurd q m1z) (fun _ => m_in_y c0 c1 (And.intro (fun q => absurd q m1z) (fun _ => And.intro (fun _ => And.intro (fun _ => And.intro (fun _ => ?_) (fun q => absurd (by decide) q)) (fun q => absurd (by decide) q)) (fun q => absurd (by decide) q))))))
            refine m_in_y b0 b1 (And.intro (fun _ => ?_) (fun q => absurd m1z q))
            refine And.intro rfl (m_becomes (j := 21 + 5 * h + 4) (ix_of h 4) (by omega) ?_)
            refine End_of ?_ (set_land (by decide) hh hb hR hB hS)
            rw [up_off (by omega)]; exact (hf 4 (by decide)).symm
          have key := hK _ _ _ _ _ _ _ hM
          refine am_wq_T (cut := fun _ _ => false) (inl := fun z => !((Nat.beq z 15 || Nat.beq z 105))) 120 _ _ _ ?_
          refine And.intro rfl (And.intro rfl (c_find_y a0 a1 hh10 hv (And.intro (fun q => absurd q hnz) (fun _ => And.intro (fun q => absurd q (by decide)) (fun _ => And.intro (fun q => absurd q (by decide)) (fun _ => And.intro (fun q => absurd q (by decide)) (fun _ => And.intro (fun _ => ?_) (fun q => absurd rfl q))))))))
          refine c_within_y b0 b1 (And.intro (fun _ => ?_) (fun q => absurd m1z q))
          refine And.intro hkh (And.intro (fun q => absurd q (by decide)) (fun _ => And.intro (fun q => absurd q (by decide)) (fun _ => And.intro (fun q => absurd q (by decide)) (fun _ => And.intro (fun q => absurd q (by decide)) (fun _ => And.intro (fun _ => And.intro hkh ?_) (fun q => absurd rfl q))))))
          exact And.intro hkh (And.intro (fun q => absurd q (by decide)) (fun _ => And.intro (fun q => absurd q (by decide)) (fun _ => And.intro (fun q => absurd q (by decide)) (fun _ => And.intro (fun _ => And.intro hkh key) (fun q => absurd rfl q)))))
        all_goals
          have key := bad (by
            refine ⟨h13, rfl, ?_⟩
            refine am_wq_T (cut := fun _ _ => false) (inl := fun z => !((Nat.beq z 117 || (Nat.beq z 113 || Nat.beq z 123)))) 120 _ _ _ ?_
            refine And.intro rfl (m_isHole_y a0 a2 (And.intro (fun q => absurd q m1z) (fun _ => m_in_y c0 c1 (And.intro (fun q => absurd q m1z) (fun _ => And.intro (fun _ => And.intro (fun _ => And.intro (fun _ => ?_) (fun q => absurd (by decide) q)) (fun q => absurd (by decide) q)) (fun q => absurd (by decide) q))))))
            first | exact m_in_n0 b0 (And.intro (fun q => absurd rfl q) (fun _ => End_of rfl hS)) | exact m_in_n1 b0 b1 (And.intro (fun q => absurd rfl q) (fun _ => End_of rfl hS)))
          refine am_wq_T (cut := fun _ _ => false) (inl := fun z => !((Nat.beq z 15 || Nat.beq z 105))) 120 _ _ _ ?_
          refine And.intro rfl (And.intro rfl (c_find_y a0 a1 hh10 hv (And.intro (fun q => absurd q hnz) (fun _ => And.intro (fun q => absurd q (by decide)) (fun _ => And.intro (fun q => absurd q (by decide)) (fun _ => And.intro (fun q => absurd q (by decide)) (fun _ => And.intro (fun _ => ?_) (fun q => absurd rfl q))))))))
          first | exact c_within_n0 b0 (And.intro (fun q => absurd rfl q) (fun _ => key)) | exact c_within_n1 b0 b1 (And.intro (fun q => absurd rfl q) (fun _ => key))
    all_goals
      have w1 : ¬ w = 1 := by clear hK hS hR hB bad hf; (simp only [Int32.lt_iff_toInt_lt, Int32.le_iff_toInt_le, gt_iff_lt, ge_iff_le, ← Int32.toInt_inj, Int32.reduceToInt, Int32.reduceMul, Int32.reduceAdd, Int32.reduceSub, ne_eq, true_and, and_true, false_and, and_false, not_true_eq_false, not_false_eq_true, true_or, or_true, false_or, or_false] at *; omega)
      have w2 : ¬ w = 2 := by clear hK hS hR hB bad hf; (simp only [Int32.lt_iff_toInt_lt, Int32.le_iff_toInt_le, gt_iff_lt, ge_iff_le, ← Int32.toInt_inj, Int32.reduceToInt, Int32.reduceMul, Int32.reduceAdd, Int32.reduceSub, ne_eq, true_and, and_true, false_and, and_false, not_true_eq_false, not_false_eq_true, true_or, or_true, false_or, or_false] at *; omega)
      have w3 : ¬ w = 3 := by clear hK hS hR hB bad hf; (simp only [Int32.lt_iff_toInt_lt, Int32.le_iff_toInt_le, gt_iff_lt, ge_iff_le, ← Int32.toInt_inj, Int32.reduceToInt, Int32.reduceMul, Int32.reduceAdd, Int32.reduceSub, ne_eq, true_and, and_true, false_and, and_false, not_true_eq_false, not_false_eq_true, true_or, or_true, false_or, or_false] at *; omega)
      have w4 : ¬ w = 4 := by clear hK hS hR hB bad hf; (simp only [Int32.lt_iff_toInt_lt, Int32.le_iff_toInt_le, gt_iff_lt, ge_iff_le, ← Int32.toInt_inj, Int32.reduceToInt, Int32.reduceMul, Int32.reduceAdd, Int32.reduceSub, ne_eq, true_and, and_true, false_and, and_false, not_true_eq_false, not_false_eq_true, true_or, or_true, false_or, or_false] at *; omega)
      have key := bad (by
        refine ⟨h13, rfl, ?_⟩
        refine am_wq_T (cut := fun _ _ => false) (inl := fun z => !((Nat.beq z 117 || (Nat.beq z 113 || Nat.beq z 123)))) 120 _ _ _ ?_
        refine And.intro rfl (m_isHole_y a0 a2 (And.intro (fun q => absurd q m1z) (fun _ => ?_)))
        first | exact m_in_n0 c0 (And.intro (fun _ => End_of rfl hS) (fun q => absurd rfl q)) | exact m_in_n1 c0 c1 (And.intro (fun _ => End_of rfl hS) (fun q => absurd rfl q)))
      refine am_wq_T (cut := fun _ _ => false) (inl := fun z => !((Nat.beq z 15 || Nat.beq z 105))) 120 _ _ _ ?_
      refine And.intro rfl (And.intro rfl (c_find_y a0 a1 hh10 hv (And.intro (fun q => absurd q hnz) (fun _ => And.intro (fun q => absurd q w1) (fun _ => And.intro (fun q => absurd q w2) (fun _ => And.intro (fun q => absurd q w3) (fun _ => And.intro (fun q => absurd q w4) (fun _ => ?_))))))))
      rcases rng v 0 (-1) with ⟨b0, b1⟩ | b0 | ⟨b0, b1⟩
      · exact absurd b1 (by clear hK hS hR hB bad hf key; (simp only [Int32.lt_iff_toInt_lt, Int32.le_iff_toInt_le, gt_iff_lt, ge_iff_le, ← Int32.toInt_inj, Int32.reduceToInt, Int32.reduceMul, Int32.reduceAdd, Int32.reduceSub, ne_eq, true_and, and_true, false_and, and_false, not_true_eq_false, not_false_eq_true, true_or, or_true, false_or, or_false] at *; omega))
      · exact c_within_n0 b0 (And.intro (fun q => absurd rfl q) (fun _ => key))
      · exact c_within_n1 b0 b1 (And.intro (fun q => absurd rfl q) (fun _ => key))
  all_goals
    have key := bad (by
      refine ⟨h13, rfl, ?_⟩
      refine am_wq_T (cut := fun _ _ => false) (inl := fun z => !((Nat.beq z 117 || (Nat.beq z 113 || Nat.beq z 123)))) 120 _ _ _ ?_
      first | exact And.intro rfl (m_isHole_n0 a0 (And.intro (fun _ => End_of rfl hS) (fun q => absurd rfl q))) | exact And.intro rfl (m_isHole_n1 a0 a2 (And.intro (fun _ => End_of rfl hS) (fun q => absurd rfl q))))
    refine am_wq_T (cut := fun _ _ => false) (inl := fun z => !((Nat.beq z 15 || Nat.beq z 105))) 120 _ _ _ ?_
    first | exact And.intro rfl (And.intro rfl (c_find_n0 a0 (And.intro (fun _ => key) (fun q => absurd rfl q)))) | exact And.intro rfl (And.intro rfl (c_find_n1 a0 a1 (And.intro (fun _ => key) (fun q => absurd rfl q))))
end T70
