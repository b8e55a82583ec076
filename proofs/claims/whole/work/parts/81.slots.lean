/-! slots: ask, item, rest -/
section T81
variable {kt : Nat → Nat × Nat} {I I' : Nat → Nat → Int32} {J J' : Nat → Nat → Int64} {T T' : Nat → Nat → Nat} {n s : Nat} {L : Nat} {xs : Nat → Int32} {K : Option Value → am_M → Prop} {N N' S : Nat → Int32} {hc wc tc h w q size : Nat}
theorem kT {q : Nat} (hq : q < 5) : am_k kt (87 + 4 * q) = (4, 4) :=
  match q, hq with
  | 0, _ => rfl
  | 1, _ => rfl
  | 2, _ => rfl
  | 3, _ => rfl
  | 4, _ => rfl
theorem kT1 {q : Nat} (hq : q < 5) : am_k kt (88 + 4 * q) = (1, 5) :=
  match q, hq with
  | 0, _ => rfl
  | 1, _ => rfl
  | 2, _ => rfl
  | 3, _ => rfl
  | 4, _ => rfl
theorem kT2 {q : Nat} (hq : q < 5) : am_k kt (89 + 4 * q) = (3, 3) :=
  match q, hq with
  | 0, _ => rfl
  | 1, _ => rfl
  | 2, _ => rfl
  | 3, _ => rfl
  | 4, _ => rfl
theorem kT3 {q : Nat} (hq : q < 5) : am_k kt (90 + 4 * q) = (20, 24) :=
  match q, hq with
  | 0, _ => rfl
  | 1, _ => rfl
  | 2, _ => rfl
  | 3, _ => rfl
  | 4, _ => rfl
theorem rT0 {q : Nat} (hq : q < 5) : am_R (am_k kt, I, J, am_r T, n, s) (am_R (am_k kt, I, J, am_r T, n, s) 20 7) q = 87 + 4 * q :=
  match q, hq with
  | 0, _ => rfl
  | 1, _ => rfl
  | 2, _ => rfl
  | 3, _ => rfl
  | 4, _ => rfl
theorem rT {q : Nat} (hq : q < 5) : am_R (am_k kt, I, J, am_r T, n, s) (am_R (am_k kt, I, J, am_r T, n, s) 20 7) (nI q).toNatClampNeg = 87 + 4 * q := by
  rw [nI_clamp (by omega)]
  exact rT0 hq
theorem rT2 {q : Nat} (hq : q < 5) : am_R (am_k kt, I, J, am_r T, n, s) (87 + 4 * q) 2 = 88 + 4 * q :=
  match q, hq with
  | 0, _ => rfl
  | 1, _ => rfl
  | 2, _ => rfl
  | 3, _ => rfl
  | 4, _ => rfl
theorem rT3 {q : Nat} (hq : q < 5) : am_R (am_k kt, I, J, am_r T, n, s) (87 + 4 * q) 3 = 89 + 4 * q :=
  match q, hq with
  | 0, _ => rfl
  | 1, _ => rfl
  | 2, _ => rfl
  | 3, _ => rfl
  | 4, _ => rfl
theorem rT4 {q : Nat} (hq : q < 5) : am_R (am_k kt, I, J, am_r T, n, s) (89 + 4 * q) 2 = 90 + 4 * q :=
  match q, hq with
  | 0, _ => rfl
  | 1, _ => rfl
  | 2, _ => rfl
  | 3, _ => rfl
  | 4, _ => rfl
theorem c_slotAt_y {q : Nat} (hq : q < 5) (a0 : ¬ nI q < 0) (a1 : ¬ 4 < nI q) (hK : K (some (.ref (87 + 4 * q))) (am_mk kt I J T n s)) : am_T am_C (111, 1, 0, [.ref 20, .int (nI q)], []) (am_mk kt I J T n s) K := by
  have v4 : vp_in (nI q) 5 := vpl hq (by decide)
  rw [← rT (kt := kt) (I := I) (J := J) (T := T) (n := n) (s := s) hq] at hK
  refine am_wq_T (cut := fun _ _ => false) (inl := fun z => !(Nat.beq z 105)) 120 _ _ _ ?_
  exact c_within_y a0 a1 (And.intro (fun q => absurd q m1z) (fun _ => And.intro rfl (And.intro ⟨rfl, v4⟩ hK)))
theorem c_slotAt_n0 {x : Int32} (a0 : x < 0) (hK : K (some (.ref 0)) (am_mk kt I J T n s)) : am_T am_C (111, 1, 0, [.ref 20, .int x], []) (am_mk kt I J T n s) K := by
  refine am_wq_T (cut := fun _ _ => false) (inl := fun z => !(Nat.beq z 105)) 120 _ _ _ ?_
  exact c_within_n0 a0 (And.intro (fun _ => hK) (fun q => absurd rfl q))
theorem c_slotAt_n1 {x : Int32} (a0 : ¬ x < 0) (a1 : 4 < x) (hK : K (some (.ref 0)) (am_mk kt I J T n s)) : am_T am_C (111, 1, 0, [.ref 20, .int x], []) (am_mk kt I J T n s) K := by
  refine am_wq_T (cut := fun _ _ => false) (inl := fun z => !(Nat.beq z 105)) 120 _ _ _ ?_
  exact c_within_n1 a0 a1 (And.intro (fun _ => hK) (fun q => absurd rfl q))
theorem m_isSlot_y {x : Int32} (a0 : ¬ x < 0) (a1 : ¬ 4 < x) (hK : K (some (.int 1)) (am_mk kt I J T n s)) : am_T am_C (190, 1, 0, [.int x], []) (am_mk kt I J T n s) K := by
  refine am_wq_T (cut := fun _ _ => false) (inl := fun z => !(Nat.beq z 113)) 120 _ _ _ ?_
  exact m_in_y a0 a1 (And.intro rfl hK)
theorem m_isSlot_n0 {x : Int32} (a0 : x < 0) (hK : K (some (.int 0)) (am_mk kt I J T n s)) : am_T am_C (190, 1, 0, [.int x], []) (am_mk kt I J T n s) K := by
  refine am_wq_T (cut := fun _ _ => false) (inl := fun z => !(Nat.beq z 113)) 120 _ _ _ ?_
  exact m_in_n0 a0 (And.intro rfl hK)
theorem m_isSlot_n1 {x : Int32} (a0 : ¬ x < 0) (a1 : 4 < x) (hK : K (some (.int 0)) (am_mk kt I J T n s)) : am_T am_C (190, 1, 0, [.int x], []) (am_mk kt I J T n s) K := by
  refine am_wq_T (cut := fun _ _ => false) (inl := fun z => !(Nat.beq z 113)) 120 _ _ _ ?_
  exact m_in_n1 a0 a1 (And.intro rfl hK)
theorem kind4 {v : Int32} (h : sg_in v 0 3) : v = 0 ∨ v = 1 ∨ v = 2 ∨ v = 3 := by unfold sg_in at h; (simp only [Int32.lt_iff_toInt_lt, Int32.le_iff_toInt_le, gt_iff_lt, ge_iff_le, ← Int32.toInt_inj, Int32.reduceToInt, Int32.reduceMul, Int32.reduceAdd, Int32.reduceSub, ne_eq, true_and, and_true, false_and, and_false, not_true_eq_false, not_false_eq_true, true_or, or_true, false_or, or_false] at *; omega)
theorem L_ask (x y : Int32) : sg_Call (97, 2, 0, [.ref 20, .int x, .int y, .null], []) (197, 2, 0, [.ref 107, .int x, .int y], []) := by
  intro L xs kt I J T n s K hS hK
  have h13 := hS.1.2.2.2.1
  have h14 : I 14 = am_above := (hS.1.2.2.2.2.1 14 (by decide)).1
  rcases rng x 0 4 with ⟨a0, a1⟩ | a0 | ⟨a0, a1⟩
  · obtain ⟨q, hq3, rfl⟩ := in_of (m := 4) (by decide) a0 a1
    have hq : q < 5 := by omega
    have v5 : vp_in (nI q) 5 := vpl hq (by decide)
    have cq : (nI q).toNatClampNeg = q := nI_clamp (by omega)
    have hnz : ¬ 87 + 4 * q = 0 := by omega
    obtain ⟨s1, s2, s3, s4, s5⟩ := hS.2.2.2.2.2.1 q hq
    rcases rng y 0 5 with ⟨b0, b1⟩ | b0 | ⟨b0, b1⟩
    · by_cases k0 : I 128 q = 0
      · have c1 : ¬ ¬ I (87 + 4 * q) 0 = 0 := fun z => z (s1.trans k0)
        have c2 : ¬ ¬ I 128 (nI q).toNatClampNeg = 0 := by rw [cq]; exact fun z => z k0
        have hM : sg_Mid L xs I n s (197, 2, 0, [.ref 107, .int (nI q), .int y], []) (-1000000011) kt I J T n s := by
          refine ⟨h13, rfl, ?_⟩
          refine am_wq_T (cut := fun _ _ => false) (inl := fun z => !((Nat.beq z 190 || (Nat.beq z 113 || Nat.beq z 129)))) 120 _ _ _ ?_
          exact m_isSlot_y a0 a1 (And.intro (fun z => absurd z m1z) (fun _ => m_in_y b0 b1 (And.intro (fun _ => And.intro rfl (And.intro ⟨rfl, v5⟩ (And.intro (fun z => absurd z c2) (fun _ => End_of rfl hS)))) (fun z => absurd m1z z))))
        have key := hK _ _ _ _ _ _ _ hM
        refine am_wq_T (cut := fun _ _ => false) (inl := fun z => !((Nat.beq z 111 || (Nat.beq z 105 || (Nat.beq z 11 || Nat.beq z 12))))) 120 _ _ _ ?_
        exact And.intro rfl (c_slotAt_y hq a0 a1 (And.intro (fun z => absurd z hnz) (fun _ => c_within_y b0 b1 (And.intro (fun _ => And.intro (kT hq) (And.intro (fun z => absurd z c1) (fun _ => key))) (fun z => absurd m1z z)))))
      · have c1 : ¬ I (87 + 4 * q) 0 = 0 := by rw [s1]; exact k0
        have c2 : ¬ I 128 (nI q).toNatClampNeg = 0 := by rw [cq]; exact k0
        by_cases k1 : I 128 q = 1
        · have d1 : ¬ ¬ I (87 + 4 * q) 0 = 1 := fun z => z (s1.trans k1)
          have d2 : ¬ ¬ I 128 (nI q).toNatClampNeg = 1 := by rw [cq]; exact fun z => z k1
          obtain ⟨t1, t2, t3⟩ := s3 k1
          have er : am_R (am_k kt, I, J, am_r T, n, s) (87 + 4 * q) 2 = 88 + 4 * q := rT2 hq
          have hb : sg_in (I (88 + 4 * q) 0) 0 5 := by rw [t1]; exact t2
          by_cases hu : und (I (88 + 4 * q) 0) y
          · have hu2 : und (I 129 (nI q).toNatClampNeg) y := by rw [cq, ← t1]; exact hu
            have hM : sg_Mid L xs I n s (197, 2, 0, [.ref 107, .int (nI q), .int y], []) (sg_worth (I (88 + 4 * q) 0) (I (88 + 4 * q) 1) (I (88 + 4 * q) 2) (I (88 + 4 * q) 3)) kt I J T n s := by
              refine ⟨h13, rfl, ?_⟩
              have fin : sg_End L xs n s (sg_worth (I (88 + 4 * q) 0) (I (88 + 4 * q) 1) (I (88 + 4 * q) 2) (I (88 + 4 * q) 3)) (some (.int (I 130 (nI q).toNatClampNeg))) (am_mk kt I J T n s) := End_of (by rw [cq]; exact t3) hS
              refine am_wq_T (cut := fun _ _ => false) (inl := fun z => !((Nat.beq z 190 || (Nat.beq z 113 || Nat.beq z 129)))) 120 _ _ _ ?_
              exact m_isSlot_y a0 a1 (And.intro (fun z => absurd z m1z) (fun _ => m_in_y b0 b1 (And.intro (fun _ => And.intro rfl (And.intro ⟨rfl, v5⟩ (And.intro (fun _ => And.intro rfl (And.intro ⟨rfl, v5⟩ (And.intro (fun z => absurd z d2) (fun _ => And.intro rfl (And.intro ⟨rfl, v5⟩ (m_under (fun _ => And.intro (fun z => absurd z m1z) (fun _ => And.intro rfl (And.intro ⟨rfl, v5⟩ fin))) (fun z => absurd hu2 z))))))) (fun z => absurd c2 z)))) (fun z => absurd m1z z))))
            have key := hK _ _ _ _ _ _ _ hM
            refine am_wq_T (cut := fun _ _ => false) (inl := fun z => !((Nat.beq z 111 || (Nat.beq z 105 || (Nat.beq z 11 || Nat.beq z 12))))) 120 _ _ _ ?_
            refine And.intro rfl (c_slotAt_y hq a0 a1 (And.intro (fun z => absurd z hnz) (fun _ => c_within_y b0 b1 (And.intro (fun _ => And.intro (kT hq) (And.intro (fun _ => And.intro (kT hq) (And.intro (fun z => absurd z d1) (fun _ => And.intro (kT hq) ?_))) (fun z => absurd c1 z))) (fun z => absurd m1z z)))))
            rw [er]
            refine And.intro (kT1 hq) (c_isOf y h14 (kT1 hq) hb (fun _ => And.intro (fun _ => And.intro (kT hq) ?_) (fun z => absurd m1z z)) (fun z => absurd hu z))
            rw [er]
            exact And.intro (kT1 hq) (c_worth (kT1 hq) key)
          · have hu2 : ¬ und (I 129 (nI q).toNatClampNeg) y := by rw [cq, ← t1]; exact hu
            have hM : sg_Mid L xs I n s (197, 2, 0, [.ref 107, .int (nI q), .int y], []) (-1000000012) kt I J T n s := by
              refine ⟨h13, rfl, ?_⟩
              refine am_wq_T (cut := fun _ _ => false) (inl := fun z => !((Nat.beq z 190 || (Nat.beq z 113 || Nat.beq z 129)))) 120 _ _ _ ?_
              exact m_isSlot_y a0 a1 (And.intro (fun z => absurd z m1z) (fun _ => m_in_y b0 b1 (And.intro (fun _ => And.intro rfl (And.intro ⟨rfl, v5⟩ (And.intro (fun _ => And.intro rfl (And.intro ⟨rfl, v5⟩ (And.intro (fun z => absurd z d2) (fun _ => And.intro rfl (And.intro ⟨rfl, v5⟩ (m_under (fun z => absurd z hu2) (fun _ => And.intro (fun _ => End_of rfl hS) (fun z => absurd rfl z)))))))) (fun z => absurd c2 z)))) (fun z => absurd m1z z))))
            have key := hK _ _ _ _ _ _ _ hM
            refine am_wq_T (cut := fun _ _ => false) (inl := fun z => !((Nat.beq z 111 || (Nat.beq z 105 || (Nat.beq z 11 || Nat.beq z 12))))) 120 _ _ _ ?_
            refine And.intro rfl (c_slotAt_y hq a0 a1 (And.intro (fun z => absurd z hnz) (fun _ => c_within_y b0 b1 (And.intro (fun _ => And.intro (kT hq) (And.intro (fun _ => And.intro (kT hq) (And.intro (fun z => absurd z d1) (fun _ => And.intro (kT hq) ?_))) (fun z => absurd c1 z))) (fun z => absurd m1z z)))))
            rw [er]
            exact And.intro (kT1 hq) (c_isOf y h14 (kT1 hq) hb (fun z => absurd z hu) (fun _ => And.intro (fun z => absurd rfl z) (fun _ => key)))
        · have d1 : ¬ I (87 + 4 * q) 0 = 1 := by rw [s1]; exact k1
          have d2 : ¬ I 128 (nI q).toNatClampNeg = 1 := by rw [cq]; exact k1
          have hM : sg_Mid L xs I n s (197, 2, 0, [.ref 107, .int (nI q), .int y], []) (-1000000012) kt I J T n s := by
            refine ⟨h13, rfl, ?_⟩
            refine am_wq_T (cut := fun _ _ => false) (inl := fun z => !((Nat.beq z 190 || (Nat.beq z 113 || Nat.beq z 129)))) 120 _ _ _ ?_
            exact m_isSlot_y a0 a1 (And.intro (fun z => absurd z m1z) (fun _ => m_in_y b0 b1 (And.intro (fun _ => And.intro rfl (And.intro ⟨rfl, v5⟩ (And.intro (fun _ => And.intro rfl (And.intro ⟨rfl, v5⟩ (And.intro (fun _ => End_of rfl hS) (fun z => absurd d2 z)))) (fun z => absurd c2 z)))) (fun z => absurd m1z z))))
          have key := hK _ _ _ _ _ _ _ hM
          refine am_wq_T (cut := fun _ _ => false) (inl := fun z => !((Nat.beq z 111 || (Nat.beq z 105 || (Nat.beq z 11 || Nat.beq z 12))))) 120 _ _ _ ?_
          exact And.intro rfl (c_slotAt_y hq a0 a1 (And.intro (fun z => absurd z hnz) (fun _ => c_within_y b0 b1 (And.intro (fun _ => And.intro (kT hq) (And.intro (fun _ => And.intro (kT hq) (And.intro (fun _ => key) (fun z => absurd d1 z))) (fun z => absurd c1 z))) (fun z => absurd m1z z)))))
    all_goals
      have hM : sg_Mid L xs I n s (197, 2, 0, [.ref 107, .int (nI q), .int y], []) (-1000000001) kt I J T n s := by
        refine ⟨h13, rfl, ?_⟩
        refine am_wq_T (cut := fun _ _ => false) (inl := fun z => !((Nat.beq z 190 || (Nat.beq z 113 || Nat.beq z 129)))) 120 _ _ _ ?_
        refine m_isSlot_y a0 a1 (And.intro (fun z => absurd z m1z) (fun _ => ?_))
        first | exact m_in_n0 b0 (And.intro (fun z => absurd rfl z) (fun _ => End_of rfl hS)) | exact m_in_n1 b0 b1 (And.intro (fun z => absurd rfl z) (fun _ => End_of rfl hS))
      have key := hK _ _ _ _ _ _ _ hM
      refine am_wq_T (cut := fun _ _ => false) (inl := fun z => !((Nat.beq z 111 || (Nat.beq z 105 || (Nat.beq z 11 || Nat.beq z 12))))) 120 _ _ _ ?_
      refine And.intro rfl (c_slotAt_y hq a0 a1 (And.intro (fun z => absurd z hnz) (fun _ => ?_)))
      first | exact c_within_n0 b0 (And.intro (fun z => absurd rfl z) (fun _ => key)) | exact c_within_n1 b0 b1 (And.intro (fun z => absurd rfl z) (fun _ => key))
  all_goals
    have hM : sg_Mid L xs I n s (197, 2, 0, [.ref 107, .int x, .int y], []) (-1000000001) kt I J T n s := by
      refine ⟨h13, rfl, ?_⟩
      refine am_wq_T (cut := fun _ _ => false) (inl := fun z => !((Nat.beq z 190 || (Nat.beq z 113 || Nat.beq z 129)))) 120 _ _ _ ?_
      first | exact m_isSlot_n0 a0 (And.intro (fun _ => End_of rfl hS) (fun z => absurd rfl z)) | exact m_isSlot_n1 a0 a1 (And.intro (fun _ => End_of rfl hS) (fun z => absurd rfl z))
    have key := hK _ _ _ _ _ _ _ hM
    refine am_wq_T (cut := fun _ _ => false) (inl := fun z => !((Nat.beq z 111 || (Nat.beq z 105 || (Nat.beq z 11 || Nat.beq z 12))))) 120 _ _ _ ?_
    first | exact And.intro rfl (c_slotAt_n0 a0 (And.intro (fun _ => key) (fun z => absurd rfl z))) | exact And.intro rfl (c_slotAt_n1 a0 a1 (And.intro (fun _ => key) (fun z => absurd rfl z)))
theorem rem_m1 (x : Int32) : x - x / -1 * -1 = 0 := by
  have h : x / -1 = -x := Int32.toInt_inj.mp (by
    rw [Int32.toInt_div, show (-1 : Int32).toInt = -1 by decide, Int32.toInt_neg, Int.tdiv_neg, Int.tdiv_one])
  rw [h, Int32.mul_neg, Int32.mul_one, Int32.neg_neg, Int32.sub_self]
theorem L_rest (x y : Int32) : sg_Call (99, 2, 0, [.ref 20, .int x, .int y, .null], []) (199, 2, 0, [.ref 107, .int x, .int y], []) := by
  intro L xs kt I J T n s K hS hK
  have h13 := hS.1.2.2.2.1
  rcases rng x 0 4 with ⟨a0, a1⟩ | a0 | ⟨a0, a1⟩
  · obtain ⟨q, hq3, rfl⟩ := in_of (m := 4) (by decide) a0 a1
    have hq : q < 5 := by omega
    have v5 : vp_in (nI q) 5 := vpl hq (by decide)
    have cq : (nI q).toNatClampNeg = q := nI_clamp (by omega)
    have hnz : ¬ 87 + 4 * q = 0 := by omega
    obtain ⟨s1, s2, s3, s4, s5⟩ := hS.2.2.2.2.2.1 q hq
    by_cases k0 : I 128 q = 0
    · have c1 : ¬ ¬ I (87 + 4 * q) 0 = 0 := fun z => z (s1.trans k0)
      have c2 : ¬ ¬ I 128 (nI q).toNatClampNeg = 0 := by rw [cq]; exact fun z => z k0
      have hM : sg_Mid L xs I n s (199, 2, 0, [.ref 107, .int (nI q), .int y], []) (-1000000011) kt I J T n s := by
        refine ⟨h13, rfl, ?_⟩
        refine am_wq_T (cut := fun _ _ => false) (inl := fun z => !(Nat.beq z 190)) 120 _ _ _ ?_
        exact m_isSlot_y a0 a1 (And.intro (fun _ => And.intro rfl (And.intro ⟨rfl, v5⟩ (And.intro (fun z => absurd z c2) (fun _ => End_of rfl hS)))) (fun z => absurd m1z z))
      have key := hK _ _ _ _ _ _ _ hM
      refine am_wq_T (cut := fun _ _ => false) (inl := fun z => !(Nat.beq z 111)) 120 _ _ _ ?_
      exact And.intro rfl (c_slotAt_y hq a0 a1 (And.intro (fun z => absurd z hnz) (fun _ => And.intro (kT hq) (And.intro (fun z => absurd z c1) (fun _ => key)))))
    · have c1 : ¬ I (87 + 4 * q) 0 = 0 := by rw [s1]; exact k0
      have c2 : ¬ I 128 (nI q).toNatClampNeg = 0 := by rw [cq]; exact k0
      by_cases k3 : I 128 q = 3
      · have d1 : I (87 + 4 * q) 0 = 3 := s1.trans k3
        have d2 : I 128 (nI q).toNatClampNeg = 3 := by rw [cq]; exact k3
        have e := s5 k3
        by_cases y0 : y = 0
        · subst y0
          have hM : sg_Mid L xs I n s (199, 2, 0, [.ref 107, .int (nI q), .int 0], []) (-1000000002) kt I J T n s := by
            refine ⟨h13, rfl, ?_⟩
            refine am_wq_T (cut := fun _ _ => false) (inl := fun z => !(Nat.beq z 190)) 120 _ _ _ ?_
            exact m_isSlot_y a0 a1 (And.intro (fun _ => And.intro rfl (And.intro ⟨rfl, v5⟩ (And.intro (fun _ => And.intro rfl (And.intro ⟨rfl, v5⟩ (And.intro (fun _ => And.intro (fun z => absurd rfl z) (fun _ => End_of rfl hS)) (fun z => absurd d2 z)))) (fun z => absurd c2 z)))) (fun z => absurd m1z z))
          have key := hK _ _ _ _ _ _ _ hM
          refine am_wq_T (cut := fun _ _ => false) (inl := fun z => !(Nat.beq z 111)) 120 _ _ _ ?_
          exact And.intro rfl (c_slotAt_y hq a0 a1 (And.intro (fun z => absurd z hnz) (fun _ => And.intro (kT hq) (And.intro (fun _ => And.intro (kT hq) (And.intro (fun _ => And.intro (fun z => absurd rfl z) (fun _ => key)) (fun z => absurd d1 z))) (fun z => absurd c1 z)))))
        · have hM : sg_Mid L xs I n s (199, 2, 0, [.ref 107, .int (nI q), .int y], []) (I (87 + 4 * q) 1 - I (87 + 4 * q) 1 / y * y) kt I J T n s := by
            refine ⟨h13, rfl, ?_⟩
            by_cases ym : y = -1
            · subst ym
              have fin : sg_End L xs n s (I (87 + 4 * q) 1 - I (87 + 4 * q) 1 / -1 * -1) (some (.int 0)) (am_mk kt I J T n s) := End_of (rem_m1 _).symm hS
              refine am_wq_T (cut := fun _ _ => false) (inl := fun z => !(Nat.beq z 190)) 120 _ _ _ ?_
              exact m_isSlot_y a0 a1 (And.intro (fun _ => And.intro rfl (And.intro ⟨rfl, v5⟩ (And.intro (fun _ => And.intro rfl (And.intro ⟨rfl, v5⟩ (And.intro (fun _ => And.intro (fun _ => And.intro (fun z => absurd rfl z) (fun _ => fin)) (fun z => absurd y0 z)) (fun z => absurd d2 z)))) (fun z => absurd c2 z)))) (fun z => absurd m1z z))
            · have fin : sg_End L xs n s (I (87 + 4 * q) 1 - I (87 + 4 * q) 1 / y * y) (some (.int (I 129 (nI q).toNatClampNeg - I 129 (nI q).toNatClampNeg / y * y))) (am_mk kt I J T n s) := End_of (by rw [cq, ← e]) hS
              refine am_wq_T (cut := fun _ _ => false) (inl := fun z => !(Nat.beq z 190)) 120 _ _ _ ?_
              exact m_isSlot_y a0 a1 (And.intro (fun _ => And.intro rfl (And.intro ⟨rfl, v5⟩ (And.intro (fun _ => And.intro rfl (And.intro ⟨rfl, v5⟩ (And.intro (fun _ => And.intro (fun _ => And.intro (fun _ => And.intro rfl (And.intro ⟨rfl, v5⟩ (And.intro y0 fin))) (fun z => absurd ym z)) (fun z => absurd y0 z)) (fun z => absurd d2 z)))) (fun z => absurd c2 z)))) (fun z => absurd m1z z))
          have key := hK _ _ _ _ _ _ _ hM
          refine am_wq_T (cut := fun _ _ => false) (inl := fun z => !(Nat.beq z 111)) 120 _ _ _ ?_
          exact And.intro rfl (c_slotAt_y hq a0 a1 (And.intro (fun z => absurd z hnz) (fun _ => And.intro (kT hq) (And.intro (fun _ => And.intro (kT hq) (And.intro (fun _ => And.intro (fun _ => And.intro (kT hq) (And.intro y0 key)) (fun z => absurd y0 z)) (fun z => absurd d1 z))) (fun z => absurd c1 z)))))
      · have d1 : ¬ I (87 + 4 * q) 0 = 3 := by rw [s1]; exact k3
        have d2 : ¬ I 128 (nI q).toNatClampNeg = 3 := by rw [cq]; exact k3
        have hM : sg_Mid L xs I n s (199, 2, 0, [.ref 107, .int (nI q), .int y], []) (-1000000012) kt I J T n s := by
          refine ⟨h13, rfl, ?_⟩
          refine am_wq_T (cut := fun _ _ => false) (inl := fun z => !(Nat.beq z 190)) 120 _ _ _ ?_
          exact m_isSlot_y a0 a1 (And.intro (fun _ => And.intro rfl (And.intro ⟨rfl, v5⟩ (And.intro (fun _ => And.intro rfl (And.intro ⟨rfl, v5⟩ (And.intro (fun z => absurd z d2) (fun _ => End_of rfl hS)))) (fun z => absurd c2 z)))) (fun z => absurd m1z z))
        have key := hK _ _ _ _ _ _ _ hM
        refine am_wq_T (cut := fun _ _ => false) (inl := fun z => !(Nat.beq z 111)) 120 _ _ _ ?_
        exact And.intro rfl (c_slotAt_y hq a0 a1 (And.intro (fun z => absurd z hnz) (fun _ => And.intro (kT hq) (And.intro (fun _ => And.intro (kT hq) (And.intro (fun z => absurd z d1) (fun _ => key))) (fun z => absurd c1 z)))))
  all_goals
    have hM : sg_Mid L xs I n s (199, 2, 0, [.ref 107, .int x, .int y], []) (-1000000001) kt I J T n s := by
      refine ⟨h13, rfl, ?_⟩
      refine am_wq_T (cut := fun _ _ => false) (inl := fun z => !(Nat.beq z 190)) 120 _ _ _ ?_
      first | exact m_isSlot_n0 a0 (And.intro (fun z => absurd rfl z) (fun _ => End_of rfl hS)) | exact m_isSlot_n1 a0 a1 (And.intro (fun z => absurd rfl z) (fun _ => End_of rfl hS))
    have key := hK _ _ _ _ _ _ _ hM
    refine am_wq_T (cut := fun _ _ => false) (inl := fun z => !(Nat.beq z 111)) 120 _ _ _ ?_
    first | exact And.intro rfl (c_slotAt_n0 a0 (And.intro (fun _ => key) (fun z => absurd rfl z))) | exact And.intro rfl (c_slotAt_n1 a0 a1 (And.intro (fun _ => key) (fun z => absurd rfl z)))
theorem L_item (x y : Int32) : sg_Call (98, 2, 0, [.ref 20, .int x, .int y, .null], []) (198, 2, 0, [.ref 107, .int x, .int y, .null], []) := by
  intro L xs kt I J T n s K hS hK
  have h13 := hS.1.2.2.2.1
  rcases rng x 0 4 with ⟨a0, a1⟩ | a0 | ⟨a0, a1⟩
  · obtain ⟨q, hq3, rfl⟩ := in_of (m := 4) (by decide) a0 a1
    have hq : q < 5 := by omega
    have v5 : vp_in (nI q) 5 := vpl hq (by decide)
    have cq : (nI q).toNatClampNeg = q := nI_clamp (by omega)
    have hnz : ¬ 87 + 4 * q = 0 := by omega
    have er : am_R (am_k kt, I, J, am_r T, n, s) (87 + 4 * q) 3 = 89 + 4 * q := rT3 hq
    have er2 : am_R (am_k kt, I, J, am_r T, n, s) (89 + 4 * q) 2 = 90 + 4 * q := rT4 hq
    obtain ⟨s1, s2, s3, s4, s5⟩ := hS.2.2.2.2.2.1 q hq
    by_cases k0 : I 128 q = 0
    · have c1 : ¬ ¬ I (87 + 4 * q) 0 = 0 := fun z => z (s1.trans k0)
      have c2 : ¬ ¬ I 128 (nI q).toNatClampNeg = 0 := by rw [cq]; exact fun z => z k0
      have hM : sg_Mid L xs I n s (198, 2, 0, [.ref 107, .int (nI q), .int y, .null], []) (-1000000011) kt I J T n s := by
        refine ⟨h13, rfl, ?_⟩
        refine am_wq_T (cut := fun _ _ => false) (inl := fun z => !((Nat.beq z 190 || Nat.beq z 113))) 120 _ _ _ ?_
        exact m_isSlot_y a0 a1 (And.intro (fun _ => And.intro rfl (And.intro ⟨rfl, v5⟩ (And.intro (fun z => absurd z c2) (fun _ => End_of rfl hS)))) (fun z => absurd m1z z))
      have key := hK _ _ _ _ _ _ _ hM
      refine am_wq_T (cut := fun _ _ => false) (inl := fun z => !((Nat.beq z 111 || (Nat.beq z 36 || Nat.beq z 38)))) 120 _ _ _ ?_
      exact And.intro rfl (c_slotAt_y hq a0 a1 (And.intro (fun z => absurd z hnz) (fun _ => And.intro (kT hq) (And.intro (fun z => absurd z c1) (fun _ => key)))))
    · have c1 : ¬ I (87 + 4 * q) 0 = 0 := by rw [s1]; exact k0
      have c2 : ¬ I 128 (nI q).toNatClampNeg = 0 := by rw [cq]; exact k0
      by_cases k3 : I 128 q = 2
      · have d1 : I (87 + 4 * q) 0 = 2 := s1.trans k3
        have d2 : I 128 (nI q).toNatClampNeg = 2 := by rw [cq]; exact k3
        obtain ⟨size, hz, t3, t4, t5⟩ := s4 k3
        have t4' : I 129 (nI q).toNatClampNeg = nI size := by rw [cq]; exact t4
        rcases idx_cases t3 t4' (by omega) y with ⟨i, hi, rfl, i0, i1, i2⟩ | i0 | ⟨i0, i1, i2⟩
        · have v1 : vp_in (24 * nI q + nI i) 120 := by
            rw [show (24 : Int32) = nI 24 from rfl, pk_mul, nI_add]
            exact vpl (by omega) (by decide)
          have ix : (24 * nI q + nI i).toNatClampNeg = 24 * q + i := ixS (by omega) (by omega)
          have ci : (nI i).toNatClampNeg = i := nI_clamp (by omega)
          have k2 : (am_k kt (90 + 4 * q)).1 = 20 := by rw [kT3 hq]
          have vi : vp_in (nI i) (am_k kt (90 + 4 * q)).2 := by rw [kT3 hq]; exact vpl (by omega) (by decide)
          have ev : I (90 + 4 * q) (nI i).toNatClampNeg = I 131 (24 * nI q + nI i).toNatClampNeg := by rw [ci, ix]; exact (t5 i (by omega)).1
          by_cases vn : I 131 (24 * nI q + nI i).toNatClampNeg = -1000000005
          · have vn1 := ev.trans vn
            have vn2 : ¬ ¬ I 131 (24 * nI q + nI i).toNatClampNeg = -1000000005 := fun z => z vn
            have hM : sg_Mid L xs I n s (198, 2, 0, [.ref 107, .int (nI q), .int (nI i), .null], []) (-1000000012) kt I J T n s := by
              refine ⟨h13, rfl, ?_⟩
              refine am_wq_T (cut := fun _ _ => false) (inl := fun z => !((Nat.beq z 190 || Nat.beq z 113))) 120 _ _ _ ?_
              exact m_isSlot_y a0 a1 (And.intro (fun _ => And.intro rfl (And.intro ⟨rfl, v5⟩ (And.intro (fun _ => And.intro rfl (And.intro ⟨rfl, v5⟩ (And.intro (fun _ => And.intro rfl (And.intro ⟨rfl, v5⟩ (m_in_y i0 i2 (And.intro (fun _ => And.intro rfl (And.intro ⟨rfl, v1⟩ (And.intro (fun z => absurd z vn2) (fun _ => End_of rfl hS)))) (fun z => absurd m1z z))))) (fun z => absurd d2 z)))) (fun z => absurd c2 z)))) (fun z => absurd m1z z))
            have key := hK _ _ _ _ _ _ _ hM
            refine am_wq_T (cut := fun _ _ => false) (inl := fun z => !((Nat.beq z 111 || Nat.beq z 36))) 120 _ _ _ ?_
            refine And.intro rfl (c_slotAt_y hq a0 a1 (And.intro (fun z => absurd z hnz) (fun _ => And.intro (kT hq) (And.intro (fun _ => And.intro (kT hq) (And.intro (fun _ => And.intro (kT hq) ?_) (fun z => absurd d1 z))) (fun z => absurd c1 z)))))
            rw [er]
            refine And.intro (kT2 hq) (c_has_y (kT2 hq) i0 i1 (And.intro (fun _ => And.intro (kT hq) ?_) (fun z => absurd m1z z)))
            rw [er]
            refine And.intro (kT2 hq) (And.intro (kT2 hq) (c_has_y (kT2 hq) i0 i1 (And.intro (fun z => absurd z m1z) (fun _ => And.intro (kT2 hq) ?_))))
            rw [er2]
            exact And.intro ⟨k2, vi⟩ (And.intro (fun _ => And.intro rfl (And.intro (fun _ => key) (fun z => absurd rfl z))) (fun z => absurd vn1 z))
          · have vn1 : ¬ I (90 + 4 * q) (nI i).toNatClampNeg = -1000000005 := by rw [ev]; exact vn
            have hM : sg_Mid L xs I n s (198, 2, 0, [.ref 107, .int (nI q), .int (nI i), .null], []) (I (90 + 4 * q) (nI i).toNatClampNeg) kt I J T n s := by
              refine ⟨h13, rfl, ?_⟩
              refine am_wq_T (cut := fun _ _ => false) (inl := fun z => !((Nat.beq z 190 || Nat.beq z 113))) 120 _ _ _ ?_
              exact m_isSlot_y a0 a1 (And.intro (fun _ => And.intro rfl (And.intro ⟨rfl, v5⟩ (And.intro (fun _ => And.intro rfl (And.intro ⟨rfl, v5⟩ (And.intro (fun _ => And.intro rfl (And.intro ⟨rfl, v5⟩ (m_in_y i0 i2 (And.intro (fun _ => And.intro rfl (And.intro ⟨rfl, v1⟩ (And.intro (fun _ => End_of ev.symm hS) (fun z => absurd vn z)))) (fun z => absurd m1z z))))) (fun z => absurd d2 z)))) (fun z => absurd c2 z)))) (fun z => absurd m1z z))
            have key := hK _ _ _ _ _ _ _ hM
            refine am_wq_T (cut := fun _ _ => false) (inl := fun z => !((Nat.beq z 111 || Nat.beq z 36))) 120 _ _ _ ?_
            refine And.intro rfl (c_slotAt_y hq a0 a1 (And.intro (fun z => absurd z hnz) (fun _ => And.intro (kT hq) (And.intro (fun _ => And.intro (kT hq) (And.intro (fun _ => And.intro (kT hq) ?_) (fun z => absurd d1 z))) (fun z => absurd c1 z)))))
            rw [er]
            refine And.intro (kT2 hq) (c_has_y (kT2 hq) i0 i1 (And.intro (fun _ => And.intro (kT hq) ?_) (fun z => absurd m1z z)))
            rw [er]
            refine And.intro (kT2 hq) (And.intro (kT2 hq) (c_has_y (kT2 hq) i0 i1 (And.intro (fun z => absurd z m1z) (fun _ => And.intro (kT2 hq) ?_))))
            rw [er2]
            refine And.intro ⟨k2, vi⟩ (And.intro (fun z => absurd z vn1) (fun _ => And.intro rfl (And.intro (fun z => absurd z m1z) (fun _ => And.intro (kT hq) ?_))))
            rw [er]
            refine And.intro (kT2 hq) ?_
            rw [er2]
            exact And.intro ⟨k2, vi⟩ key
        all_goals
          have hM : sg_Mid L xs I n s (198, 2, 0, [.ref 107, .int (nI q), .int y, .null], []) (-1000000013) kt I J T n s := by
            refine ⟨h13, rfl, ?_⟩
            refine am_wq_T (cut := fun _ _ => false) (inl := fun z => !((Nat.beq z 190 || Nat.beq z 113))) 120 _ _ _ ?_
            refine m_isSlot_y a0 a1 (And.intro (fun _ => And.intro rfl (And.intro ⟨rfl, v5⟩ (And.intro (fun _ => And.intro rfl (And.intro ⟨rfl, v5⟩ (And.intro (fun _ => And.intro rfl (And.intro ⟨rfl, v5⟩ ?_)) (fun z => absurd d2 z)))) (fun z => absurd c2 z)))) (fun z => absurd m1z z))
            first | exact m_in_n0 i0 (And.intro (fun z => absurd rfl z) (fun _ => End_of rfl hS)) | exact m_in_n1 i0 i2 (And.intro (fun z => absurd rfl z) (fun _ => End_of rfl hS))
          have key := hK _ _ _ _ _ _ _ hM
          refine am_wq_T (cut := fun _ _ => false) (inl := fun z => !((Nat.beq z 111 || (Nat.beq z 36 || Nat.beq z 38)))) 120 _ _ _ ?_
          refine And.intro rfl (c_slotAt_y hq a0 a1 (And.intro (fun z => absurd z hnz) (fun _ => And.intro (kT hq) (And.intro (fun _ => And.intro (kT hq) (And.intro (fun _ => And.intro (kT hq) ?_) (fun z => absurd d1 z))) (fun z => absurd c1 z)))))
          rw [er]
          refine And.intro (kT2 hq) ?_
          first | exact c_has_n0 i0 (And.intro (fun z => absurd rfl z) (fun _ => key)) | exact c_has_n1 (kT2 hq) i0 i1 (And.intro (fun z => absurd rfl z) (fun _ => key))
      · have d1 : ¬ I (87 + 4 * q) 0 = 2 := by rw [s1]; exact k3
        have d2 : ¬ I 128 (nI q).toNatClampNeg = 2 := by rw [cq]; exact k3
        have hM : sg_Mid L xs I n s (198, 2, 0, [.ref 107, .int (nI q), .int y, .null], []) (-1000000012) kt I J T n s := by
          refine ⟨h13, rfl, ?_⟩
          refine am_wq_T (cut := fun _ _ => false) (inl := fun z => !((Nat.beq z 190 || Nat.beq z 113))) 120 _ _ _ ?_
          exact m_isSlot_y a0 a1 (And.intro (fun _ => And.intro rfl (And.intro ⟨rfl, v5⟩ (And.intro (fun _ => And.intro rfl (And.intro ⟨rfl, v5⟩ (And.intro (fun z => absurd z d2) (fun _ => End_of rfl hS)))) (fun z => absurd c2 z)))) (fun z => absurd m1z z))
        have key := hK _ _ _ _ _ _ _ hM
        refine am_wq_T (cut := fun _ _ => false) (inl := fun z => !((Nat.beq z 111 || (Nat.beq z 36 || Nat.beq z 38)))) 120 _ _ _ ?_
        exact And.intro rfl (c_slotAt_y hq a0 a1 (And.intro (fun z => absurd z hnz) (fun _ => And.intro (kT hq) (And.intro (fun _ => And.intro (kT hq) (And.intro (fun z => absurd z d1) (fun _ => key))) (fun z => absurd c1 z)))))
  all_goals
    have hM : sg_Mid L xs I n s (198, 2, 0, [.ref 107, .int x, .int y, .null], []) (-1000000001) kt I J T n s := by
      refine ⟨h13, rfl, ?_⟩
      refine am_wq_T (cut := fun _ _ => false) (inl := fun z => !((Nat.beq z 190 || Nat.beq z 113))) 120 _ _ _ ?_
      first | exact m_isSlot_n0 a0 (And.intro (fun z => absurd rfl z) (fun _ => End_of rfl hS)) | exact m_isSlot_n1 a0 a1 (And.intro (fun z => absurd rfl z) (fun _ => End_of rfl hS))
    have key := hK _ _ _ _ _ _ _ hM
    refine am_wq_T (cut := fun _ _ => false) (inl := fun z => !((Nat.beq z 111 || (Nat.beq z 36 || Nat.beq z 38)))) 120 _ _ _ ?_
    first | exact And.intro rfl (c_slotAt_n0 a0 (And.intro (fun _ => key) (fun z => absurd rfl z))) | exact And.intro rfl (c_slotAt_n1 a0 a1 (And.intro (fun _ => key) (fun z => absurd rfl z)))
end T81
