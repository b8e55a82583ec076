/-! hole -/
section T68
variable {kt : Nat → Nat × Nat} {I I' : Nat → Nat → Int32} {J J' : Nat → Nat → Int64} {T T' : Nat → Nat → Nat} {n s : Nat} {L : Nat} {xs : Nat → Int32} {K : Option Value → am_M → Prop} {N N' : Nat → Int32} {hc wc tc h w : Nat}
/-- a hole's five numbers in the class -/
def cl5 (I : Nat → Nat → Int32) (x : Nat) (a b c d : Int32) : Nat → Nat → Int32 := am_up (am_up (am_up (am_up (am_up I x 0 a) x 1 b) x 2 c) x 3 d) x 4 0
theorem cl5_off {x r : Nat} {a b c d : Int32} (h : r ≠ x) : cl5 I x a b c d r = I r := by
  unfold cl5
  rw [up_off h, up_off h, up_off h, up_off h, up_off h]
theorem c_start {x : Nat} {a b c d : Int32} (hx : am_k kt x = (1, 5)) (hK : K none (am_mk kt (cl5 I x a b c d) J T n s)) : am_T am_C (7, 0, 0, [.ref x, .int a, .int b, .int c, .int d], []) (am_mk kt I J T n s) K := by
  refine am_wq_T (cut := fun _ _ => false) (inl := fun _ => true) 120 _ _ _ ?_
  exact And.intro hx (And.intro hx (And.intro hx (And.intro hx (And.intro hx hK))))
theorem c_open {a b c d : Int32} (hcn : I 21 1 = nI hc) (hh : hc < 10) (hK : K (some (.int (nI hc))) (am_mk kt (am_up (cl5 I (27 + hc) a b c d) 21 1 (nI (hc + 1))) J T n s)) : am_T am_C (16, 1, 0, [.ref 21, .int a, .int b, .int c, .int d, .null], []) (am_mk kt I J T n s) K := by
  have c1 : I 21 1 < 10 := by rw [hcn]; exact nI_lt (b := 10) hh (by decide)
  have v1 : vp_in (I 21 1) 10 := by rw [hcn]; exact vpl hh (by decide)
  have er : am_R (am_k kt, I, J, am_r T, n, s) (am_R (am_k kt, I, J, am_r T, n, s) 21 0) (I 21 1).toNatClampNeg = 27 + hc := by rw [hcn]; exact rL21 hh
  rw [nI_succ, ← hcn] at hK
  refine am_wq_T (cut := fun _ _ => false) (inl := fun z => !(Nat.beq z 7)) 120 _ _ _ ?_
  refine And.intro rfl (And.intro (fun _ => And.intro rfl (And.intro ⟨rfl, v1⟩ ?_)) (fun q => absurd c1 q))
  have er2 : am_R (am_k kt, I, J, am_r T, n, s) (am_R (am_k kt, I, J, am_r T, n, s) 21 0) (am_I (am_k kt, I, J, am_r T, n, s) 21 1).toNatClampNeg = 27 + hc := er
  rw [er2]
  refine And.intro (kL21 hh) (c_start (kL21 hh) ?_)
  exact And.intro rfl hK
/-- a land with one hole more -/
theorem open_LR {a b c d : Int32} (hh : hc < 10) (hR : sg_LR kt I T n 21 N hc wc tc) : sg_LR kt (am_up (cl5 I (27 + hc) a b c d) 21 1 (nI (hc + 1))) T n 21 (upN (layN N hc a b c d) 1 (nI (hc + 1))) (hc + 1) wc tc := by
  have q1 := LR_up (v := a) (r := 27 + hc) (k := 0) (j := 21 + 5 * hc + 0) (by decide) (by unfold cellR; omega) hR
  have q2 := LR_up (v := b) (r := 27 + hc) (k := 1) (j := 21 + 5 * hc + 1) (by decide) (by unfold cellR; omega) q1
  have q3 := LR_up (v := c) (r := 27 + hc) (k := 2) (j := 21 + 5 * hc + 2) (by decide) (by unfold cellR; omega) q2
  have q4 := LR_up (v := d) (r := 27 + hc) (k := 3) (j := 21 + 5 * hc + 3) (by decide) (by unfold cellR; omega) q3
  have q5 := LR_up (v := 0) (r := 27 + hc) (k := 4) (j := 21 + 5 * hc + 4) (by decide) (by unfold cellR; omega) q4
  refine LR_hc (by decide) (by omega) (fun x hx k hk => ?_) q5
  by_cases e : x = hc
  · subst e
    have : k = 0 ∨ k = 1 ∨ k = 2 ∨ k = 3 ∨ k = 4 := by omega
    unfold cl5 layN
    rw [show 21 + 6 + x = 27 + x by omega]
    rcases this with rfl | rfl | rfl | rfl | rfl
    · rw [up_ne (by omega), up_ne (by omega), up_ne (by omega), up_ne (by omega), up_eq, upN_ne (by omega), upN_ne (by omega), upN_ne (by omega), upN_ne (by omega), upN_eq]
    · rw [up_ne (by omega), up_ne (by omega), up_ne (by omega), up_eq, upN_ne (by omega), upN_ne (by omega), upN_ne (by omega), upN_eq]
    · rw [up_ne (by omega), up_ne (by omega), up_eq, upN_ne (by omega), upN_ne (by omega), upN_eq]
    · rw [up_ne (by omega), up_eq, upN_ne (by omega), upN_eq]
    · rw [up_eq, upN_eq]
  · exact q5.2.2.2.2.2.2.2.2.2.1 x (by omega) k hk
theorem open_LB {a b c d : Int32} (h10 : hc ≤ 10) (hw6 : wc ≤ 6) (ha : sg_in a 0 5) (hb : sg_in b 0 29) (hcc : sg_in c 0 99) (hd : sg_in d 0 7) (hB : sg_LB N hc wc) : sg_LB (upN (layN N hc a b c d) 1 (nI (hc + 1))) (hc + 1) wc := by
  have off : ∀ j, j ≠ 1 → ¬ (21 + 5 * hc ≤ j ∧ j < 26 + 5 * hc) → upN (layN N hc a b c d) 1 (nI (hc + 1)) j = N j := fun j h1 h2 => by
    unfold layN
    rw [upN_ne h1, upN_ne (by omega), upN_ne (by omega), upN_ne (by omega), upN_ne (by omega), upN_ne (by omega)]
  obtain ⟨b0, b1, b2, b3, b4⟩ := hB
  refine ⟨fun x hx => ?_, fun w hw => ?_, ?_, ?_, ?_⟩
  · by_cases e : x = hc
    · subst e
      unfold layN
      refine ⟨?_, ?_, ?_, ?_, ?_⟩
      · rw [upN_ne (by omega), upN_ne (by omega), upN_ne (by omega), upN_ne (by omega), upN_ne (by omega), show 21 + 5 * x = 21 + 5 * x + 0 from rfl, upN_eq]; exact ha
      · rw [upN_ne (by omega), upN_ne (by omega), upN_ne (by omega), upN_ne (by omega), upN_eq]; exact hb
      · rw [upN_ne (by omega), upN_ne (by omega), upN_ne (by omega), upN_eq]; exact hcc
      · rw [upN_ne (by omega), upN_ne (by omega), upN_eq]; exact hd
      · rw [upN_ne (by omega), upN_eq]; unfold sg_in; decide
    · rw [off _ (by omega) (by omega), off _ (by omega) (by omega), off _ (by omega) (by omega), off _ (by omega) (by omega), off _ (by omega) (by omega)]
      exact b0 x (by omega)
  · rw [off _ (by omega) (by omega), off _ (by omega) (by omega)]; exact b1 w hw
  · rw [off _ (by omega) (by omega)]; exact b2
  · rw [off _ (by omega) (by omega)]; exact b3
  · rw [off _ (by omega) (by omega)]; exact b4
theorem L_hole (a b c d : Int32) : sg_Call (62, 2, 0, [.ref 20, .int a, .int b, .int c, .int d], []) (126, 3, 0, [.ref 107, .int a, .int b, .int c, .int d], []) := by
  intro L xs kt I J T n s K hS hK
  have h13 := hS.1.2.2.2.1
  obtain ⟨hc, wc, tc, hR, hB⟩ := hS.2.1
  have h10 := hR.1
  have hcn : I 21 1 = nI hc := hR.2.2.2.2.2.2.1
  have hN1 : I 108 1 = nI hc := hR.2.2.2.1
  have bad : sg_Mid L xs I n s (126, 3, 0, [.ref 107, .int a, .int b, .int c, .int d], []) (-1000000001) kt I J T n s → K (some (.int (-1000000001))) (am_mk kt I J T n s) := fun hM => hK _ _ _ _ _ _ _ hM
  rcases rng a 0 5 with ⟨a0, a1⟩ | a0 | ⟨a0, a1⟩
  · rcases rng b 0 29 with ⟨b0, b1⟩ | b0 | ⟨b0, b1⟩
    · rcases rng c 0 99 with ⟨c0, c1⟩ | c0 | ⟨c0, c1⟩
      · rcases rng d 0 7 with ⟨d0, d1⟩ | d0 | ⟨d0, d1⟩
        · by_cases hh : hc < 10
          · have c9 : I 21 1 < 10 := by rw [hcn]; exact nI_lt (b := 10) hh (by decide)
            have hM : sg_Mid L xs I n s (126, 3, 0, [.ref 107, .int a, .int b, .int c, .int d], []) (nI hc) kt (am_up (cl5 I (27 + hc) a b c d) 21 1 (nI (hc + 1))) J T n s := by
              refine ⟨h13, by rw [up_off (by omega), cl5_off (by omega)], ?_⟩
              obtain ⟨I1, e1⟩ : ∃ I1, I1 = am_up (cl5 I (27 + hc) a b c d) 21 1 (nI (hc + 1)) := ⟨_, rfl⟩
              rw [← e1]
              have hN2 : I1 108 = I 108 := by rw [e1, up_off (by omega), cl5_off (by omega)]
              have c8 : ¬ I1 108 1 = 10 := by rw [hN2, hN1]; intro z; have := (nI_eq (b := 10) (by omega) (by decide)).mp z; omega
              refine am_wq_T (cut := fun _ _ => false) (inl := fun z => !((Nat.beq z 113 || (Nat.beq z 118 || (Nat.beq z 119 || Nat.beq z 125))))) 120 _ _ _ ?_
              refine m_in_y a0 a1 (And.intro (fun q => absurd q m1z) (fun _ => m_isPlace_y b0 b1 (And.intro (fun q => absurd q m1z) (fun _ => m_in_y c0 c1 (And.intro (fun q => absurd q m1z) (fun _ => m_isOwner_y d0 d1 (And.intro (fun _ => ?_) (fun q => absurd m1z q))))))))
              refine And.intro rfl (And.intro ⟨rfl, vp1N⟩ (And.intro (fun _ => And.intro rfl ?_) (fun q => absurd c8 q)))
              refine m_comes (h := hc) (by rw [hN2]; exact hN1) h10 ?_
              refine End_of rfl (sim_land (I := I) (fun r k _ p1 p2 => ?_) (fun _ _ => rfl) ?_ hS)
              · rw [up_off p2, layI_ch r p2, e1, up_off (by omega), cl5_off (by omega)]
              · rw [up_row, layI_row, hN2]
                have lr := open_LR (a := a) (b := b) (c := c) (d := d) hh hR
                rw [← e1] at lr
                have A : sg_in a 0 5 := by unfold sg_in; clear hK hS hR hB bad lr; (simp only [Int32.lt_iff_toInt_lt, Int32.le_iff_toInt_le, gt_iff_lt, ge_iff_le, ← Int32.toInt_inj, Int32.reduceToInt, Int32.reduceMul, Int32.reduceAdd, Int32.reduceSub, ne_eq, true_and, and_true, false_and, and_false, not_true_eq_false, not_false_eq_true, true_or, or_true, false_or, or_false] at *; omega)
                have B : sg_in b 0 29 := by unfold sg_in; clear hK hS hR hB bad lr; (simp only [Int32.lt_iff_toInt_lt, Int32.le_iff_toInt_le, gt_iff_lt, ge_iff_le, ← Int32.toInt_inj, Int32.reduceToInt, Int32.reduceMul, Int32.reduceAdd, Int32.reduceSub, ne_eq, true_and, and_true, false_and, and_false, not_true_eq_false, not_false_eq_true, true_or, or_true, false_or, or_false] at *; omega)
                have C : sg_in c 0 99 := by unfold sg_in; clear hK hS hR hB bad lr; (simp only [Int32.lt_iff_toInt_lt, Int32.le_iff_toInt_le, gt_iff_lt, ge_iff_le, ← Int32.toInt_inj, Int32.reduceToInt, Int32.reduceMul, Int32.reduceAdd, Int32.reduceSub, ne_eq, true_and, and_true, false_and, and_false, not_true_eq_false, not_false_eq_true, true_or, or_true, false_or, or_false] at *; omega)
                have D : sg_in d 0 7 := by unfold sg_in; clear hK hS hR hB bad lr; (simp only [Int32.lt_iff_toInt_lt, Int32.le_iff_toInt_le, gt_iff_lt, ge_iff_le, ← Int32.toInt_inj, Int32.reduceToInt, Int32.reduceMul, Int32.reduceAdd, Int32.reduceSub, ne_eq, true_and, and_true, false_and, and_false, not_true_eq_false, not_false_eq_true, true_or, or_true, false_or, or_false] at *; omega)
                exact ⟨hc + 1, wc, tc, LR_cg (fun r k hr => by rw [up_off (by omega), layI_ch r (by omega)]) lr, open_LB h10 hR.2.1 A B C D hB⟩
            have key := hK _ _ _ _ _ _ _ hM
            refine am_wq_T (cut := fun _ _ => false) (inl := fun z => !((Nat.beq z 105 || Nat.beq z 16))) 120 _ _ _ ?_
            refine c_within_y a0 a1 (And.intro (fun q => absurd q m1z) (fun _ => c_within_y b0 b1 (And.intro (fun _ => c_within_y c0 c1 (And.intro (fun q => absurd q m1z) (fun _ => c_within_y d0 d1 (And.intro (fun _ => ?_) (fun q => absurd m1z q))))) (fun q => absurd m1z q))))
            exact And.intro rfl (And.intro rfl (And.intro (fun _ => And.intro rfl (And.intro rfl (c_open hcn hh key))) (fun q => absurd c9 q)))
          · have e10 : hc = 10 := by omega
            subst e10
            have c9 : ¬ I 21 1 < 10 := by rw [hcn]; decide
            have c8 : ¬ ¬ I 108 1 = 10 := fun z => z hN1
            have hM : sg_Mid L xs I n s (126, 3, 0, [.ref 107, .int a, .int b, .int c, .int d], []) (-1000000003) kt I J T n s := by
              refine ⟨h13, rfl, ?_⟩
              refine am_wq_T (cut := fun _ _ => false) (inl := fun z => !((Nat.beq z 113 || (Nat.beq z 118 || (Nat.beq z 119 || Nat.beq z 125))))) 120 _ _ _ ?_
              refine m_in_y a0 a1 (And.intro (fun q => absurd q m1z) (fun _ => m_isPlace_y b0 b1 (And.intro (fun q => absurd q m1z) (fun _ => m_in_y c0 c1 (And.intro (fun q => absurd q m1z) (fun _ => m_isOwner_y d0 d1 (And.intro (fun _ => ?_) (fun q => absurd m1z q))))))))
              exact And.intro rfl (And.intro ⟨rfl, vp1N⟩ (And.intro (fun q => absurd q c8) (fun _ => End_of rfl hS)))
            have key := hK _ _ _ _ _ _ _ hM
            refine am_wq_T (cut := fun _ _ => false) (inl := fun z => !((Nat.beq z 105 || Nat.beq z 16))) 120 _ _ _ ?_
            refine c_within_y a0 a1 (And.intro (fun q => absurd q m1z) (fun _ => c_within_y b0 b1 (And.intro (fun _ => c_within_y c0 c1 (And.intro (fun q => absurd q m1z) (fun _ => c_within_y d0 d1 (And.intro (fun _ => ?_) (fun q => absurd m1z q))))) (fun q => absurd m1z q))))
            exact And.intro rfl (And.intro rfl (And.intro (fun q => absurd q c9) (fun _ => key)))
        all_goals
          have key := bad (by
            refine ⟨h13, rfl, ?_⟩
            refine am_wq_T (cut := fun _ _ => false) (inl := fun z => !((Nat.beq z 113 || (Nat.beq z 118 || (Nat.beq z 119 || Nat.beq z 125))))) 120 _ _ _ ?_
            refine m_in_y a0 a1 (And.intro (fun q => absurd q m1z) (fun _ => m_isPlace_y b0 b1 (And.intro (fun q => absurd q m1z) (fun _ => m_in_y c0 c1 (And.intro (fun q => absurd q m1z) (fun _ => ?_))))))
            first | exact m_isOwner_n0 d0 (And.intro (fun q => absurd rfl q) (fun _ => End_of rfl hS)) | exact m_isOwner_n1 d0 d1 (And.intro (fun q => absurd rfl q) (fun _ => End_of rfl hS)))
          refine am_wq_T (cut := fun _ _ => false) (inl := fun z => !((Nat.beq z 105 || Nat.beq z 16))) 120 _ _ _ ?_
          refine c_within_y a0 a1 (And.intro (fun q => absurd q m1z) (fun _ => c_within_y b0 b1 (And.intro (fun _ => c_within_y c0 c1 (And.intro (fun q => absurd q m1z) (fun _ => ?_))) (fun q => absurd m1z q))))
          first | exact c_within_n0 d0 (And.intro (fun q => absurd rfl q) (fun _ => key)) | exact c_within_n1 d0 d1 (And.intro (fun q => absurd rfl q) (fun _ => key))
      all_goals
        have key := bad (by
          refine ⟨h13, rfl, ?_⟩
          refine am_wq_T (cut := fun _ _ => false) (inl := fun z => !((Nat.beq z 113 || (Nat.beq z 118 || (Nat.beq z 119 || Nat.beq z 125))))) 120 _ _ _ ?_
          refine m_in_y a0 a1 (And.intro (fun q => absurd q m1z) (fun _ => m_isPlace_y b0 b1 (And.intro (fun q => absurd q m1z) (fun _ => ?_))))
          first | exact m_in_n0 c0 (And.intro (fun _ => End_of rfl hS) (fun q => absurd rfl q)) | exact m_in_n1 c0 c1 (And.intro (fun _ => End_of rfl hS) (fun q => absurd rfl q)))
        refine am_wq_T (cut := fun _ _ => false) (inl := fun z => !((Nat.beq z 105 || Nat.beq z 16))) 120 _ _ _ ?_
        refine c_within_y a0 a1 (And.intro (fun q => absurd q m1z) (fun _ => c_within_y b0 b1 (And.intro (fun _ => ?_) (fun q => absurd m1z q))))
        first | exact c_within_n0 c0 (And.intro (fun _ => key) (fun q => absurd rfl q)) | exact c_within_n1 c0 c1 (And.intro (fun _ => key) (fun q => absurd rfl q))
    all_goals
      have key := bad (by
        refine ⟨h13, rfl, ?_⟩
        refine am_wq_T (cut := fun _ _ => false) (inl := fun z => !((Nat.beq z 113 || (Nat.beq z 118 || (Nat.beq z 119 || Nat.beq z 125))))) 120 _ _ _ ?_
        refine m_in_y a0 a1 (And.intro (fun q => absurd q m1z) (fun _ => ?_))
        first | exact m_isPlace_n0 b0 (And.intro (fun _ => End_of rfl hS) (fun q => absurd rfl q)) | exact m_isPlace_n1 b0 b1 (And.intro (fun _ => End_of rfl hS) (fun q => absurd rfl q)))
      refine am_wq_T (cut := fun _ _ => false) (inl := fun z => !((Nat.beq z 105 || Nat.beq z 16))) 120 _ _ _ ?_
      refine c_within_y a0 a1 (And.intro (fun q => absurd q m1z) (fun _ => ?_))
      first | exact c_within_n0 b0 (And.intro (fun q => absurd rfl q) (fun _ => key)) | exact c_within_n1 b0 b1 (And.intro (fun q => absurd rfl q) (fun _ => key))
  all_goals
    have key := bad (by
      refine ⟨h13, rfl, ?_⟩
      refine am_wq_T (cut := fun _ _ => false) (inl := fun z => !((Nat.beq z 113 || (Nat.beq z 118 || (Nat.beq z 119 || Nat.beq z 125))))) 120 _ _ _ ?_
      first | exact m_in_n0 a0 (And.intro (fun _ => End_of rfl hS) (fun q => absurd rfl q)) | exact m_in_n1 a0 a1 (And.intro (fun _ => End_of rfl hS) (fun q => absurd rfl q)))
    refine am_wq_T (cut := fun _ _ => false) (inl := fun z => !((Nat.beq z 105 || Nat.beq z 16))) 120 _ _ _ ?_
    first | exact c_within_n0 a0 (And.intro (fun _ => key) (fun q => absurd rfl q)) | exact c_within_n1 a0 a1 (And.intro (fun _ => key) (fun q => absurd rfl q))
end T68
