/-! keep, back -/
section T66
variable {kt : Nat → Nat × Nat} {I I' : Nat → Nat → Int32} {J J' : Nat → Nat → Int64} {T T' : Nat → Nat → Nat} {n s : Nat} {L : Nat} {xs : Nat → Int32} {K : Option Value → am_M → Prop} {N N' : Nat → Int32} {hc wc tc h w : Nat}
theorem sim_gen (h : ∀ r k, rv r k → ¬ (21 ≤ r ∧ r < 37) → r ≠ 108 → ¬ (53 ≤ r ∧ r < 69) → r ≠ 109 → ¬ (r = 20 ∧ k = 3) → ¬ (r = 107 ∧ k = 3) → I' r k = I r k) (hJ : ∀ r, r < 20 → J' r = J r) (hL : sg_Land kt I' T' n 21 (I' 108)) (hF : I' 20 3 = I' 107 3 ∧ (I' 107 3 = 0 ∨ I' 107 3 = 1) ∧ (I' 107 3 = 1 → sg_Land kt I' T' n 53 (I' 109))) (q : sg_Sim L xs kt I J T n) : sg_Sim L xs kt I' J' T' n := by
  have e : ∀ r, (∀ k, rv r k) → ¬ (21 ≤ r ∧ r < 37) → r ≠ 108 → ¬ (53 ≤ r ∧ r < 69) → r ≠ 109 → r ≠ 20 → r ≠ 107 → I' r = I r := fun r a b c d e f g => funext fun k => h r k (a k) b c d e (fun z => f z.1) (fun z => g z.1)
  obtain ⟨⟨f0, f1, f2, f3, f4, f5, f6⟩, -, -, t, sh, sl, w⟩ := q
  have x : ∀ r k, rv r k → ¬ (21 ≤ r ∧ r < 37) ∧ r ≠ 108 ∧ ¬ (53 ≤ r ∧ r < 69) ∧ r ≠ 109 ∧ ¬ (r = 20 ∧ k = 3) ∧ ¬ (r = 107 ∧ k = 3) → I' r k = I r k := fun r k a b => h r k a b.1 b.2.1 b.2.2.1 b.2.2.2.1 b.2.2.2.2.1 b.2.2.2.2.2
  have y : ∀ r, (∀ k, rv r k) → (¬ (21 ≤ r ∧ r < 37) ∧ r ≠ 108 ∧ ¬ (53 ≤ r ∧ r < 69) ∧ r ≠ 109 ∧ r ≠ 20 ∧ r ≠ 107) → I' r = I r := fun r a b => e r a b.1 b.2.1 b.2.2.1 b.2.2.2.1 b.2.2.2.2.1 b.2.2.2.2.2
  refine ⟨⟨f0, f1, f2, f3, ?_, ?_, ?_⟩, hL, hF, ?_, ?_, ?_, ?_⟩
  · intro r hr
    rw [y r (fun k => by unfold rv; omega) (by omega), hJ r hr]
    exact f4 r hr
  · rw [y 118 (fun k => by unfold rv; omega) (by omega)]; exact f5
  · rw [y 119 (fun k => by unfold rv; omega) (by omega)]; exact f6
  · exact Tape_cg (x _ _ (by unfold rv; omega) (by omega)) (y _ (fun k => by unfold rv; omega) (by omega)) (x _ _ (by unfold rv; omega) (by omega)) (y _ (fun k => by unfold rv; omega) (by omega)) t
  · intro q hq
    exact Sheet_cg (y _ (fun k => by unfold rv; omega) (by omega)) (y _ (fun k => by unfold rv; omega) (by omega)) (y _ (fun k => by unfold rv; omega) (by omega)) (y _ (fun k => by unfold rv; omega) (by omega)) (y _ (fun k => by unfold rv; omega) (by omega)) (sh q hq)
  · intro q hq
    exact Slot_cg (y _ (fun k => by unfold rv; omega) (by omega)) (y _ (fun k => by unfold rv; omega) (by omega)) (y _ (fun k => by unfold rv; omega) (by omega)) (y _ (fun k => by unfold rv; omega) (by omega)) (y _ (fun k => by unfold rv; omega) (by omega)) (y _ (fun k => by unfold rv; omega) (by omega)) (y _ (fun k => by unfold rv; omega) (by omega)) (y _ (fun k => by unfold rv; omega) (by omega)) (sl q hq)
  · exact Wait_cg (x _ _ (by unfold rv; omega) (by omega)) (y _ (fun k => by unfold rv; omega) (by omega)) (x _ _ (by unfold rv; omega) (by omega)) (y _ (fun k => by unfold rv; omega) (by omega)) w
/-- a row that is the same as far as it goes -/
theorem LR_N {b : Nat} (h : ∀ k, k < 1448 → N' k = N k) (q : sg_LR kt I T n b N hc wc tc) : sg_LR kt I T n b N' hc wc tc := by
  obtain ⟨h0, h1, h2, h3, h4, h5, h6, h7, h8, h9, h10, h11, h12, h13, h14, h15, h16, h17, h18⟩ := q
  refine ⟨h0, h1, h2, ?_, ?_, ?_, h6, h7, h8, ?_, ?_, ?_, ?_, ?_, ?_, ?_, ?_, ?_, ?_⟩
  · rw [h _ (by omega)]; exact h3
  · rw [h _ (by omega)]; exact h4
  · rw [h _ (by omega)]; exact h5
  · intro i hi k hk; rw [h _ (by omega)]; exact h9 i hi k hk
  · intro w hw; rw [h _ (by omega), h _ (by omega)]; exact h10 w hw
  · rw [h _ (by omega)]; exact h11
  · rw [h _ (by omega)]; exact h12
  · rw [h _ (by omega)]; exact h13
  · rw [h _ (by omega)]; exact h14
  · rw [h _ (by omega)]; exact h15
  · rw [h _ (by omega)]; exact h16
  · intro t ht
    exact Txt_cg (fun _ _ _ _ => rfl) ⟨h _ (by omega), h _ (by omega), fun _ _ => h _ (by omega)⟩ (h17 t ht)
  · intro key hk
    rw [cnt_cg (fun i hi => h _ (by omega))]
    exact h18 key hk
theorem LB_N (h : ∀ k, k < 1448 → N' k = N k) (h10 : hc ≤ 10) (hw6 : wc ≤ 6) (q : sg_LB N hc wc) : sg_LB N' hc wc := by
  obtain ⟨b0, b1, b2, b3, b4⟩ := q
  refine ⟨fun x hh => ?_, fun w hw => ?_, ?_, ?_, ?_⟩
  · rw [h _ (by omega), h _ (by omega), h _ (by omega), h _ (by omega), h _ (by omega)]; exact b0 x hh
  · rw [h _ (by omega), h _ (by omega)]; exact b1 w hw
  · rw [h _ (by omega)]; exact b2
  · rw [h _ (by omega)]; exact b3
  · rw [h _ (by omega)]; exact b4
theorem m_copy108_109_l {I0 : Nat → Nat → Int32} : ∀ (j i : Nat), i + j = 1448 → K none (am_mk kt (am_row I0 109 (cpN (I0 109) (I0 108) 1448)) J T n s) → am_T am_C (115, 0, 2, [.ref 108, .ref 109, .int (nI i)], []) (am_mk kt (am_row I0 109 (cpN (I0 109) (I0 108) i)) J T n s) K
  | 0, i, hi, hK => by
    have : i = 1448 := by omega
    subst this
    have c1 : (1448 : Int32) ≤ nI 1448 := by decide
    refine am_wq_T (cut := fun z pc => (Nat.beq z 115 && Nat.beq pc 2)) (inl := fun _ => false) 120 _ _ _ ?_
    exact And.intro (fun _ => hK) (fun q => absurd c1 q)
  | j + 1, i, hi, hK => by
    have c1 : ¬ (1448 : Int32) ≤ nI i := nI_ge (b := 1448) (by omega) (by decide)
    have key := m_copy108_109_l j (i + 1) (by omega) hK
    rw [nI_succ i, ← cp_step I0 109 (I0 108) i (by omega)] at key
    refine am_wq_T (cut := fun z pc => (Nat.beq z 115 && Nat.beq pc 2)) (inl := fun _ => false) 120 _ _ _ ?_
    exact And.intro (fun q => absurd q c1) (fun _ => And.intro ⟨rfl, vp1448 (k := i) (by omega)⟩ (And.intro ⟨rfl, vp1448 (k := i) (by omega)⟩ key))
theorem m_copy108_109 (hK : ∀ I', ch (fun r => r = 109) I I' → (∀ k, k < 1448 → I' 109 k = I 108 k) → K none (am_mk kt I' J T n s)) : am_T am_C (115, 0, 0, [.ref 108, .ref 109, .null], []) (am_mk kt I J T n s) K := by
  have key := m_copy108_109_l (kt := kt) (J := J) (T := T) (n := n) (s := s) (K := K) (I0 := I) 1448 0 (by decide) (hK _ (ch_row rfl) (fun k hk => by
    rw [row_eq]
    unfold cpN
    rw [if_pos hk]))
  rw [cp_0] at key
  refine am_wq_T (cut := fun z pc => (Nat.beq z 115 && Nat.beq pc 2)) (inl := fun _ => false) 120 _ _ _ ?_
  exact key
theorem m_copy109_108_l {I0 : Nat → Nat → Int32} : ∀ (j i : Nat), i + j = 1448 → K none (am_mk kt (am_row I0 108 (cpN (I0 108) (I0 109) 1448)) J T n s) → am_T am_C (115, 0, 2, [.ref 109, .ref 108, .int (nI i)], []) (am_mk kt (am_row I0 108 (cpN (I0 108) (I0 109) i)) J T n s) K
  | 0, i, hi, hK => by
    have : i = 1448 := by omega
    subst this
    have c1 : (1448 : Int32) ≤ nI 1448 := by decide
    refine am_wq_T (cut := fun z pc => (Nat.beq z 115 && Nat.beq pc 2)) (inl := fun _ => false) 120 _ _ _ ?_
    exact And.intro (fun _ => hK) (fun q => absurd c1 q)
  | j + 1, i, hi, hK => by
    have c1 : ¬ (1448 : Int32) ≤ nI i := nI_ge (b := 1448) (by omega) (by decide)
    have key := m_copy109_108_l j (i + 1) (by omega) hK
    rw [nI_succ i, ← cp_step I0 108 (I0 109) i (by omega)] at key
    refine am_wq_T (cut := fun z pc => (Nat.beq z 115 && Nat.beq pc 2)) (inl := fun _ => false) 120 _ _ _ ?_
    exact And.intro (fun q => absurd q c1) (fun _ => And.intro ⟨rfl, vp1448 (k := i) (by omega)⟩ (And.intro ⟨rfl, vp1448 (k := i) (by omega)⟩ key))
theorem m_copy109_108 (hK : ∀ I', ch (fun r => r = 108) I I' → (∀ k, k < 1448 → I' 108 k = I 109 k) → K none (am_mk kt I' J T n s)) : am_T am_C (115, 0, 0, [.ref 109, .ref 108, .null], []) (am_mk kt I J T n s) K := by
  have key := m_copy109_108_l (kt := kt) (J := J) (T := T) (n := n) (s := s) (K := K) (I0 := I) 1448 0 (by decide) (hK _ (ch_row rfl) (fun k hk => by
    rw [row_eq]
    unfold cpN
    rw [if_pos hk]))
  rw [cp_0] at key
  refine am_wq_T (cut := fun z pc => (Nat.beq z 115 && Nat.beq pc 2)) (inl := fun _ => false) 120 _ _ _ ?_
  exact key
theorem m_copy108_110_l {I0 : Nat → Nat → Int32} : ∀ (j i : Nat), i + j = 1448 → K none (am_mk kt (am_row I0 110 (cpN (I0 110) (I0 108) 1448)) J T n s) → am_T am_C (115, 0, 2, [.ref 108, .ref 110, .int (nI i)], []) (am_mk kt (am_row I0 110 (cpN (I0 110) (I0 108) i)) J T n s) K
  | 0, i, hi, hK => by
    have : i = 1448 := by omega
    subst this
    have c1 : (1448 : Int32) ≤ nI 1448 := by decide
    refine am_wq_T (cut := fun z pc => (Nat.beq z 115 && Nat.beq pc 2)) (inl := fun _ => false) 120 _ _ _ ?_
    exact And.intro (fun _ => hK) (fun q => absurd c1 q)
  | j + 1, i, hi, hK => by
    have c1 : ¬ (1448 : Int32) ≤ nI i := nI_ge (b := 1448) (by omega) (by decide)
    have key := m_copy108_110_l j (i + 1) (by omega) hK
    rw [nI_succ i, ← cp_step I0 110 (I0 108) i (by omega)] at key
    refine am_wq_T (cut := fun z pc => (Nat.beq z 115 && Nat.beq pc 2)) (inl := fun _ => false) 120 _ _ _ ?_
    exact And.intro (fun q => absurd q c1) (fun _ => And.intro ⟨rfl, vp1448 (k := i) (by omega)⟩ (And.intro ⟨rfl, vp1448 (k := i) (by omega)⟩ key))
theorem m_copy108_110 (hK : ∀ I', ch (fun r => r = 110) I I' → (∀ k, k < 1448 → I' 110 k = I 108 k) → K none (am_mk kt I' J T n s)) : am_T am_C (115, 0, 0, [.ref 108, .ref 110, .null], []) (am_mk kt I J T n s) K := by
  have key := m_copy108_110_l (kt := kt) (J := J) (T := T) (n := n) (s := s) (K := K) (I0 := I) 1448 0 (by decide) (hK _ (ch_row rfl) (fun k hk => by
    rw [row_eq]
    unfold cpN
    rw [if_pos hk]))
  rw [cp_0] at key
  refine am_wq_T (cut := fun z pc => (Nat.beq z 115 && Nat.beq pc 2)) (inl := fun _ => false) 120 _ _ _ ?_
  exact key
theorem m_copy110_108_l {I0 : Nat → Nat → Int32} : ∀ (j i : Nat), i + j = 1448 → K none (am_mk kt (am_row I0 108 (cpN (I0 108) (I0 110) 1448)) J T n s) → am_T am_C (115, 0, 2, [.ref 110, .ref 108, .int (nI i)], []) (am_mk kt (am_row I0 108 (cpN (I0 108) (I0 110) i)) J T n s) K
  | 0, i, hi, hK => by
    have : i = 1448 := by omega
    subst this
    have c1 : (1448 : Int32) ≤ nI 1448 := by decide
    refine am_wq_T (cut := fun z pc => (Nat.beq z 115 && Nat.beq pc 2)) (inl := fun _ => false) 120 _ _ _ ?_
    exact And.intro (fun _ => hK) (fun q => absurd c1 q)
  | j + 1, i, hi, hK => by
    have c1 : ¬ (1448 : Int32) ≤ nI i := nI_ge (b := 1448) (by omega) (by decide)
    have key := m_copy110_108_l j (i + 1) (by omega) hK
    rw [nI_succ i, ← cp_step I0 108 (I0 110) i (by omega)] at key
    refine am_wq_T (cut := fun z pc => (Nat.beq z 115 && Nat.beq pc 2)) (inl := fun _ => false) 120 _ _ _ ?_
    exact And.intro (fun q => absurd q c1) (fun _ => And.intro ⟨rfl, vp1448 (k := i) (by omega)⟩ (And.intro ⟨rfl, vp1448 (k := i) (by omega)⟩ key))
theorem m_copy110_108 (hK : ∀ I', ch (fun r => r = 108) I I' → (∀ k, k < 1448 → I' 108 k = I 110 k) → K none (am_mk kt I' J T n s)) : am_T am_C (115, 0, 0, [.ref 110, .ref 108, .null], []) (am_mk kt I J T n s) K := by
  have key := m_copy110_108_l (kt := kt) (J := J) (T := T) (n := n) (s := s) (K := K) (I0 := I) 1448 0 (by decide) (hK _ (ch_row rfl) (fun k hk => by
    rw [row_eq]
    unfold cpN
    rw [if_pos hk]))
  rw [cp_0] at key
  refine am_wq_T (cut := fun z pc => (Nat.beq z 115 && Nat.beq pc 2)) (inl := fun _ => false) 120 _ _ _ ?_
  exact key
theorem L_keep : sg_Call (102, 3, 0, [.ref 20], []) (202, 1, 0, [.ref 107], []) := by
  intro L xs kt I J T n s K hS hK
  have h13 := hS.1.2.2.2.1
  obtain ⟨hc, wc, tc, hR, hB⟩ := hS.2.1
  refine am_wq_T (cut := fun _ _ => false) (inl := fun z => !(Nat.beq z 14)) 120 _ _ _ ?_
  refine And.intro rfl (And.intro rfl (And.intro rfl (c_become53_21 hR fun I1 T1 a b c => ?_)))
  have e1 : I1 21 1 = nI hc := by rw [a 21 (by omega)]; exact hR.2.2.2.2.2.2.1
  have hN1 : I1 108 = I 108 := a 108 (by omega)
  have hM : sg_Mid L xs I n s (202, 1, 0, [.ref 107], []) (I1 21 1) kt (am_up I1 20 3 1) J T1 n s := by
    refine ⟨h13, by rw [up_off (by omega)]; exact a 13 (by omega), ?_⟩
    refine am_wq_T (cut := fun _ _ => false) (inl := fun z => !(Nat.beq z 115)) 120 _ _ _ ?_
    refine And.intro rfl (And.intro rfl (m_copy108_109 fun I2 d e => ?_))
    have hN2 : I2 108 = I 108 := by rw [d 108 (by decide), up_off (by decide)]; exact hN1
    have c9 : ∀ k, k < 1448 → am_up I2 107 3 1 109 k = I 108 k := fun k hk => by rw [up_off (by decide), e k hk, up_off (by decide), hN1]
    have o2 : ∀ r, r ≠ 109 → r ≠ 20 → r ≠ 107 → am_up I2 107 3 1 r = I1 r := fun r h1 h2 h3 => by rw [up_off h3, d r h1, up_off h2]
    refine And.intro ⟨rfl, .inr rfl⟩ (And.intro rfl (And.intro ⟨rfl, vp1N⟩ ?_))
    refine End_of (I := am_up I2 107 3 1) ?_ (sim_gen (I := I) (T := T) (fun r k p p1 p2 p3 p4 p5 p6 => ?_) (fun _ _ => rfl) ?_ ⟨?_, ?_, fun _ => ?_⟩ hS)
    · rw [e1]
      show am_up I2 107 3 1 108 1 = _
      rw [up_off (by decide), hN2]; exact hR.2.2.2.1
    · by_cases q : r = 107
      · subst q
        rw [up_ne (fun z => p6 z), d 107 (by decide), up_off (by decide), a 107 (by omega)]
      · rw [up_off q, d r p4, up_ne p5, a r (by omega)]
    · rw [up_off (by decide), hN2]
      exact ⟨hc, wc, tc, LR_cg (fun r k hr => by rw [o2 r (by omega) (by omega) (by omega), a r (by omega)]) (LR_T (fun r k hr => by rw [b r (by omega)]) hR), hB⟩
    · rw [up_off (by decide), d 20 (by decide), up_eq, up_eq]
    · exact .inr (up_eq _ _ _ _)
    · exact ⟨hc, wc, tc, LR_N c9 (LR_cg (fun r k hr => by rw [o2 r (by omega) (by omega) (by omega)]) c), LB_N c9 hR.1 hR.2.1 hB⟩
  exact And.intro ⟨rfl, .inr rfl⟩ (And.intro rfl (And.intro rfl (hK _ _ _ _ _ _ _ hM)))
theorem L_back : sg_Call (103, 3, 0, [.ref 20], []) (203, 1, 0, [.ref 107], []) := by
  intro L xs kt I J T n s K hS hK
  have h13 := hS.1.2.2.2.1
  obtain ⟨k0, k1, k2⟩ := hS.2.2.1
  by_cases q : I 107 3 = 0
  · have c1 : ¬ ¬ I 107 3 = 0 := fun z => z q
    have c2 : ¬ ¬ I 20 3 = 0 := fun z => z (k0.trans q)
    have hM : sg_Mid L xs I n s (203, 1, 0, [.ref 107], []) (-1000000002) kt I J T n s := by
      refine ⟨h13, rfl, ?_⟩
      refine am_wq_T (cut := fun _ _ => false) (inl := fun z => !(Nat.beq z 115)) 120 _ _ _ ?_
      exact And.intro rfl (And.intro (fun z => absurd z c1) (fun _ => End_of rfl hS))
    refine am_wq_T (cut := fun _ _ => false) (inl := fun z => !(Nat.beq z 14)) 120 _ _ _ ?_
    exact And.intro rfl (And.intro (fun z => absurd z c2) (fun _ => hK _ _ _ _ _ _ _ hM))
  · have c2 : ¬ I 20 3 = 0 := fun z => q (k0.symm.trans z)
    have q1 : I 107 3 = 1 := k1.resolve_left q
    obtain ⟨hc, wc, tc, hR, hB⟩ := k2 q1
    refine am_wq_T (cut := fun _ _ => false) (inl := fun z => !(Nat.beq z 14)) 120 _ _ _ ?_
    refine And.intro rfl (And.intro (fun _ => And.intro rfl (And.intro rfl (And.intro rfl ?_))) (fun z => absurd c2 z))
    refine c_become21_53 hR fun I1 T1 a b c => ?_
    have e1 : I1 21 1 = nI hc := c.2.2.2.2.2.2.1
    have hM : sg_Mid L xs I n s (203, 1, 0, [.ref 107], []) (I1 21 1) kt I1 J T1 n s := by
      refine ⟨h13, a 13 (by omega), ?_⟩
      have c3 : ¬ I1 107 3 = 0 := by rw [a 107 (by omega)]; exact q
      refine am_wq_T (cut := fun _ _ => false) (inl := fun z => !(Nat.beq z 115)) 120 _ _ _ ?_
      refine And.intro rfl (And.intro (fun _ => And.intro rfl (And.intro rfl (m_copy109_108 fun I2 d e => ?_))) (fun z => absurd c3 z))
      have c9 : ∀ k, k < 1448 → I2 108 k = I 109 k := fun k hk => by rw [e k hk, a 109 (by omega)]
      refine And.intro rfl (And.intro ⟨rfl, vp1N⟩ ?_)
      refine End_of (I := I2) ?_ (sim_gen (I := I) (T := T) (fun r k p p1 p2 p3 p4 p5 p6 => by rw [d r p2, a r (by omega)]) (fun _ _ => rfl) ?_ ⟨?_, ?_, fun _ => ?_⟩ hS)
      · rw [e1]
        show I2 108 1 = _
        rw [c9 1 (by decide)]; exact hR.2.2.2.1
      · exact ⟨hc, wc, tc, LR_N c9 (LR_cg (fun r k hr => by rw [d r (by omega)]) c), LB_N c9 hR.1 hR.2.1 hB⟩
      · rw [d 20 (by decide), a 20 (by omega), d 107 (by decide), a 107 (by omega)]; exact k0
      · rw [d 107 (by decide), a 107 (by omega)]; exact k1
      · rw [d 109 (by decide), a 109 (by omega)]
        exact ⟨hc, wc, tc, LR_cg (fun r k hr => by rw [d r (by omega), a r (by omega)]) (LR_T (fun r k hr => by rw [b r (by omega)]) hR), hB⟩
    exact And.intro rfl (And.intro rfl (hK _ _ _ _ _ _ _ hM))
end T66
