/-! days, behind -/
section T62
variable {kt : Nat → Nat × Nat} {I I' : Nat → Nat → Int32} {J J' : Nat → Nat → Int64} {T T' : Nat → Nat → Nat} {n s : Nat} {L : Nat} {xs : Nat → Int32} {K : Option Value → am_M → Prop} {N N' : Nat → Int32} {hc wc tc h w : Nat}
theorem PB_tr {b : Nat} {I I' I2 : Nat → Nat → Int32} (h : ch (PB b) I I') (h' : ch (PB b) I' I2) : ch (PB b) I I2 := ch_tr h h' fun r q => q.elim id id
theorem c_days_l (hr : RB N hc wc tc) {x : Int32} {m : Nat} (hm : m < 10000) {I0 : Nat → Nat → Int32} (hK : ∀ I', ch (PB 21) I0 I' → sg_LR kt I' T n 21 (dys tc hc N m) hc wc tc → am_T am_C (78, 5, 50, [.ref 20, .int x, .int (nI m), .int (nI m)], []) (am_mk kt I' J T n s) K) : ∀ (j k : Nat) (I : Nat → Nat → Int32), k + j = m → ch (PB 21) I0 I → sg_LR kt I T n 21 (dys tc hc N k) hc wc tc → am_T am_C (78, 5, 32, [.ref 20, .int x, .int (nI m), .int (nI k)], []) (am_mk kt I J T n s) K
  | 0, k, I, hk, hI, hR => by
    have : k = m := by omega
    subst this
    have c1 : nI k ≤ nI k := nI_le (Nat.le_refl _) (by omega)
    have key := hK I hI hR
    refine am_wq_T (cut := fun z pc => ((Nat.beq z 78 && Nat.beq pc 32) || (Nat.beq z 78 && Nat.beq pc 50))) (inl := fun _ => false) 120 _ _ _ ?_
    exact And.intro (fun _ => key) (fun q => absurd c1 q)
  | j + 1, k, I, hk, hI, hR => by
    have c1 : ¬ nI m ≤ nI k := nI_ge (by omega) (by omega)
    have rb := dys_RB hr k
    refine am_wq_T (cut := fun z pc => ((Nat.beq z 78 && Nat.beq pc 32) || (Nat.beq z 78 && Nat.beq pc 50))) (inl := fun z => !(Nat.beq z 25)) 120 _ _ _ ?_
    refine And.intro (fun q => absurd q c1) (fun _ => And.intro rfl (And.intro rfl ?_))
    refine c_day21 (N := dys tc hc N k) hR rb.2.1 fun I2 a b => ?_
    have key := c_days_l hr hm hK j (k + 1) I2 (by omega) (PB_tr hI a) b
    rw [nI_succ] at key
    exact key
theorem L_days (x : Int32) : sg_Call (78, 5, 0, [.ref 20, .int x, .null, .null], []) (159, 5, 0, [.ref 107, .int x], []) := by
  intro L xs kt I J T n s K hS hK
  have h13 := hS.1.2.2.2.1
  obtain ⟨hc, wc, tc, hR, hB⟩ := hS.2.1
  have hr := RB_of hR hB
  have h10 := hR.1
  rcases rng x 1 100 with ⟨a0, a1⟩ | a0 | ⟨a0, a1⟩
  · obtain ⟨m, hm, rfl⟩ := in_of (x := x) (m := 100) (by decide) (by clear hK hS hR hB hr; (simp only [Int32.lt_iff_toInt_lt, Int32.le_iff_toInt_le, gt_iff_lt, ge_iff_le, ← Int32.toInt_inj, Int32.reduceToInt, Int32.reduceMul, Int32.reduceAdd, Int32.reduceSub, ne_eq, true_and, and_true, false_and, and_false, not_true_eq_false, not_false_eq_true, true_or, or_true, false_or, or_false] at *; omega)) a1
    have m1 : 1 ≤ m := by
      rcases Nat.lt_or_ge m 1 with q | q
      · exact absurd (nI_lt q (by decide)) a0
      · exact q
    have a1' : nI m ≤ 100 := nI_le (b := 100) hm (by decide)
    obtain ⟨dd, hdd, e2⟩ := in_nI (m := 9999) hB.2.2.2.2 (by decide)
    have e10 : I 21 10 = nI dd := by rw [← e2]; exact hR.2.2.2.2.2.2.2.2.2.2.2.2.2.1
    have esub : (9999 : Int32) - nI dd = nI (9999 - dd) := nI_subI (a := 9999) hdd
    obtain ⟨st, hst⟩ : ∃ st, st = if 9999 - dd < m then 9999 - dd else m := ⟨_, rfl⟩
    have st_le : st ≤ m ∧ dd + st ≤ 9999 := by rw [hst]; split <;> omega
    have emin : (if (9999 : Int32) - I 21 10 < nI m then 9999 - I 21 10 else nI m) = nI st := by
      rw [e10, esub, hst]
      have il : nI (9999 - dd) < nI m ↔ 9999 - dd < m := nI_ltI (by omega) (by omega)
      by_cases q : 9999 - dd < m
      · rw [if_pos q, if_pos (il.mpr q)]
      · rw [if_neg q, if_neg fun z => q (il.mp z)]
    have ewth : wth (nI (9999 - dd)) 0 (nI m) = nI st := by
      unfold wth
      rw [if_neg (nI_pos (by omega)), hst]
      have il : nI m < nI (9999 - dd) ↔ m < 9999 - dd := nI_ltI (by omega) (by omega)
      by_cases q : m < 9999 - dd
      · rw [if_pos (il.mpr q), if_neg (by omega)]
      · rw [if_neg fun z => q (il.mp z)]
        by_cases q2 : 9999 - dd < m
        · rw [if_pos q2]
        · rw [if_neg q2, show 9999 - dd = m by omega]
    have loop := c_days_l (kt := kt) (J := J) (T := T) (n := n) (s := s) (K := K) (N := I 108) (x := nI m) (m := st) hr (by omega) (I0 := I) (fun I1 a b => by
      have hM : sg_Mid L xs I n s (159, 5, 0, [.ref 107, .int (nI m)], []) (nI (cz (dys tc hc (I 108) st) hc)) kt I1 J T n s := by
        refine ⟨h13, a 13 (by unfold PB CT; omega), ?_⟩
        have hN1 : I1 108 = I 108 := a 108 (by unfold PB CT; omega)
        have vp2 : vp_in 2 1448 := vpl (k := 2) (by decide) (by decide)
        have rs := dys_RB hr st
        refine am_wq_T (cut := fun _ _ => false) (inl := fun z => !((Nat.beq z 113 || (Nat.beq z 114 || (Nat.beq z 158 || Nat.beq z 155))))) 120 _ _ _ ?_
        refine m_in_y a0 a1 (And.intro (fun _ => And.intro rfl (And.intro ⟨rfl, vp2⟩ ?_)) (fun q => absurd m1z q))
        show am_T am_C (114, 0, 0, [.int (9999 - I1 108 2), .int 0, .int (nI m)], []) (am_mk kt I1 J T n s) _
        rw [hN1, e2, esub]
        refine m_withinV ewth (And.intro rfl ?_)
        refine m_goesOn (N := I 108) hr (by omega) hN1 fun I2 c d => ?_
        refine And.intro rfl (m_filledV (N := dys tc hc (I 108) st) d rs.1 rfl ?_)
        refine End_of rfl (sim_land (I := I) (J := J) (fun r k p q t => ?_) (fun _ _ => rfl) ?_ hS)
        · rw [c r (by unfold PD PF; unfold rv at p; omega), a r (by unfold PB CT; unfold rv at p; omega)]
        · rw [d]
          refine ⟨hc, wc, tc, LR_cg (fun r k hr => by rw [c r (by unfold PD PF; omega)]) b, rs.2.1, rs.2.2.1, ?_, ?_, ?_⟩
          · rw [dys_76 h10 (by omega)]; exact hB.2.2.1
          · rw [dys_76 h10 (by omega)]; exact hB.2.2.2.1
          · rw [dys_2 h10, e2, nI_add]; exact sgin_nI (m := 9999) st_le.2 (by decide)
      have key := hK _ _ _ _ _ _ _ hM
      refine am_wq_T (cut := fun _ _ => false) (inl := fun z => !(Nat.beq z 26)) 120 _ _ _ ?_
      exact And.intro rfl (And.intro rfl (c_filled21 b key))) st 0 I (by omega) ch_rfl hR
    rw [← emin] at loop
    refine am_wq_T (cut := fun z pc => (Nat.beq z 78 && Nat.beq pc 32)) (inl := fun _ => false) 120 _ _ _ ?_
    exact And.intro (fun q => absurd q a0) (fun _ => And.intro (fun _ => And.intro rfl (And.intro rfl (by
      show am_T am_C (78, 5, 32, [.ref 20, .int (nI m), .int (if (9999 : Int32) - I 21 10 < nI m then 9999 - I 21 10 else nI m), .int 0], []) (am_mk kt I J T n s) K
      rw [emin]; rw [emin] at loop; exact loop))) (fun q => absurd a1' q))
  · have hM : sg_Mid L xs I n s (159, 5, 0, [.ref 107, .int x], []) (-1000000001) kt I J T n s := by
      refine ⟨h13, rfl, ?_⟩
      refine am_wq_T (cut := fun _ _ => false) (inl := fun z => !((Nat.beq z 113 || (Nat.beq z 114 || (Nat.beq z 158 || Nat.beq z 155))))) 120 _ _ _ ?_
      exact m_in_n0 a0 (And.intro (fun q => absurd rfl q) (fun _ => End_of rfl hS))
    refine am_wq_T (cut := fun _ _ => false) (inl := fun _ => true) 120 _ _ _ ?_
    exact And.intro (fun _ => hK _ _ _ _ _ _ _ hM) (fun q => absurd a0 q)
  · have a1' : ¬ x ≤ 100 := Int32.not_le.mpr a1
    have hM : sg_Mid L xs I n s (159, 5, 0, [.ref 107, .int x], []) (-1000000001) kt I J T n s := by
      refine ⟨h13, rfl, ?_⟩
      refine am_wq_T (cut := fun _ _ => false) (inl := fun z => !((Nat.beq z 113 || (Nat.beq z 114 || (Nat.beq z 158 || Nat.beq z 155))))) 120 _ _ _ ?_
      exact m_in_n1 a0 a1 (And.intro (fun q => absurd rfl q) (fun _ => End_of rfl hS))
    refine am_wq_T (cut := fun z pc => ((Nat.beq z 78 && Nat.beq pc 11) || (Nat.beq z 78 && Nat.beq pc 14))) (inl := fun _ => false) 120 _ _ _ ?_
    refine And.intro (fun q => absurd q a0) (fun _ => And.intro (fun q => absurd q a1') (fun _ => ?_))
    refine am_wq_T (cut := fun _ _ => false) (inl := fun _ => true) 120 _ _ _ ?_
    exact hK _ _ _ _ _ _ _ hM
theorem in3 {v : Int32} (b0 : ¬ v < 0) (b1 : ¬ 2 < v) : v = 0 ∨ v = 1 ∨ v = 2 := by (simp only [Int32.lt_iff_toInt_lt, Int32.le_iff_toInt_le, gt_iff_lt, ge_iff_le, ← Int32.toInt_inj, Int32.reduceToInt, Int32.reduceMul, Int32.reduceAdd, Int32.reduceSub, ne_eq, true_and, and_true, false_and, and_false, not_true_eq_false, not_false_eq_true, true_or, or_true, false_or, or_false] at *; omega)
theorem c_behind_l (hr : RB N hc wc tc) {y : Int32} {m : Nat} (hm : m < 1000) {I0 : Nat → Nat → Int32} (hK : ∀ I', ch (PB 37) I0 I' → sg_LR kt I' T n 37 (dys tc hc N m) hc wc tc → am_T am_C (79, 6, 51, [.ref 20, .int (nI m), .int y, .int (nI m)], []) (am_mk kt I' J T n s) K) : ∀ (j k : Nat) (I : Nat → Nat → Int32), k + j = m → ch (PB 37) I0 I → sg_LR kt I T n 37 (dys tc hc N k) hc wc tc → am_T am_C (79, 6, 33, [.ref 20, .int (nI m), .int y, .int (nI k)], []) (am_mk kt I J T n s) K
  | 0, k, I, hk, hI, hR => by
    have : k = m := by omega
    subst this
    have c1 : nI k ≤ nI k := nI_le (Nat.le_refl _) (by omega)
    have key := hK I hI hR
    refine am_wq_T (cut := fun z pc => ((Nat.beq z 79 && Nat.beq pc 33) || (Nat.beq z 79 && Nat.beq pc 51))) (inl := fun _ => false) 120 _ _ _ ?_
    exact And.intro (fun _ => key) (fun q => absurd c1 q)
  | j + 1, k, I, hk, hI, hR => by
    have c1 : ¬ nI m ≤ nI k := nI_ge (by omega) (by omega)
    have rb := dys_RB hr k
    refine am_wq_T (cut := fun z pc => ((Nat.beq z 79 && Nat.beq pc 33) || (Nat.beq z 79 && Nat.beq pc 51))) (inl := fun z => !(Nat.beq z 25)) 120 _ _ _ ?_
    refine And.intro (fun q => absurd q c1) (fun _ => And.intro rfl (And.intro rfl ?_))
    refine c_day37 (N := dys tc hc N k) hR rb.2.1 fun I2 a b => ?_
    have key := c_behind_l hr hm hK j (k + 1) I2 (by omega) (PB_tr hI a) b
    rw [nI_succ] at key
    exact key
/-- the reference: aside, so many days, an answer, and back -/
theorem m_aside (hr : RB N hc wc tc) (hN : I 108 = N) (hK : ∀ I', ch NR I I' → I' 108 = N → (∀ k, k < 76 → I' 115 k = N k) → K none (am_mk kt I' J T n s)) : am_T am_C (160, 0, 0, [.ref 107, .null], []) (am_mk kt I J T n s) K := by
  refine m_thinks (hK _ (ch_row (by unfold NR; omega)) (by rw [row_off (by decide)]; exact hN) fun k hk => ?_)
  rw [row_eq]
  unfold cpN
  rw [if_pos hk, hN]
theorem PD_ne {r : Nat} (h : PD r) : r = 108 ∨ NR r := h.elim .inl fun q => .inr (PF_NR q)
theorem L_behind (x y : Int32) : sg_Call (79, 6, 0, [.ref 20, .int x, .int y, .null], []) (162, 26, 0, [.ref 107, .int x, .int y, .null], []) := by
  intro L xs kt I J T n s K hS hK
  have h13 := hS.1.2.2.2.1
  obtain ⟨hc, wc, tc, hR, hB⟩ := hS.2.1
  have hr := RB_of hR hB
  have h15 := J15_of hS
  have h10 := hR.1
  have hw6 := hR.2.1
  rcases rng x 0 100 with ⟨a0, a1⟩ | a0 | ⟨a0, a1⟩
  · rcases rng y 0 2 with ⟨b0, b1⟩ | b0 | ⟨b0, b1⟩
    · obtain ⟨m, hm, rfl⟩ := in_of (x := x) (m := 100) (by decide) a0 a1
      have rs := dys_RB hr m
      -- the reference behind any change that does not matter
      have ref : ∀ I1 J1 T1 v, ch NR I I1 → chJ PJ J J1 → chT (fun r => r = 41) T T1 → (∀ I2, ch (fun r => r = 108 ∨ NR r) I1 I2 → I2 108 = dys tc hc (I 108) m → (∀ k, k < 76 → I2 115 k = I 108 k) → am_T am_C (162, 26, 31, [.ref 107, .int (nI m), .int y, .null], []) (am_mk kt I2 J1 T1 n s) (sg_End L xs n s v)) → sg_Mid L xs I n s (162, 26, 0, [.ref 107, .int (nI m), .int y, .null], []) v kt I1 J1 T1 n s := fun I1 J1 T1 v d e f hv => by
        refine ⟨h13, d 13 (by unfold NR CT; omega), ?_⟩
        have hN1 : I1 108 = I 108 := d 108 (by unfold NR CT; omega)
        refine am_wq_T (cut := fun z pc => (Nat.beq z 162 && Nat.beq pc 31)) (inl := fun z => !((Nat.beq z 113 || (Nat.beq z 160 || Nat.beq z 158)))) 120 _ _ _ ?_
        refine m_in_y a0 a1 (And.intro (fun q => absurd q m1z) (fun _ => m_in_y b0 b1 (And.intro (fun _ => And.intro rfl ?_) (fun q => absurd m1z q))))
        refine m_aside (N := I 108) hr hN1 fun I2 g1 g2 g3 => ?_
        refine And.intro rfl (m_goesOn (N := I 108) hr (by omega) g2 fun I3 k1 k2 => ?_)
        exact hv I3 (ch_tr g1 k1 fun r q => q.elim .inr PD_ne) k2 fun k hk => by rw [k1 115 (by unfold PD PF; omega)]; exact g3 k hk
      have back : ∀ I1 J1 T1 I2 v, ch NR I I1 → chJ PJ J J1 → chT (fun r => r = 41) T T1 → ch (fun r => r = 108 ∨ NR r) I1 I2 → (∀ k, 76 ≤ k → I2 108 k = I 108 k) → (∀ k, k < 76 → I2 115 k = I 108 k) → am_T am_C (162, 26, 59, [.ref 107, .int (nI m), .int y, .null], [.int v]) (am_mk kt I2 J1 T1 n s) (sg_End L xs n s v) := fun I1 J1 T1 I2 v d e f g h76 h115 => by
        refine am_wq_T (cut := fun _ _ => false) (inl := fun z => !(Nat.beq z 161)) 120 _ _ _ ?_
        refine And.intro rfl (m_putsBack (N := I 108) h76 h115 fun I3 k1 k2 => ?_)
        refine End_of rfl (sim_T (T := T) (fun r k hr => by rw [f r hr]) (sim_eq (I := I) (J := J) (fun r k p => ?_) (fun r hr => e r (by unfold PJ; omega)) hS))
        by_cases q : r = 108
        · subst q; rw [k2]
        · rw [k1 r q, g r (fun z => z.elim q (rv_NR p)), d r (rv_NR p)]
      have loop := fun I1 T1 (a : ch (fun r => 37 ≤ r ∧ r < 37 + 16) I I1) (b : chT (fun r => r = 37 + 4) T T1) (c : sg_LR kt I1 T1 n 37 (I 108) hc wc tc) => c_behind_l (kt := kt) (J := J) (T := T1) (n := n) (s := s) (K := K) (N := I 108) (y := y) (m := m) hr (by omega) (I0 := I1) (fun I2 d e => by
        have dn : ch NR I I2 := ch_tr a d fun r q => q.elim (fun q => by unfold NR; omega) fun q => q.elim (fun q => by unfold NR; omega) CT_NR
        rcases in3 b0 b1 with rfl | rfl | rfl
        · refine am_wq_T (cut := fun _ _ => false) (inl := fun z => !((Nat.beq z 1 || (Nat.beq z 27 || Nat.beq z 26)))) 120 _ _ _ ?_
          refine And.intro (fun q => absurd rfl q) (fun _ => And.intro rfl (And.intro rfl (And.intro rfl ?_)))
          refine c_solve37 (N := dys tc hc (I 108) m) e rs.2.1 rs.2.2.1 h15 (fun I3 J3 p m1 c3 _ j3 _ _ x3 b3 => ?_)
          have d3 : ch NR I I3 := ch_nr dn (ch_w c3 fun r q => PS_NR q)
          refine hK _ kt I3 J3 T1 n s (ref I3 J3 T1 _ d3 j3 b fun I4 k1 k2 k3 => ?_)
          refine am_wq_T (cut := fun z pc => (Nat.beq z 162 && Nat.beq pc 59)) (inl := fun z => !(Nat.beq z 149)) 120 _ _ _ ?_
          refine And.intro (fun q => absurd rfl q) (fun _ => And.intro rfl ?_)
          refine m_met (N := dys tc hc (I 108) m) k2 rs.1 rs.2.1 (fun I5 m5 c5 x5 b5 => ?_)
          have e1 : m5 = m1 := by have := IsMax_u x5 (tkS_N hw6 x3); omega
          subst e1
          exact back I3 J3 T1 I5 _ d3 j3 b (ch_tr k1 (ch_w c5 fun r q => PM_NR q) fun r q => q.elim id .inr) (fun k hk => by rw [c5 108 (by unfold PM PF; omega), k2]; exact dys_76 h10 (by omega) m) (fun k hk => by rw [c5 115 (by unfold PM PF; omega)]; exact k3 k hk)
        · have hM : sg_Mid L xs I n s (162, 26, 0, [.ref 107, .int (nI m), .int 1, .null], []) (dz (dys tc hc (I 108) m) hc) kt I2 J T1 n s := ref I2 J T1 _ dn chJ_rfl b fun I4 k1 k2 k3 => by
            refine am_wq_T (cut := fun z pc => (Nat.beq z 162 && Nat.beq pc 59)) (inl := fun z => !(Nat.beq z 156)) 120 _ _ _ ?_
            refine And.intro (fun _ => And.intro (fun q => absurd rfl q) (fun _ => And.intro rfl ?_)) (fun q => absurd m1z q)
            exact m_depthV (N := dys tc hc (I 108) m) k2 rs.1 rfl (back I2 J T1 I4 _ dn chJ_rfl b k1 (fun k hk => by rw [k2]; exact dys_76 h10 (by omega) m) k3)
          have key := hK _ _ _ _ _ _ _ hM
          refine am_wq_T (cut := fun _ _ => false) (inl := fun z => !((Nat.beq z 1 || (Nat.beq z 27 || Nat.beq z 26)))) 120 _ _ _ ?_
          exact And.intro (fun _ => And.intro (fun q => absurd rfl q) (fun _ => And.intro rfl (And.intro rfl (c_depth37 e key)))) (fun q => absurd m1z q)
        · have hM : sg_Mid L xs I n s (162, 26, 0, [.ref 107, .int (nI m), .int 2, .null], []) (nI (cz (dys tc hc (I 108) m) hc)) kt I2 J T1 n s := ref I2 J T1 _ dn chJ_rfl b fun I4 k1 k2 k3 => by
            refine am_wq_T (cut := fun z pc => (Nat.beq z 162 && Nat.beq pc 59)) (inl := fun z => !(Nat.beq z 155)) 120 _ _ _ ?_
            refine And.intro (fun _ => And.intro (fun _ => And.intro rfl ?_) (fun q => absurd (by decide : ¬ (2 : Int32) = 1) q)) (fun q => absurd (by decide : ¬ (2 : Int32) = 0) q)
            exact m_filledV (N := dys tc hc (I 108) m) k2 rs.1 rfl (back I2 J T1 I4 _ dn chJ_rfl b k1 (fun k hk => by rw [k2]; exact dys_76 h10 (by omega) m) k3)
          have key := hK _ _ _ _ _ _ _ hM
          refine am_wq_T (cut := fun _ _ => false) (inl := fun z => !((Nat.beq z 1 || (Nat.beq z 27 || Nat.beq z 26)))) 120 _ _ _ ?_
          exact And.intro (fun _ => And.intro (fun _ => And.intro rfl (And.intro rfl (c_filled37 e key))) (fun q => absurd (by decide : ¬ (2 : Int32) = 1) q)) (fun q => absurd (by decide : ¬ (2 : Int32) = 0) q)) m 0 I1 (by omega) ch_rfl c
      refine am_wq_T (cut := fun z pc => (Nat.beq z 79 && Nat.beq pc 33)) (inl := fun z => !((Nat.beq z 105 || Nat.beq z 14))) 120 _ _ _ ?_
      refine c_within_y a0 a1 (And.intro (fun q => absurd q m1z) (fun _ => c_within_y b0 b1 (And.intro (fun _ => And.intro rfl (And.intro rfl (And.intro rfl ?_))) (fun q => absurd m1z q))))
      refine c_become37_21 hR fun I1 T1 a b c => ?_
      exact loop I1 T1 a b c
    all_goals
      have hM : sg_Mid L xs I n s (162, 26, 0, [.ref 107, .int x, .int y, .null], []) (-1000000001) kt I J T n s := by
        refine ⟨h13, rfl, ?_⟩
        refine am_wq_T (cut := fun _ _ => false) (inl := fun z => !((Nat.beq z 113 || (Nat.beq z 160 || Nat.beq z 158)))) 120 _ _ _ ?_
        refine m_in_y a0 a1 (And.intro (fun q => absurd q m1z) (fun _ => ?_))
        first | exact m_in_n0 b0 (And.intro (fun q => absurd rfl q) (fun _ => End_of rfl hS)) | exact m_in_n1 b0 b1 (And.intro (fun q => absurd rfl q) (fun _ => End_of rfl hS))
      refine am_wq_T (cut := fun _ _ => false) (inl := fun z => !((Nat.beq z 105 || Nat.beq z 14))) 120 _ _ _ ?_
      refine c_within_y a0 a1 (And.intro (fun q => absurd q m1z) (fun _ => ?_))
      first | exact c_within_n0 b0 (And.intro (fun q => absurd rfl q) (fun _ => hK _ _ _ _ _ _ _ hM)) | exact c_within_n1 b0 b1 (And.intro (fun q => absurd rfl q) (fun _ => hK _ _ _ _ _ _ _ hM))
  all_goals
    have hM : sg_Mid L xs I n s (162, 26, 0, [.ref 107, .int x, .int y, .null], []) (-1000000001) kt I J T n s := by
      refine ⟨h13, rfl, ?_⟩
      refine am_wq_T (cut := fun _ _ => false) (inl := fun z => !((Nat.beq z 113 || (Nat.beq z 160 || Nat.beq z 158)))) 120 _ _ _ ?_
      first | exact m_in_n0 a0 (And.intro (fun _ => End_of rfl hS) (fun q => absurd rfl q)) | exact m_in_n1 a0 a1 (And.intro (fun _ => End_of rfl hS) (fun q => absurd rfl q))
    refine am_wq_T (cut := fun _ _ => false) (inl := fun z => !((Nat.beq z 105 || Nat.beq z 14))) 120 _ _ _ ?_
    first | exact c_within_n0 a0 (And.intro (fun _ => hK _ _ _ _ _ _ _ hM) (fun q => absurd rfl q)) | exact c_within_n1 a0 a1 (And.intro (fun _ => hK _ _ _ _ _ _ _ hM) (fun q => absurd rfl q))
end T62
