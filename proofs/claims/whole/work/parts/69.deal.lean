/-! deal -/
section T69
variable {kt : Nat → Nat × Nat} {I I' : Nat → Nat → Int32} {J J' : Nat → Nat → Int64} {T T' : Nat → Nat → Nat} {n s : Nat} {L : Nat} {xs : Nat → Int32} {K : Option Value → am_M → Prop} {N N' : Nat → Int32} {hc wc tc h w : Nat}
def dm (z m : Int32) : Int32 := drw z - drw z / m * m
theorem dm_b (z : Int32) {m : Nat} (h0 : 0 < m) (h1 : m < 1000) : ∃ j : Nat, j < m ∧ dm z (nI m) = nI j := drw_mod z h0 h1
theorem upN_upN (N : Nat → Int32) (j : Nat) (a b : Int32) : upN (upN N j a) j b = upN N j b := by
  funext k
  by_cases e : k = j
  · subst e; rw [upN_eq, upN_eq]
  · rw [upN_ne e, upN_ne e, upN_ne e]
theorem up_up (I : Nat → Nat → Int32) (r j : Nat) (a b : Int32) : am_up (am_up I r j a) r j b = am_up I r j b := by
  funext x k
  by_cases e : x = r ∧ k = j
  · obtain ⟨rfl, rfl⟩ := e; rw [up_eq, up_eq]
  · rw [up_ne e, up_ne e, up_ne e]
def zz (z : Int32) : Int32 := nxz (nxz (nxz (nxz z)))
/-- a hole that is drawn -/
def stp (N : Nat → Int32) (h : Nat) : Nat → Int32 := upN (layN (upN N 0 (zz (N 0))) h (dm (nxz (N 0)) 6) (dm (nxz (nxz (N 0))) 30) (1 + dm (nxz (nxz (nxz (N 0)))) 60) (dm (zz (N 0)) 8)) 1 (nI (h + 1))
theorem l6 : ¬ (6 : Int32) = 0 := by decide
theorem l8 : ¬ (8 : Int32) = 0 := by decide
theorem l30 : ¬ (30 : Int32) = 0 := by decide
theorem l60 : ¬ (60 : Int32) = 0 := by decide
theorem stp_LB (h10 : h < 10) (hw6 : wc ≤ 6) (hB : sg_LB N h wc) : sg_LB (stp N h) (h + 1) wc := by
  obtain ⟨a, ha, ea⟩ := dm_b (nxz (N 0)) (m := 6) (by decide) (by decide)
  obtain ⟨b, hb, eb⟩ := dm_b (nxz (nxz (N 0))) (m := 30) (by decide) (by decide)
  obtain ⟨c, hc, ec⟩ := dm_b (nxz (nxz (nxz (N 0)))) (m := 60) (by decide) (by decide)
  obtain ⟨d, hd, ed⟩ := dm_b (zz (N 0)) (m := 8) (by decide) (by decide)
  refine open_LB (by omega) hw6 ?_ ?_ ?_ ?_ (LB_more 0 (by omega) hB)
  · rw [show (6 : Int32) = nI 6 from rfl, ea]; exact sgin_nI (m := 5) (by omega) (by decide)
  · rw [show (30 : Int32) = nI 30 from rfl, eb]; exact sgin_nI (m := 29) (by omega) (by decide)
  · rw [show (60 : Int32) = nI 60 from rfl, ec, show (1 : Int32) = nI 1 from rfl, nI_add]; exact sgin_nI (m := 99) (by omega) (by decide)
  · rw [show (8 : Int32) = nI 8 from rfl, ed]; exact sgin_nI (m := 7) (by omega) (by decide)
theorem c_byLot (hR : sg_LR kt I T n 21 N hc wc tc) (hh : hc < 10) (hK : ∀ I', ch (fun r => 21 ≤ r ∧ r < 37) I I' → sg_LR kt I' T n 21 (stp N hc) (hc + 1) wc tc → K none (am_mk kt I' J T n s)) : am_T am_C (17, 2, 0, [.ref 21, .null, .null, .null, .null], []) (am_mk kt I J T n s) K := by
  have h0 : I 21 13 = N 0 := hR.2.2.2.2.2.2.2.2.2.2.2.2.2.2.2.2.1
  have q := LR_up (v := zz (N 0)) (r := 21) (k := 13) (j := 0) (by decide) (by unfold cellR; omega) hR
  have lr := open_LR (a := dm (nxz (N 0)) 6) (b := dm (nxz (nxz (N 0))) 30) (c := 1 + dm (nxz (nxz (nxz (N 0)))) 60) (d := dm (zz (N 0)) 8) hh q
  have key := hK _ (ch_tr (ch_tr (S := fun r => 21 ≤ r ∧ r < 37) (ch_up (P := fun r => 21 ≤ r ∧ r < 37) (a := 21) (k := 13) (v := zz (N 0)) (by omega)) (fun r (hr : ¬ (21 ≤ r ∧ r < 37)) => cl5_off (x := 27 + hc) (a := dm (nxz (N 0)) 6) (b := dm (nxz (nxz (N 0))) 30) (c := 1 + dm (nxz (nxz (nxz (N 0)))) 60) (d := dm (zz (N 0)) 8) (show r ≠ 27 + hc by omega)) fun r q => q.elim id id) (ch_up (P := fun r => 21 ≤ r ∧ r < 37) (a := 21) (k := 1) (v := nI (hc + 1)) (by omega)) fun r q => q.elim id id) lr
  refine am_wq_T (cut := fun _ _ => false) (inl := fun z => !((Nat.beq z 18 || Nat.beq z 16))) 120 _ _ _ ?_
  refine And.intro rfl (c_drawV21 h0 rfl rfl (And.intro l6 (And.intro rfl ?_)))
  refine c_drawV21 (z0 := nxz (N 0)) (up_eq _ _ _ _) rfl rfl ?_
  rw [up_up]
  refine And.intro l30 (And.intro rfl ?_)
  refine c_drawV21 (z0 := nxz (nxz (N 0))) (up_eq _ _ _ _) rfl rfl ?_
  rw [up_up]
  refine And.intro l60 (And.intro rfl ?_)
  refine c_drawV21 (z0 := nxz (nxz (nxz (N 0)))) (up_eq _ _ _ _) rfl rfl ?_
  rw [up_up]
  refine And.intro l8 (And.intro rfl ?_)
  refine c_open (hc := hc) (a := dm (nxz (N 0)) 6) (b := dm (nxz (nxz (N 0))) 30) (c := 1 + dm (nxz (nxz (nxz (N 0)))) 60) (d := dm (zz (N 0)) 8) ?_ hh ?_
  · rw [up_ne (by omega)]; exact hR.2.2.2.2.2.2.1
  · exact key
/-- so many holes drawn -/
def stps (N : Nat → Int32) (hc : Nat) : Nat → Nat → Int32
  | 0 => N
  | i + 1 => stp (stps N hc i) (hc + i)
theorem stps_LB (hw6 : wc ≤ 6) (hB : sg_LB N hc wc) : ∀ i, hc + i ≤ 10 → sg_LB (stps N hc i) (hc + i) wc
  | 0, _ => hB
  | i + 1, h => stp_LB (by omega) hw6 (stps_LB hw6 hB i (by omega))
theorem c_deal_l {x : Int32} {st : Nat} (h10 : hc + st ≤ 10) {I0 : Nat → Nat → Int32} (hK : ∀ I', ch (fun r => 21 ≤ r ∧ r < 37) I0 I' → sg_LR kt I' T n 21 (stps N hc st) (hc + st) wc tc → K (some (.int (nI st))) (am_mk kt I' J T n s)) : ∀ (j k : Nat) (I : Nat → Nat → Int32), k + j = st → ch (fun r => 21 ≤ r ∧ r < 37) I0 I → sg_LR kt I T n 21 (stps N hc k) (hc + k) wc tc → am_T am_C (69, 3, 31, [.ref 20, .int x, .int (nI st), .int (nI k)], []) (am_mk kt I J T n s) K
  | 0, k, I, hk, hI, hR => by
    have : k = st := by omega
    subst this
    have c1 : nI k ≤ nI k := nI_le (Nat.le_refl _) (by omega)
    refine am_wq_T (cut := fun z pc => (Nat.beq z 69 && Nat.beq pc 31)) (inl := fun _ => false) 120 _ _ _ ?_
    exact And.intro (fun _ => hK I hI hR) (fun q => absurd c1 q)
  | j + 1, k, I, hk, hI, hR => by
    have c1 : ¬ nI st ≤ nI k := nI_ge (by omega) (by omega)
    refine am_wq_T (cut := fun z pc => (Nat.beq z 69 && Nat.beq pc 31)) (inl := fun z => !(Nat.beq z 17)) 120 _ _ _ ?_
    refine And.intro (fun q => absurd q c1) (fun _ => And.intro rfl (And.intro rfl (c_byLot hR (by omega) fun I2 a b => ?_)))
    have key := c_deal_l (x := x) h10 hK j (k + 1) I2 (by omega) (ch_tr hI a fun r q => q.elim id id) b
    rw [nI_succ] at key
    exact key
theorem m_deal_l {m st : Nat} (hm : m ≤ 10) (h10 : hc + st ≤ 10) (hst : st = m ∨ hc + st = 10) (hsm : st ≤ m) (hN1 : N 1 = nI hc) {I0 : Nat → Nat → Int32} (hK : ∀ I', ch (fun r => r = 108) I0 I' → I' 108 = stps N hc st → K (some (.int (nI st))) (am_mk kt I' J T n s)) : ∀ (j k : Nat) (I : Nat → Nat → Int32) (v3 v4 v5 v6 : Value), k + j = st → ch (fun r => r = 108) I0 I → I 108 = stps N hc k → am_T am_C (137, 3, 15, [.ref 107, .int (nI m), .int (nI k), v3, v4, v5, v6], []) (am_mk kt I J T n s) K
  | 0, k, I, v3, v4, v5, v6, hk, hI, hN => by
    have : k = st := by omega
    subst this
    have s1 : stps N hc k 1 = nI (hc + k) := by
      cases k with
      | zero => exact hN1
      | succ k => show stp (stps N hc k) (hc + k) 1 = nI (hc + k + 1); unfold stp; exact upN_eq _ _ _
    by_cases e : k = m
    · have c1 : nI m ≤ nI k := nI_le (by omega) (by omega)
      refine am_wq_T (cut := fun z pc => (Nat.beq z 137 && Nat.beq pc 15)) (inl := fun _ => false) 120 _ _ _ ?_
      exact And.intro (fun _ => hK I hI hN) (fun q => absurd c1 q)
    · have c1 : ¬ nI m ≤ nI k := nI_ge (by omega) (by omega)
      have c2 : 10 ≤ I 108 1 := by rw [hN, s1]; exact nI_le (a := 10) (by omega) (by omega)
      refine am_wq_T (cut := fun z pc => (Nat.beq z 137 && Nat.beq pc 15)) (inl := fun _ => false) 120 _ _ _ ?_
      exact And.intro (fun q => absurd q c1) (fun _ => And.intro rfl (And.intro ⟨rfl, vp1N⟩ (And.intro (fun _ => hK I hI hN) (fun q => absurd c2 q))))
  | j + 1, k, I, v3, v4, v5, v6, hk, hI, hN => by
    have s1 : stps N hc k 1 = nI (hc + k) := by
      cases k with
      | zero => exact hN1
      | succ k => show stp (stps N hc k) (hc + k) 1 = nI (hc + k + 1); unfold stp; exact upN_eq _ _ _
    have c1 : ¬ nI m ≤ nI k := nI_ge (by omega) (by omega)
    have c2 : ¬ 10 ≤ I 108 1 := by rw [hN, s1]; exact nI_ge (b := 10) (by omega) (by decide)
    have z0 : I 108 0 = stps N hc k 0 := by rw [hN]
    refine am_wq_T (cut := fun z pc => (Nat.beq z 137 && Nat.beq pc 15)) (inl := fun z => !((Nat.beq z 136 || Nat.beq z 125))) 120 _ _ _ ?_
    refine And.intro (fun q => absurd q c1) (fun _ => And.intro rfl (And.intro ⟨rfl, vp1N⟩ (And.intro (fun q => absurd q c2) (fun _ => And.intro rfl (m_drawV z0 rfl rfl (And.intro l6 (And.intro rfl ?_)))))))
    refine m_drawV (z0 := nxz (stps N hc k 0)) (up_eq _ _ _ _) rfl rfl ?_
    rw [up_up]
    refine And.intro l30 (And.intro rfl ?_)
    refine m_drawV (z0 := nxz (nxz (stps N hc k 0))) (up_eq _ _ _ _) rfl rfl ?_
    rw [up_up]
    refine And.intro l60 (And.intro rfl ?_)
    refine m_drawV (z0 := nxz (nxz (nxz (stps N hc k 0)))) (up_eq _ _ _ _) rfl rfl ?_
    rw [up_up]
    refine And.intro l8 (And.intro rfl ?_)
    refine m_comes (h := hc + k) (a := dm (nxz (stps N hc k 0)) 6) (b := dm (nxz (nxz (stps N hc k 0))) 30) (c := 1 + dm (nxz (nxz (nxz (stps N hc k 0)))) 60) (d := dm (zz (stps N hc k 0)) 8) (by rw [up_ne (by omega), hN]; exact s1) (by omega) ?_
    have key := fun I2 a b v3 v4 v5 v6 => m_deal_l hm h10 hst hsm hN1 hK j (k + 1) I2 v3 v4 v5 v6 (by omega) (ch_tr hI a fun r q => q.elim id id) b
    rw [nI_succ] at key
    refine key _ ?_ ?_ _ _ _ _
    · exact ch_tr (ch_tr (S := fun r => r = 108) (ch_up (P := fun r => r = 108) rfl) layI_ch fun r q => q.elim id id) (ch_up (P := fun r => r = 108) rfl) fun r q => q.elim id id
    · rw [up_row, layI_row, up_row, hN]
      rfl
theorem L_deal (x : Int32) : sg_Call (69, 3, 0, [.ref 20, .int x, .null, .null], []) (137, 3, 0, [.ref 107, .int x, .null, .null, .null, .null, .null], []) := by
  intro L xs kt I J T n s K hS hK
  have h13 := hS.1.2.2.2.1
  obtain ⟨hc, wc, tc, hR, hB⟩ := hS.2.1
  have h10 := hR.1
  have hw6 := hR.2.1
  rcases rng x 1 10 with ⟨a0, a1⟩ | a0 | ⟨a0, a1⟩
  · obtain ⟨m, hm, rfl⟩ := in_of (x := x) (m := 10) (by decide) (by clear hK hS hR hB; (simp only [Int32.lt_iff_toInt_lt, Int32.le_iff_toInt_le, gt_iff_lt, ge_iff_le, ← Int32.toInt_inj, Int32.reduceToInt, Int32.reduceMul, Int32.reduceAdd, Int32.reduceSub, ne_eq, true_and, and_true, false_and, and_false, not_true_eq_false, not_false_eq_true, true_or, or_true, false_or, or_false] at *; omega)) a1
    have a1' : nI m ≤ 10 := nI_le (b := 10) hm (by decide)
    obtain ⟨st, hst⟩ : ∃ st, st = if 10 - hc < m then 10 - hc else m := ⟨_, rfl⟩
    have f : st ≤ m ∧ hc + st ≤ 10 ∧ (st = m ∨ hc + st = 10) := by rw [hst]; split <;> omega
    have emin : (if (10 : Int32) - I 21 1 < nI m then 10 - I 21 1 else nI m) = nI st := by
      rw [hR.2.2.2.2.2.2.1, show (10 : Int32) - nI hc = nI (10 - hc) from nI_subI (a := 10) h10, hst]
      have il : nI (10 - hc) < nI m ↔ 10 - hc < m := nI_ltI (by omega) (by omega)
      by_cases q : 10 - hc < m
      · rw [if_pos q, if_pos (il.mpr q)]
      · rw [if_neg q, if_neg fun z => q (il.mp z)]
    have loop := c_deal_l (kt := kt) (J := J) (T := T) (n := n) (s := s) (K := K) (N := I 108) (x := nI m) (st := st) f.2.1 (I0 := I) (fun I1 a b => by
      have hN1 : I1 108 = I 108 := a 108 (by omega)
      refine hK _ kt I1 J T n s ⟨h13, a 13 (by omega), ?_⟩
      have k2 := m_deal_l (kt := kt) (J := J) (T := T) (n := n) (s := s) (K := sg_End L xs n s (nI st)) (N := I 108) (m := m) (st := st) hm f.2.1 f.2.2 f.1 hR.2.2.2.1 (I0 := I1) (fun I2 c d => by
        refine End_of rfl (sim_land (I := I) (fun r k _ p1 p2 => by rw [c r p2, a r p1]) (fun _ _ => rfl) ?_ hS)
        rw [d]
        exact ⟨hc + st, wc, tc, LR_cg (fun r k hr => by rw [c r (by omega)]) b, stps_LB hw6 hB st f.2.1⟩) st 0 I1 .null .null .null .null (by omega) ch_rfl hN1
      refine am_wq_T (cut := fun z pc => (Nat.beq z 137 && Nat.beq pc 15)) (inl := fun z => !(Nat.beq z 113)) 120 _ _ _ ?_
      exact m_in_y a0 a1 (And.intro (fun _ => k2) (fun q => absurd m1z q))) st 0 I (by omega) ch_rfl hR
    refine am_wq_T (cut := fun z pc => (Nat.beq z 69 && Nat.beq pc 31)) (inl := fun _ => false) 120 _ _ _ ?_
    refine And.intro (fun q => absurd q a0) (fun _ => And.intro (fun _ => And.intro rfl (And.intro rfl ?_)) (fun q => absurd a1' q))
    show am_T am_C (69, 3, 31, [.ref 20, .int (nI m), .int (if (10 : Int32) - I 21 1 < nI m then 10 - I 21 1 else nI m), .int 0], []) (am_mk kt I J T n s) K
    rw [emin]
    exact loop
  · have hM : sg_Mid L xs I n s (137, 3, 0, [.ref 107, .int x, .null, .null, .null, .null, .null], []) (-1000000001) kt I J T n s := by
      refine ⟨h13, rfl, ?_⟩
      refine am_wq_T (cut := fun _ _ => false) (inl := fun z => !(Nat.beq z 113)) 120 _ _ _ ?_
      exact m_in_n0 a0 (And.intro (fun q => absurd rfl q) (fun _ => End_of rfl hS))
    refine am_wq_T (cut := fun z pc => (Nat.beq z 69 && Nat.beq pc 31)) (inl := fun _ => false) 120 _ _ _ ?_
    exact And.intro (fun _ => hK _ _ _ _ _ _ _ hM) (fun q => absurd a0 q)
  · have a1' : ¬ x ≤ 10 := Int32.not_le.mpr a1
    have hM : sg_Mid L xs I n s (137, 3, 0, [.ref 107, .int x, .null, .null, .null, .null, .null], []) (-1000000001) kt I J T n s := by
      refine ⟨h13, rfl, ?_⟩
      refine am_wq_T (cut := fun _ _ => false) (inl := fun z => !(Nat.beq z 113)) 120 _ _ _ ?_
      exact m_in_n1 a0 a1 (And.intro (fun q => absurd rfl q) (fun _ => End_of rfl hS))
    refine am_wq_T (cut := fun z pc => (Nat.beq z 69 && Nat.beq pc 31)) (inl := fun _ => false) 120 _ _ _ ?_
    exact And.intro (fun q => absurd q a0) (fun _ => And.intro (fun q => absurd q a1') (fun _ => hK _ _ _ _ _ _ _ hM))
end T69
