/-! a day -/
section T48
variable {kt : Nat → Nat × Nat} {I I' : Nat → Nat → Int32} {J J' : Nat → Nat → Int64} {T : Nat → Nat → Nat} {n s : Nat} {L : Nat} {xs : Nat → Int32} {K : Option Value → am_M → Prop} {N : Nat → Int32} {hc wc tc h : Nat}
def nxz (z : Int32) : Int32 := z * 1103515245 + 12345
def drw (z : Int32) : Int32 := (z.toUInt32 >>> ((8 : Int32).toUInt32 &&& Int32.toUInt32 31)).toInt32
theorem drw_nI (z : Int32) : ∃ m : Nat, m < 16777216 ∧ drw z = nI m := by
  have e : z = nI z.toBitVec.toNat := by
    apply Int32.toBitVec_inj.mp
    show z.toBitVec = BitVec.ofNat 32 z.toBitVec.toNat
    rw [BitVec.ofNat_toNat]; simp
  refine ⟨z.toBitVec.toNat / 256, by have := z.toBitVec.isLt; omega, ?_⟩
  have q := pk_ushrN (n := z.toBitVec.toNat) z.toBitVec.isLt 8 8 (by decide)
  rw [← e] at q
  exact q
theorem drw_mod (z : Int32) {m : Nat} (h0 : 0 < m) (h1 : m < 1000) : ∃ j : Nat, j < m ∧ drw z - drw z / nI m * nI m = nI j := by
  obtain ⟨k, hk, e⟩ := drw_nI z
  exact ⟨k % m, Nat.mod_lt _ h0, by rw [e, pk_rem (by omega) h0 (by omega)]⟩
theorem sgin_nI {k m : Nat} (h : k ≤ m) (hm : m < 2147483648) : sg_in (nI k) 0 m := by
  unfold sg_in; rw [nI_toInt (by omega)]; omega
def dhV (N : Nat → Int32) (tc h : Nat) : Int32 := wth (ST N tc h (drw (nxz (N 0)) - drw (nxz (N 0)) / 10 * 10)) 0 (N (21 + 5 * h + 2))
def dhN (tc : Nat) (N : Nat → Int32) (h : Nat) : Nat → Int32 := if 0 < N (21 + 5 * h + 2) then upN (upN (upN (upN N 0 (nxz (N 0))) (21 + 5 * h + 2) (N (21 + 5 * h + 2) - dhV N tc h)) 6 (N 6 + dhV N tc h)) (21 + 5 * h + 4) (wth (N (21 + 5 * h + 4) + 1) 0 999) else N
def dhs (tc : Nat) (N : Nat → Int32) : Nat → Nat → Int32
  | 0 => N
  | h + 1 => dhN tc (dhs tc N h) h
def dayN (tc hc : Nat) (N : Nat → Int32) : Nat → Int32 := upN (dhs tc N hc) 2 (dhs tc N hc 2 + 1)
theorem cnt_up' {j key : Nat} {v : Int32} (hj : j < 76) : ∀ t, sg_cnt (upN N j v) key t = sg_cnt N key t
  | 0 => rfl
  | t + 1 => by unfold sg_cnt; rw [upN_ne (by omega), cnt_up' hj t]
theorem TX_up {j t key len : Nat} {cs : List Int32} {v : Int32} (hj : j < 76) (h : TX N t key len cs) : TX (upN N j v) t key len cs := by
  obtain ⟨h1, h2, h3, h4, h5, h6, h7⟩ := h
  exact ⟨h1, h2, h3, by rw [upN_ne (by omega)]; exact h4, fun k hk => by rw [upN_ne (by omega)]; exact h5 k hk, h6, h7⟩
theorem RO_up {j : Nat} {v : Int32} (hj : j < 76 ∧ j ≠ 1 ∧ j ≠ 7 ∧ j ≠ 8) (h : RO N hc wc tc) : RO (upN N j v) hc wc tc := by
  obtain ⟨h1, h2, h3, h4, h5, h6, h7⟩ := h
  refine ⟨h1, h2, h3, by rw [upN_ne (by omega)]; exact h4, by rw [upN_ne (by omega)]; exact h5, by rw [upN_ne (by omega)]; exact h6, fun t ht => ?_⟩
  obtain ⟨key, len, cs, q⟩ := h7 t ht
  exact ⟨key, len, cs, TX_up hj.1 q⟩
theorem csN_up {j t : Nat} {v : Int32} (hj : j < 76) : csN (upN N j v) t = csN N t := by
  unfold csN
  rw [upN_ne (by omega)]
  congr 1
  funext k
  rw [upN_ne (by omega)]
theorem plv_up {j : Nat} {v x d a : Int32} (hj : j < 76) : plv (upN N j v) tc x d a = plv N tc x d a := by
  unfold plv tvN
  rw [cnt_up' hj, csN_up hj]
theorem lwv_up {j : Nat} {v d a : Int32} (hj : j < 76) : lwv (upN N j v) tc d a = lwv N tc d a := by
  unfold lwv tvN
  rw [cnt_up' hj, csN_up hj]
theorem ST_up {j : Nat} {v x : Int32} (hj : j < 21) : ST (upN N j v) tc h x = ST N tc h x := by
  unfold ST
  rw [plv_up (by omega), upN_ne (by omega), upN_ne (by omega), upN_ne (by omega)]
theorem wth_b {v : Int32} {m : Nat} (hm : m < 2147483648) : sg_in (wth v 0 (nI m)) 0 m := by
  unfold wth sg_in
  have e := nI_toInt hm
  split
  · show (0 : Int) ≤ 0 ∧ (0 : Int) ≤ m; omega
  · split
    · rw [e]; omega
    · rename_i a b
      have a := Int32.le_iff_toInt_le.mp (Int32.not_lt.mp a)
      have b := Int32.le_iff_toInt_le.mp (Int32.not_lt.mp b)
      rw [e] at b
      exact ⟨a, b⟩
theorem HB_up {j : Nat} {v : Int32} (h21 : 21 ≤ j → sg_in v 0 (bd ((j - 21) % 5))) (hB : HB N hc) : HB (upN N j v) hc := by
  have e : ∀ k (x : Int), (k = j → sg_in v 0 x) → sg_in (N k) 0 x → sg_in (upN N j v k) 0 x := by
    intro k x h1 h2
    by_cases h : k = j
    · subst h; rw [upN_eq]; exact h1 rfl
    · rw [upN_ne h]; exact h2
  intro h hh
  obtain ⟨b0, b1, b2, b3, b4⟩ := hB h hh
  have key : ∀ k, k < 5 → 21 + 5 * h + k = j → sg_in v 0 (bd k) := fun k hk q => by
    have := h21 (by omega)
    rw [show (j - 21) % 5 = k by omega] at this; exact this
  exact ⟨e _ _ (fun q => key 0 (by decide) q) b0, e _ _ (fun q => key 1 (by decide) q) b1, e _ _ (fun q => key 2 (by decide) q) b2, e _ _ (fun q => key 3 (by decide) q) b3, e _ _ (fun q => key 4 (by decide) q) b4⟩
theorem dhV_b (hB : HB N hc) (hh : h < hc) : ∃ m k : Nat, m ≤ 99 ∧ k ≤ m ∧ N (21 + 5 * h + 2) = nI m ∧ dhV N tc h = nI k := by
  obtain ⟨m, hm, e⟩ := in_nI (m := 99) (hB h hh).2.2.1 (by decide)
  have b := wth_b (v := ST N tc h (drw (nxz (N 0)) - drw (nxz (N 0)) / 10 * 10)) (m := m) (by omega)
  obtain ⟨k, hk, e2⟩ := in_nI b (by omega)
  refine ⟨m, k, hm, hk, e, ?_⟩
  unfold dhV
  rw [e]; exact e2
theorem nI_subI {a b : Nat} (h : b ≤ a) : nI a - nI b = nI (a - b) := by
  obtain ⟨c, rfl⟩ : ∃ c, a = b + c := ⟨a - b, by omega⟩
  rw [← nI_add, Nat.add_sub_cancel_left]
  rw [Int32.add_comm, Int32.add_sub_cancel]
theorem dhN_HB (hB : HB N hc) (hh : h < hc) : HB (dhN tc N h) hc := by
  unfold dhN
  split
  · obtain ⟨m, k, hm, hk, e1, e2⟩ := dhV_b (tc := tc) hB hh
    refine HB_up (fun _ => ?_) (HB_up (fun q => absurd q (by decide)) (HB_up (fun _ => ?_) (HB_up (fun q => absurd q (by decide)) hB)))
    · rw [show (21 + 5 * h + 4 - 21) % 5 = 4 by omega]
      exact wth_b (m := 999) (by decide)
    · rw [show (21 + 5 * h + 2 - 21) % 5 = 2 by omega, e1, e2, nI_subI hk]
      exact sgin_nI (m := 99) (by omega) (by decide)
  · exact hB
theorem dhs_HB (hB : HB N hc) : ∀ i, i ≤ hc → HB (dhs tc N i) hc
  | 0, _ => hB
  | i + 1, hi => dhN_HB (dhs_HB hB i (by omega)) (by omega)
theorem dayN_HB (hB : HB N hc) : HB (dayN tc hc N) hc := HB_up (fun q => absurd q (by decide)) (dhs_HB hB hc (Nat.le_refl _))
theorem dhN_RO (ho : RO N hc wc tc) (hh : h < 10) : RO (dhN tc N h) hc wc tc := by
  unfold dhN
  split
  · exact RO_up (by omega) (RO_up (by omega) (RO_up (by omega) (RO_up (by omega) ho)))
  · exact ho
theorem dhs_RO (ho : RO N hc wc tc) (h10 : hc ≤ 10) : ∀ i, i ≤ hc → RO (dhs tc N i) hc wc tc
  | 0, _ => ho
  | i + 1, hi => dhN_RO (dhs_RO ho h10 i (by omega)) (by omega)
theorem dayN_RO (ho : RO N hc wc tc) (h10 : hc ≤ 10) : RO (dayN tc hc N) hc wc tc := RO_up (by omega) (dhs_RO ho h10 hc (Nat.le_refl _))
def PD (r : Nat) : Prop := r = 108 ∨ PF r
theorem l10 : ¬ (10 : Int32) = 0 := by decide
theorem m_withinV {v a b r : Int32} (hv : wth v a b = r) (hK : K (some (.int r)) (am_mk kt I J T n s)) : am_T am_C (114, 0, 0, [.int v, .int a, .int b], []) (am_mk kt I J T n s) K := m_within (by rw [hv]; exact hK)
theorem m_drawV {z0 z v : Int32} (h0 : I 108 0 = z0) (hz : nxz z0 = z) (hv : drw z = v) (hK : K (some (.int v)) (am_mk kt (am_up I 108 0 z) J T n s)) : am_T am_C (136, 0, 0, [.ref 107], []) (am_mk kt I J T n s) K := by
  refine m_draw ?_
  have e : I 108 0 * 1103515245 + 12345 = z := by rw [h0, ← hz]; rfl
  rw [e]
  rw [← hv] at hK
  exact hK
theorem m_settlesV {x v : Int32} (hN : I 108 = N) (ho : RO N hc wc tc) (hh : h ≤ 10) (hb : sg_in (N (21 + 5 * h + 0)) 0 5) (hv : ST N tc h x = v) (hK : ∀ I', ch PF I I' → I' 108 = N → K (some (.int v)) (am_mk kt I' J T n s)) : am_T am_C (133, 2, 0, [.ref 107, .int (nI h), .int x, .null, .null, .null], []) (am_mk kt I J T n s) K :=
  m_settles hN ho hh hb (by rw [hv]; exact hK)
theorem m_day_l (h10 : hc ≤ 10) : ∀ (j i : Nat) (N : Nat → Int32) (I : Nat → Nat → Int32) (v2 : Value), i + j = hc → I 108 = dhs tc N i → RO N hc wc tc → HB N hc → (∀ I', ch PD I I' → I' 108 = dayN tc hc N → K none (am_mk kt I' J T n s)) → am_T am_C (157, 3, 2, [.ref 107, .int (nI i), v2], []) (am_mk kt I J T n s) K
  | 0, i, N, I, v2, hi, hN, ho, hB, hK => by
    have : i = hc := by omega
    subst this
    have ho' := dhs_RO ho h10 i (Nat.le_refl _)
    have e0 : vp_in 1 1448 := vpl (k := 1) (by decide) (by decide)
    have e2 : vp_in 2 1448 := vpl (k := 2) (by decide) (by decide)
    have e1 : I 108 (Int32.toNatClampNeg 1) ≤ nI i := by rw [hN]; show dhs tc N i 1 ≤ nI i; rw [ho'.2.2.2.1]; exact nI_le (Nat.le_refl _) (by omega)
    refine am_wq_T (cut := fun z pc => (Nat.beq z 157 && Nat.beq pc 2)) (inl := fun _ => false) 120 _ _ _ ?_
    refine And.intro rfl (And.intro ⟨rfl, e0⟩ (And.intro (fun _ => ?_) (fun q => absurd e1 q)))
    refine And.intro rfl (And.intro ⟨rfl, e2⟩ (And.intro ⟨rfl, e2⟩ ?_))
    refine hK (am_up I 108 2 (I 108 2 + 1)) (ch_up (P := PD) (.inl rfl)) ?_
    rw [up_row, hN]; rfl
  | j + 1, i, N, I, v2, hi, hN, ho, hB, hK => by
    have ho' := dhs_RO ho h10 i (by omega)
    have hB' := dhs_HB (tc := tc) hB i (by omega)
    have hi10 : i ≤ 10 := by omega
    obtain ⟨N1, e1⟩ : ∃ N1, N1 = dhs tc N i := ⟨_, rfl⟩
    rw [← e1] at hN ho' hB'
    have e0 : vp_in 1 1448 := vpl (k := 1) (by decide) (by decide)
    have e6 : vp_in 6 1448 := vpl (k := 6) (by decide) (by decide)
    have c1 : ¬ I 108 (Int32.toNatClampNeg 1) ≤ nI i := by rw [hN]; show ¬ N1 1 ≤ nI i; rw [ho'.2.2.2.1]; exact nI_ge (by omega) (by omega)
    have en : dhs tc N (i + 1) = dhN tc N1 i := by rw [e1]; rfl
    by_cases c2 : N1 (21 + 5 * i + 2) ≤ 0
    · have ed : dhN tc N1 i = N1 := if_neg (Int32.not_lt.mpr c2)
      have ih := m_day_l h10 j (i + 1) N I v2 (by omega) (by rw [en, ed]; exact hN) ho hB hK
      rw [nI_succ] at ih
      refine am_wq_T (cut := fun z pc => (Nat.beq z 157 && Nat.beq pc 2)) (inl := fun z => !(Nat.beq z 121)) 120 _ _ _ ?_
      refine And.intro rfl (And.intro ⟨rfl, e0⟩ (And.intro (fun q => absurd q c1) (fun _ => ?_)))
      refine And.intro rfl (m_ofV (h := i) (w := 2) hN rfl rfl hi10 (by decide) rfl ?_)
      exact And.intro (fun _ => ih) (fun q => absurd c2 q)
    · have ed : dhN tc N1 i = upN (upN (upN (upN N1 0 (nxz (N1 0))) (21 + 5 * i + 2) (N1 (21 + 5 * i + 2) - dhV N1 tc i)) 6 (N1 6 + dhV N1 tc i)) (21 + 5 * i + 4) (wth (N1 (21 + 5 * i + 4) + 1) 0 999) := if_pos (Int32.not_le.mp c2)
      obtain ⟨z, ez⟩ : ∃ z, nxz (N1 0) = z := ⟨_, rfl⟩
      obtain ⟨d, hd⟩ : ∃ d, N1 (21 + 5 * i + 2) = d := ⟨_, rfl⟩
      obtain ⟨a, ha⟩ : ∃ d, N1 (21 + 5 * i + 4) = d := ⟨_, rfl⟩
      obtain ⟨g, hg⟩ : ∃ g, wth (a + 1) 0 999 = g := ⟨_, rfl⟩
      obtain ⟨dv, hdv⟩ : ∃ g, drw z = g := ⟨_, rfl⟩
      obtain ⟨st, hst⟩ : ∃ g, ST (upN N1 0 z) tc i (dv - dv / 10 * 10) = g := ⟨_, rfl⟩
      obtain ⟨sm, hsm⟩ : ∃ g, wth st 0 d = g := ⟨_, rfl⟩
      have hdh : dhV N1 tc i = sm := by unfold dhV; rw [ez, hdv, hd, ← ST_up (j := 0) (v := z) (by decide), hst, hsm]
      rw [hdh, ez, hd, ha, hg] at ed
      rw [hd] at c2
      have hro := RO_up (N := N1) (j := 0) (v := z) (by omega) ho'
      refine am_wq_T (cut := fun z pc => (Nat.beq z 157 && Nat.beq pc 2)) (inl := fun z => !((Nat.beq z 121 || (Nat.beq z 136 || (Nat.beq z 133 || (Nat.beq z 114 || Nat.beq z 122)))))) 120 _ _ _ ?_
      refine And.intro rfl (And.intro ⟨rfl, e0⟩ (And.intro (fun q => absurd q c1) (fun _ => ?_)))
      refine And.intro rfl (m_ofV (h := i) (w := 2) hN rfl rfl hi10 (by decide) hd ?_)
      refine And.intro (fun q => absurd q c2) (fun _ => And.intro rfl (m_drawV (z0 := N1 0) (by rw [hN]) ez hdv (And.intro l10 (And.intro rfl ?_))))
      refine m_settlesV (I := am_up I 108 0 z) (N := upN N1 0 z) (by rw [up_row, hN]) hro hi10 (by rw [upN_ne (by omega)]; exact (hB' i (by omega)).1) hst (fun I2 h2 hN2 => ?_)
      refine And.intro rfl (m_ofV (h := i) (w := 2) hN2 rfl rfl hi10 (by decide) ((upN_ne (by omega)).trans hd) (m_withinV hsm ?_))
      refine And.intro rfl (m_ofV (h := i) (w := 2) hN2 rfl rfl hi10 (by decide) ((upN_ne (by omega)).trans hd) ?_)
      refine And.intro rfl (m_put (h := i) (w := 2) rfl rfl hi10 (by decide) ?_)
      refine And.intro rfl (And.intro ⟨rfl, e6⟩ (And.intro ⟨rfl, e6⟩ (And.intro rfl ?_)))
      have hv2 : am_up I2 108 (21 + 5 * i + 2) (d - sm) 108 6 + sm = N1 6 + sm := by rw [up_ne (by omega), hN2, upN_ne (by omega)]
      have hv3 : am_up (am_up I2 108 (21 + 5 * i + 2) (d - sm)) 108 6 (N1 6 + sm) 108 (21 + 5 * i + 4) = a := by rw [up_ne (by omega), up_ne (by omega), hN2, upN_ne (by omega)]; exact ha
      refine m_of (I := am_up (am_up I2 108 (21 + 5 * i + 2) (d - sm)) 108 6 (am_up I2 108 (21 + 5 * i + 2) (d - sm) 108 6 + sm)) (h := i) (w := 4) rfl rfl hi10 (by decide) ?_
      rw [hv2, hv3]
      refine m_withinV hg (And.intro rfl (m_put (h := i) (w := 4) rfl rfl hi10 (by decide) ?_))
      have ih : ∀ I3, I3 108 = dhs tc N (i + 1) → ch PD I I3 → ∀ v, am_T am_C (157, 3, 2, [.ref 107, .int (nI i + 1), v], []) (am_mk kt I3 J T n s) K := fun I3 a b v => by
        rw [← nI_succ]
        exact m_day_l h10 j (i + 1) N I3 v (by omega) a ho hB fun I' c e => hK I' (ch_tr b c fun r q => q.elim id id) e
      refine ih _ ?_ ?_ _
      · rw [en, ed, up_row, up_row, up_row, hN2]
      · exact ch_tr (ch_up (P := PD) (.inl rfl)) (ch_tr (S := PD) (ch_w (Q := PD) h2 fun r q => .inr q) (ch_tr (S := PD) (ch_up (P := PD) (.inl rfl)) (ch_tr (S := PD) (ch_up (P := PD) (.inl rfl)) (ch_up (P := PD) (.inl rfl)) fun r q => q.elim id id) fun r q => q.elim id id) fun r q => q.elim id id) fun r q => q.elim id id
theorem m_day (h10 : hc ≤ 10) (hN : I 108 = N) (ho : RO N hc wc tc) (hB : HB N hc) (hK : ∀ I', ch PD I I' → I' 108 = dayN tc hc N → K none (am_mk kt I' J T n s)) : am_T am_C (157, 3, 0, [.ref 107, .null, .null], []) (am_mk kt I J T n s) K := by
  refine am_wq_T (cut := fun z pc => (Nat.beq z 157 && Nat.beq pc 2)) (inl := fun _ => false) 120 _ _ _ ?_
  exact m_day_l h10 hc 0 N I _ (by omega) hN ho hB hK
end T48
