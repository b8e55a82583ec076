/-! the call text -/
section T99i
variable {kt : Nat → Nat × Nat} {I I' I0 : Nat → Nat → Int32} {J J' : Nat → Nat → Int64} {T T' : Nat → Nat → Nat} {n n' s : Nat} {L : Nat} {xs : Nat → Int32} {m t tc hc wc key : Nat} {B : Nat → Int32} {len : Nat} {p : Int32} {cs : List Int32} {N : Nat → Int32}
theorem tx_ok {r : pSt} (h96 : len ≤ 96) (hB : ∀ k, k < len → sg_in (B k) 0 255) (h : txK B len key r) : r.2.2.2.1.length ≤ 95 ∧ sg_dp r.2.2.2.1 0 = some 1 ∧ ∀ x, x ∈ r.2.2.2.1 → okC key x := by
  obtain ⟨x1, x2, x3, x4⟩ := h
  obtain ⟨o1, o2, o3⟩ := rd_ok hB 4000 0 (p2S B len) 0 0 true r x3 (by decide) p2_ws
  obtain ⟨w, _, new, e, l, ok, dp⟩ := o3 rfl
  have e' : r.2.2.2.1 = new := e
  have w1 := p1_ws (B := B) (len := len)
  have w2 : (p1S B len).2.1 ≤ (p2S B len).1 := (nxS_ws (B := B) w1.2.1).2
  have g : (p1S B len).2.2.1 = 256 := by
    by_cases g : (p1S B len).2.2.1 = 256
    · exact g
    · have := kyV_3 (B := B) (a := (p1S B len).1) (e := (p1S B len).2.1) (fun z => g z.1) (fun z => g z.1) (fun z => g z.1)
      omega
  have w3 := w1.2.2.1 (by rw [g]; decide)
  rw [e']
  exact ⟨by omega, dp 0, ok⟩
theorem LB_txN (h10 : hc ≤ 10) (hw6 : wc ≤ 6) (q : sg_LB N hc wc) : sg_LB (txN N tc key p cs) hc wc := by
  have h : ∀ j, j < 76 → j ≠ 8 → txN N tc key p cs j = N j := fun j a b => txN_off (by omega)
  obtain ⟨b0, b1, b2, b3, b4⟩ := q
  refine ⟨fun x hh => ?_, fun w hw => ?_, ?_, ?_, ?_⟩
  · rw [h _ (by omega) (by omega), h _ (by omega) (by omega), h _ (by omega) (by omega), h _ (by omega) (by omega), h _ (by omega) (by omega)]; exact b0 x hh
  · rw [h _ (by omega) (by omega), h _ (by omega) (by omega)]; exact b1 w hw
  · rw [h _ (by omega) (by omega)]; exact b2
  · rw [h _ (by omega) (by omega)]; exact b3
  · rw [h _ (by omega) (by omega)]; exact b4
theorem kU3_lt {r : Nat} (h : r < n) : kU3 kt n m r = kt r := by
  unfold kU3 kU
  rw [if_neg (by omega), if_neg (by omega), if_neg (by omega)]
theorem kU3_ge {r : Nat} (h : n + 3 ≤ r) : kU3 kt n m r = kt r := by
  unfold kU3 kU
  rw [if_neg (by omega), if_neg (by omega), if_neg (by omega)]
theorem kU3_at : kU3 kt n m n = (6, 4) ∧ kU3 kt n m (n + 1) = (20, m) ∧ kU3 kt n m (n + 2) = (20, m) := by
  unfold kU3 kU
  exact ⟨by rw [if_neg (by omega), if_neg (by omega), if_pos rfl], by rw [if_neg (by omega), if_pos rfl], by rw [if_pos rfl]⟩
theorem L_text : sg_Call (88, 202, 0, [.ref 20, .null], []) (183, 4, 0, [.ref 107, .null, .null, .null], []) := by
  intro L xs kt I J T n s K hS hK
  obtain ⟨f0, f1, f2, f3, f4, f5, f6⟩ := hS.1
  obtain ⟨hc, wc, tc, hR, hB⟩ := hS.2.1
  obtain ⟨l0, l1, l2, l3, l4, l5, l6, l7, l8, -⟩ := id hR
  obtain ⟨len, t0, t1, t2, t3⟩ := hS.2.2.2.1
  have hBB : ∀ k, k < len → sg_in (I 73 k) 0 255 := fun k hk => by rw [(t3 k hk).1]; exact (t3 k hk).2
  have hTc : tpB I (I 73) len := ⟨t0, t1, fun k hk => ⟨rfl, hBB k hk⟩⟩
  have hF : nmF I := by
    unfold nmF
    rw [(f4 10 (by omega)).1, (f4 11 (by omega)).1, (f4 12 (by omega)).1]
    exact ⟨rfl, rfl, rfl, rfl, rfl, rfl, rfl⟩
  have hY : ∀ j, j < 3 → ∀ i, i < lnK j → I (7 + j) i = kyW j i := fun j hj i hi => by
    have l6' : lnK j ≤ 6 := by
      rcases (by omega : j = 0 ∨ j = 1 ∨ j = 2) with e | e | e
      · subst e; decide
      · subst e; decide
      · subst e; decide
    rw [(f4 (7 + j) (by omega)).1]
    exact am_F_ky xs j hj i (by omega) hi
  have tS : ∀ I1 : Nat → Nat → Int32, I1 107 = I 107 → I1 117 = I 117 → tpS I1 (I 73) len := fun I1 a b => ⟨t0, by rw [a]; exact t2, fun k hk => ⟨by rw [b]; exact (t3 k hk).1.symm, hBB k hk⟩⟩
  refine c_text f0 l8 l2 hTc hF hY (fun key r h => by have := (tx_ok t0 hBB h).1; omega) (fun a I1 hx c1 h1 => ?_) (fun key r m I1 J1 T1 hx hm o1 o2 h1 i0 i1 t2' t3' co => ⟨fun q => ?_, fun q => ?_⟩)
  · refine hK _ kt I1 J T n s ⟨f3, c1 13 (by omega), ?_⟩
    refine m_text (tS I1 (c1 107 (by omega)) (c1 117 (by omega))) (fun i hi => by rw [c1 118 (by omega)]; exact f5 i hi) (fun i hi => by rw [c1 119 (by omega)]; exact f6 i hi) (fun b I2 hx' q e11 => ?_) (fun key r I2 hx' _ _ _ _ _ _ => (tx_FK hx hx').elim)
    have row : ∀ r, r ≠ 72 → r ≠ 74 → r ≠ 107 → r ≠ 120 → r ≠ 121 → r ≠ 122 → I2 r = I r := fun r a1 a2 a3 a4 a5 a6 => by rw [q.1 r (by omega), c1 r (by omega)]
    have c107 : ∀ k, ¬ (11 ≤ k ∧ k < 25) → I2 107 k = I 107 k := fun k hk => by rw [q.2 k hk, c1 107 (by omega)]
    refine End_of (by rw [tx_FF hx hx']) (sim_text (.inl rfl) (fun _ _ => rfl) f2 (fun r a1 a2 _ => row r (by omega) (by omega) (by omega) (by omega) (by omega) (by omega)) (fun _ _ _ => rfl) (fun r a1 => row r (by omega) (by omega) (by omega) (by omega) (by omega) (by omega)) (c107 3 (by omega)) (c107 37 (by omega)) (by rw [q.1 72 (by omega)]; exact h1) e11 (fun _ _ => rfl) ?_ hS)
    rw [row 108 (by omega) (by omega) (by omega) (by omega) (by omega) (by omega)]
    exact Land_cg (fun r k hr => by rw [row r (by omega) (by omega) (by omega) (by omega) (by omega) (by omega)]) hS.2.1
  · have tk := tx_ok t0 hBB hx
    refine hK _ (kU3 kt n m) I1 J1 T1 (n + 3) (s + 4 + m + m) ⟨(kU3_lt (by omega)).trans f3, o1 13 (by omega) (by omega) (by omega), ?_⟩
    refine m_text (tS I1 (o1 107 (by omega) (by omega) (by omega)) (o1 117 (by omega) (by omega) (by omega))) (fun i hi => by rw [o1 118 (by omega) (by omega) (by omega)]; exact f5 i hi) (fun i hi => by rw [o1 119 (by omega) (by omega) (by omega)]; exact f6 i hi) (fun b I2 hx' _ _ => (tx_FK hx' hx).elim) (fun key2 r2 I2 hx' u e11 _ _ _ _ => ?_)
    have row : ∀ r, r < n → r ≠ 72 → r ≠ 74 → r ≠ 107 → r ≠ 120 → r ≠ 121 → r ≠ 122 → I2 r = I r := fun r a0 a1 a2 a3 a4 a5 a6 => by rw [u.1 r (by omega), o1 r a0 a1 a2]
    have c107 : ∀ k, ¬ (11 ≤ k ∧ k < 25) → I2 107 k = I 107 k := fun k hk => by rw [u.2 k hk, o1 107 (by omega) (by omega) (by omega)]
    have e108 : I2 108 = I 108 := row 108 (by omega) (by omega) (by omega) (by omega) (by omega) (by omega) (by omega)
    have hT2 : ∀ r, r < n → T1 r = T r := fun r hr => (o2 r hr).2
    have hI2 : ∀ r, 134 ≤ r → r < n → r % 3 ≠ 1 → I2 r = I r := fun r a1 a2 _ => row r a2 (by omega) (by omega) (by omega) (by omega) (by omega) (by omega)
    refine m_tx51f (by rw [e108, l5, q]; rfl) ⟨kU3 kt n m, I2, J1, T1, n + 3, s + 4 + m + m, rfl, rfl, sim_text (.inr rfl) (fun r hr => kU3_lt hr) (fun r hr => (kU3_ge hr).trans (f2 r (by omega))) hI2 (fun r hr _ => hT2 r hr) (fun r a1 => row r (by omega) (by omega) (by omega) (by omega) (by omega) (by omega) (by omega)) (c107 3 (by omega)) (c107 37 (by omega)) (by rw [u.1 72 (by omega)]; exact h1) e11 (fun r hr => (o2 r (by omega)).1) ?_ hS, by omega, by omega⟩
    rw [e108]
    exact ⟨hc, wc, tc, LR_gr (by omega) (fun r hr => kU3_lt hr) (fun r _ hr => hT2 r hr) (fun k _ => by rw [hT2 25 (by omega)]) hI2 (fun r a1 a2 => row r (by omega) (by omega) (by omega) (by omega) (by omega) (by omega) (by omega)) hR, hB⟩
  · have tk := tx_ok t0 hBB hx
    obtain ⟨I3, e3⟩ : ∃ I3, I3 = am_up (am_up I1 26 key (nI tc)) 21 6 (nI (tc + 1)) := ⟨_, rfl⟩
    obtain ⟨T3, g3⟩ : ∃ T3, T3 = am_up T1 25 tc n := ⟨_, rfl⟩
    rw [← e3, ← g3]
    have off3 : ∀ r, r ≠ 21 → r ≠ 26 → I3 r = I1 r := fun r a1 a2 => by rw [e3, up_off a1, up_off a2]
    have offT : ∀ r, r ≠ 25 → T3 r = T1 r := fun r a1 => by rw [g3, upT_off a1]
    have o3 : ∀ r, r < n → r ≠ 72 → r ≠ 74 → r ≠ 21 → r ≠ 26 → I3 r = I r := fun r a0 a1 a2 a3 a4 => (off3 r a3 a4).trans (o1 r a0 a1 a2)
    refine hK _ (kU3 kt n m) I3 J1 T3 (n + 3) (s + 4 + m + m) ⟨(kU3_lt (by omega)).trans f3, o3 13 (by omega) (by omega) (by omega) (by omega) (by omega), ?_⟩
    refine m_text (tS I3 (o3 107 (by omega) (by omega) (by omega) (by omega) (by omega)) (o3 117 (by omega) (by omega) (by omega) (by omega) (by omega))) (fun i hi => by rw [o3 118 (by omega) (by omega) (by omega) (by omega) (by omega)]; exact f5 i hi) (fun i hi => by rw [o3 119 (by omega) (by omega) (by omega) (by omega) (by omega)]; exact f6 i hi) (fun b I2 hx' _ _ => (tx_FK hx' hx).elim) (fun key2 r2 I2 hx' u e11 u17 u21 u22 u120 => ?_)
    obtain ⟨ek, er⟩ := tx_KK hx hx'
    subst ek
    subst er
    have row2 : ∀ r, r < n → r ≠ 72 → r ≠ 74 → r ≠ 107 → r ≠ 120 → r ≠ 121 → r ≠ 122 → r ≠ 21 → r ≠ 26 → I2 r = I r := fun r a0 a1 a2 a3 a4 a5 a6 a7 a8 => by rw [u.1 r (by omega), o3 r a0 a1 a2 a7 a8]
    have e108 : I2 108 = I 108 := row2 108 (by omega) (by omega) (by omega) (by omega) (by omega) (by omega) (by omega) (by omega) (by omega)
    refine m_tx51 (t := tc) (by rw [e108]; exact l5) q (by omega) u21 u22 u17 u120 (fun I4 v v108 => ?_)
    rw [e108] at v108
    have row : ∀ r, r < n → r ≠ 72 → r ≠ 74 → r ≠ 107 → r ≠ 108 → r ≠ 120 → r ≠ 121 → r ≠ 122 → r ≠ 21 → r ≠ 26 → I4 r = I r := fun r a0 a1 a2 a3 a4 a5 a6 a7 a8 a9 => by rw [v r a4, row2 r a0 a1 a2 a3 a5 a6 a7 a8 a9]
    have to3 : ∀ r, r ≠ 107 → r ≠ 108 → r ≠ 120 → r ≠ 121 → r ≠ 122 → I4 r = I3 r := fun r a1 a2 a3 a4 a5 => by rw [v r a2, u.1 r (by omega)]
    have to1 : ∀ r, r ≠ 107 → r ≠ 108 → r ≠ 120 → r ≠ 121 → r ≠ 122 → r ≠ 21 → r ≠ 26 → I4 r = I1 r := fun r a1 a2 a3 a4 a5 a6 a7 => (to3 r a1 a2 a3 a4 a5).trans (off3 r a6 a7)
    have c107 : ∀ k, ¬ (11 ≤ k ∧ k < 25) → I4 107 k = I 107 k := fun k hk => by rw [v 107 (by omega), u.2 k hk, o3 107 (by omega) (by omega) (by omega) (by omega) (by omega)]
    have hT2 : ∀ r, r < n → r ≠ 25 → T3 r = T r := fun r hr h25 => (offT r h25).trans (o2 r hr).2
    have hI2 : ∀ r, 134 ≤ r → r < n → r % 3 ≠ 1 → I4 r = I r := fun r a1 a2 _ => row r a2 (by omega) (by omega) (by omega) (by omega) (by omega) (by omega) (by omega) (by omega) (by omega)
    refine ⟨kU3 kt n m, I4, J1, T3, n + 3, s + 4 + m + m, rfl, rfl, sim_text (.inr rfl) (fun r hr => kU3_lt hr) (fun r hr => (kU3_ge hr).trans (f2 r (by omega))) hI2 hT2 (fun r a1 => row r (by omega) (by omega) (by omega) (by omega) (by omega) (by omega) (by omega) (by omega) (by omega) (by omega)) (c107 3 (by omega)) (c107 37 (by omega)) (by rw [to1 72 (by omega) (by omega) (by omega) (by omega) (by omega) (by omega) (by omega)]; exact h1) (by rw [v 107 (by omega)]; exact e11) (fun r hr => (o2 r (by omega)).1) ?_ hS, by omega, by omega⟩
    rw [v108]
    refine ⟨hc, wc, tc + 1, LR_text (n := n) rfl f0 f1 (by omega) hx.1 tk.1 (fun r hr => kU3_lt hr) (hm ▸ kU3_at) (fun r a1 a2 => hT2 r a2 (by omega)) (fun k hk => ?_) (by rw [g3, upT_eq]) (by rw [offT n (by omega)]; exact t2') (by rw [offT n (by omega)]; exact t3') hI2 (fun r a1 a2 a3 k a4 => ?_) ?_ (fun k hk => ?_) (by rw [to1 n (by omega) (by omega) (by omega) (by omega) (by omega) (by omega) (by omega)]; exact i0) (by rw [to1 n (by omega) (by omega) (by omega) (by omega) (by omega) (by omega) (by omega)]; exact i1) (fun k hk => ?_) tk.2.1 tk.2.2 hR, LB_txN l0 l1 hB⟩
    · rw [g3, upT_ne (by omega), (o2 25 (by omega)).2]
    · rw [to3 r (by omega) (by omega) (by omega) (by omega) (by omega), e3, up_ne (by omega), up_ne (by omega), o1 r (by omega) (by omega) (by omega)]
    · rw [to3 21 (by omega) (by omega) (by omega) (by omega) (by omega), e3, up_eq]
    · rw [to3 26 (by omega) (by omega) (by omega) (by omega) (by omega), e3, up_ne (by omega)]
      by_cases e : k = key
      · rw [if_pos e, e, up_eq]
      · rw [if_neg e, up_ne (by omega), o1 26 (by omega) (by omega) (by omega)]
    · rw [to1 (n + 1) (by omega) (by omega) (by omega) (by omega) (by omega) (by omega) (by omega)]
      exact co k (by omega)
end T99i
