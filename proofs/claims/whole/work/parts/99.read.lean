/-! the class reads a text -/
section T99
variable {kt : Nat → Nat × Nat} {I I' I0 : Nat → Nat → Int32} {J J' : Nat → Nat → Int64} {T T' : Nat → Nat → Nat} {n s : Nat} {K : Option Value → am_M → Prop} {B : Nat → Int32} {len key : Nat}
theorem nI_ex (x : Int32) : ∃ a : Nat, x = nI a := ⟨x.toBitVec.toNat, Int32.toBitVec_inj.mp (by
  show x.toBitVec = BitVec.ofNat 32 x.toBitVec.toNat
  simp)⟩
/-- the first word, and what stands behind it -/
def p1S (B : Nat → Int32) (len : Nat) : pSt := nxS B len (0, 0, -1, [], 0)
def p2S (B : Nat → Int32) (len : Nat) : pSt := nxS B len (p1S B len)
/-- a text is refused at a -/
def txF (B : Nat → Int32) (len a : Nat) : Prop := (kyV B (p1S B len).1 (p1S B len).2.1 (p1S B len).2.2.1 = 3 ∧ a = (p1S B len).1) ∨ ∃ key b r, key < 3 ∧ kyV B (p1S B len).1 (p1S B len).2.1 (p1S B len).2.2.1 = key ∧ rd B len key 4000 0 (p2S B len) 0 0 = some (b, r) ∧ (b = false ∨ r.2.2.1 ≠ -1) ∧ a = r.1
/-- a text is read -/
def txK (B : Nat → Int32) (len key : Nat) (r : pSt) : Prop := key < 3 ∧ kyV B (p1S B len).1 (p1S B len).2.1 (p1S B len).2.2.1 = key ∧ rd B len key 4000 0 (p2S B len) 0 0 = some (true, r) ∧ r.2.2.1 = -1
theorem kyV_le {a e : Nat} {g : Int32} : kyV B a e g ≤ 3 := by
  by_cases h0 : g = 256 ∧ kyP B a e 0
  · rw [kyV_0 h0]; decide
  · by_cases h1 : g = 256 ∧ kyP B a e 1
    · rw [kyV_1 h0 h1]; decide
    · by_cases h2 : g = 256 ∧ kyP B a e 2
      · rw [kyV_2 h0 h1 h2]; decide
      · rw [kyV_3 h0 h1 h2]; decide
theorem p1_ws : ws B len (p1S B len) := (nxS_ws (B := B) (s := (0, 0, -1, [], 0)) (Nat.zero_le _)).1
theorem p2_ws : ws B len (p2S B len) := (nxS_ws (B := B) p1_ws.2.1).1
theorem tx_tot (h96 : len ≤ 96) (hB : ∀ k, k < len → sg_in (B k) 0 255) : ∃ x, rd B len key 4000 0 (p2S B len) 0 0 = some x :=
  rd_tot hB 4000 0 (p2S B len) 0 0 (by decide) p2_ws (by
    have : rnk 0 = 20 := by decide
    omega)
theorem cP_5 {p : pSt} {nn nb : Nat} {v : Int32} (h : cP I0 I p nn nb) : cP (am_up I 72 5 v) (am_up I 72 5 v) p nn nb := by
  obtain ⟨h0, h1, h2, h3, h4, h5, h6, h7, h8, h9, h10⟩ := h
  refine ⟨ch_rfl, rfl, rfl, ?_, ?_, ?_, ?_, ?_, ?_, ?_, ?_⟩
  · rw [up_ne (by omega)]; exact h3
  · rw [up_ne (by omega)]; exact h4
  · rw [up_ne (by omega)]; exact h5
  · rw [up_ne (by omega)]; exact h6
  · rw [up_ne (by omega)]; exact h7
  · rw [up_ne (by omega)]; exact h8
  · rw [up_ne (by omega)]; exact h9
  · intro k hk; rw [up_ne (by omega)]; exact h10 k hk
set_option maxRecDepth 4000 in
theorem c_read (hT : tpB I B len) (hF : nmF I) (hY : ∀ j, j < 3 → ∀ i, i < lnK j → I (7 + j) i = kyW j i) (h0 : ∀ a I', txF B len a → ch (fun r => r = 72 ∨ r = 74) I I' → I' 72 2 = nI a → K (some (.ref 0)) (am_mk kt I' J T n s)) (h1 : ∀ key r I', txK B len key r → ch (fun r => r = 72 ∨ r = 74) I I' → I' 72 5 = nI key → I' 72 6 = nI r.2.2.2.2 → I' 72 10 = nI r.2.2.2.1.length → (∀ k, k < r.2.2.2.1.length → I' 74 k = r.2.2.2.1.getD k 0) → am_T am_C (42, 201, 73, [.ref 72], []) (am_mk kt I' J T n s) K) : am_T am_C (42, 201, 0, [.ref 72], []) (am_mk kt I J T n s) K := by
  have h96 := hT.1
  have hB : ∀ k, k < len → sg_in (B k) 0 255 := fun k hk => (hT.2.2 k hk).2
  obtain ⟨a, ea⟩ := nI_ex (I 72 2)
  obtain ⟨I1, e1⟩ : ∃ I1, I1 = am_up (am_up (am_up (am_up (am_up (am_up I 72 3 0) 72 4 (-1)) 72 6 0) 72 7 0) 72 8 0) 72 10 0 := ⟨_, rfl⟩
  have o1 : ch (fun r => r = 72 ∨ r = 74) I I1 := fun r hr => by
    have : r ≠ 72 := fun z => hr (.inl z)
    rw [e1, up_off this, up_off this, up_off this, up_off this, up_off this, up_off this]
  have cell : ∀ k, k ≠ 3 → k ≠ 4 → k ≠ 6 → k ≠ 7 → k ≠ 8 → k ≠ 10 → I1 72 k = I 72 k := fun k a1 a2 a3 a4 a5 a6 => by
    rw [e1, up_ne (by omega), up_ne (by omega), up_ne (by omega), up_ne (by omega), up_ne (by omega), up_ne (by omega)]
  have hT1 : tpB I1 B len := ⟨h96, (cell 1 (by omega) (by omega) (by omega) (by omega) (by omega) (by omega)).trans hT.2.1, fun k hk => by rw [o1 73 (by omega)]; exact hT.2.2 k hk⟩
  have c0 : cP I1 I1 (a, 0, -1, [], 0) 0 0 := by
    refine ⟨ch_rfl, rfl, rfl, ?_, ?_, ?_, ?_, ?_, ?_, ?_, fun k hk => absurd hk (Nat.not_lt_zero k)⟩
    · rw [cell 2 (by omega) (by omega) (by omega) (by omega) (by omega) (by omega)]; exact ea
    · rw [e1, up_ne (by omega), up_ne (by omega), up_ne (by omega), up_ne (by omega), up_ne (by omega), up_eq]; rfl
    · rw [e1, up_ne (by omega), up_ne (by omega), up_ne (by omega), up_ne (by omega), up_eq]
    · rw [e1, up_ne (by omega), up_ne (by omega), up_ne (by omega), up_eq]; rfl
    · rw [e1, up_ne (by omega), up_ne (by omega), up_eq]; rfl
    · rw [e1, up_ne (by omega), up_eq]; rfl
    · rw [e1, up_eq]; rfl
  have body : am_T am_C (42, 201, 30, [.ref 72], []) (am_mk kt I1 J T n s) K := by
    refine am_wq_T (cut := fun z pc => ((Nat.beq z 42 && Nat.beq pc 51) || (Nat.beq z 42 && Nat.beq pc 73))) (inl := fun z => !((Nat.beq z 43 || (Nat.beq z 45 || Nat.beq z 47)))) 120 _ _ _ ?_
    refine And.intro rfl (c_stepP (p := (a, 0, -1, [], 0)) hT1 (Nat.zero_le _) c0 fun I2 c2 => ?_)
    have c2' : cP I1 I2 (p1S B len) 0 0 := c2
    have w1 := p1_ws (B := B) (len := len)
    have hT2 := cP_T hT1 c2'
    have r2 : ∀ r, r < 20 → I2 r = I r := fun r hr => (c2'.1 r (by omega)).trans (o1 r (by omega))
    refine And.intro rfl (c_key hT2 (cP_s c2') w1.1 w1.2.1 (fun j hj i hi => by rw [r2 (7 + j) (by omega)]; exact hY j hj i hi) ?_)
    by_cases k3 : kyV B (p1S B len).1 (p1S B len).2.1 (p1S B len).2.2.1 = 3
    · rw [if_pos k3]
      have kk := h0 (p1S B len).1 (am_up I2 72 5 (-1)) (.inl ⟨k3, rfl⟩) (ch_tr (ch_tr (S := fun r => r = 72 ∨ r = 74) o1 c2'.1 fun r q => q.elim id id) (ch_up (P := fun r => r = 72 ∨ r = 74) (.inl rfl)) fun r q => q.elim id id) (by rw [up_ne (by omega)]; exact c2'.2.2.2.1)
      have m1 : ¬ (0 : Int32) ≤ -1 := by decide
      have g5 : ¬ 0 ≤ am_up I2 72 5 (-1) 72 5 := by rw [up_eq]; exact m1
      exact And.intro rfl (And.intro rfl (And.intro (fun z => absurd z g5) (fun _ => kk)))
    · rw [if_neg k3]
      have kl : kyV B (p1S B len).1 (p1S B len).2.1 (p1S B len).2.2.1 < 3 := by
        have := kyV_le (B := B) (a := (p1S B len).1) (e := (p1S B len).2.1) (g := (p1S B len).2.2.1)
        omega
      obtain ⟨ky, hky⟩ : ∃ ky, kyV B (p1S B len).1 (p1S B len).2.1 (p1S B len).2.2.1 = ky := ⟨_, rfl⟩
      rw [hky] at kl ⊢
      obtain ⟨I3, e3⟩ : ∃ I3, I3 = am_up I2 72 5 (nI ky) := ⟨_, rfl⟩
      have c3 : cP I3 I3 (p1S B len) 0 0 := by rw [e3]; exact cP_5 c2'
      have o3 : ch (fun r => r = 72 ∨ r = 74) I I3 := by
        rw [e3]
        exact ch_tr (ch_tr (S := fun r => r = 72 ∨ r = 74) o1 c2'.1 fun r q => q.elim id id) (ch_up (P := fun r => r = 72 ∨ r = 74) (.inl rfl)) fun r q => q.elim id id
      have k5 : I3 72 5 = nI ky := by rw [e3, up_eq]
      have g5 : 0 ≤ am_up I2 72 5 (nI ky) 72 5 := by rw [up_eq]; exact nI_pos' (by omega)
      have hT3 : tpB I3 B len := ⟨h96, by rw [e3, up_ne (by omega)]; exact hT2.2.1, fun k hk => by rw [e3, up_ne (by omega)]; exact hT2.2.2 k hk⟩
      have hF3 : nmF I3 := by
        unfold nmF
        rw [o3 10 (by omega), o3 11 (by omega), o3 12 (by omega)]
        exact hF
      have rest : am_T am_C (42, 201, 51, [.ref 72], []) (am_mk kt I3 J T n s) K := by
        refine am_wq_T (cut := fun z pc => (Nat.beq z 42 && Nat.beq pc 73)) (inl := fun z => !((Nat.beq z 43 || (Nat.beq z 45 || Nat.beq z 47)))) 120 _ _ _ ?_
        refine And.intro rfl (c_stepP (p := p1S B len) hT3 w1.2.1 c3 fun I4 c4 => ?_)
        obtain ⟨⟨b, r⟩, hr⟩ := tx_tot (B := B) (len := len) (key := ky) h96 hB
        have o4 : ∀ I5, ch (fun r => r = 72 ∨ r = 74) I3 I5 → ch (fun r => r = 72 ∨ r = 74) I I5 := fun I5 h => ch_tr o3 h fun r q => q.elim id id
        refine And.intro rfl (And.left (c_rd hT3 kl k5 hF3 4000 0 (p2S B len) 0 0 b r hr (by decide) p2_ws (by decide) (by decide) (Nat.zero_le _) I4 200 _ c4 (by decide) (fun I5 o => ?_)) (by decide))
        cases b with
        | false => exact And.intro (fun _ => h0 r.1 I5 (.inr ⟨ky, false, r, kl, hky, hr, .inl rfl, rfl⟩) (o4 I5 o.1) o.2) (fun z => absurd rfl z)
        | true =>
          have o' : cP I3 I5 r 0 0 := o
          have s4 : I5 72 4 = r.2.2.1 := o'.2.2.2.2.2.1
          by_cases d : r.2.2.1 = -1
          · have kk := h1 ky r I5 ⟨kl, hky, hr, d⟩ (o4 I5 o'.1) (o'.2.2.1.trans k5) o'.2.2.2.2.2.2.1 o'.2.2.2.2.2.2.2.2.2.1 o'.2.2.2.2.2.2.2.2.2.2
            exact And.intro (fun z => absurd z m1z) (fun _ => And.intro rfl (And.intro (fun _ => kk) (fun z => absurd (s4.trans d) z)))
          · have kk := h0 r.1 I5 (.inr ⟨ky, true, r, kl, hky, hr, .inr d, rfl⟩) (o4 I5 o'.1) o'.2.2.2.1
            exact And.intro (fun z => absurd z m1z) (fun _ => And.intro rfl (And.intro (fun z => absurd (s4.symm.trans z) d) (fun _ => kk)))
      rw [e3] at rest
      exact And.intro rfl (And.intro rfl (And.intro (fun _ => rest) (fun z => absurd g5 z)))
  rw [e1] at body
  refine am_wq_T (cut := fun z pc => ((Nat.beq z 42 && Nat.beq pc 30) || ((Nat.beq z 42 && Nat.beq pc 51) || (Nat.beq z 42 && Nat.beq pc 73)))) (inl := fun z => !((Nat.beq z 43 || (Nat.beq z 45 || Nat.beq z 47)))) 120 _ _ _ ?_
  exact And.intro rfl (And.intro rfl (And.intro rfl (And.intro rfl (And.intro rfl (And.intro rfl body)))))
end T99
