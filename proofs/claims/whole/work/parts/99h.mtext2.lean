/-! text: the reference, whole -/
section T99h
variable {kt : Nat → Nat × Nat} {I I' I0 : Nat → Nat → Int32} {J J' : Nat → Nat → Int64} {T T' : Nat → Nat → Nat} {n s : Nat} {K : Option Value → am_M → Prop} {m t tc key : Nat} {B : Nat → Int32} {len : Nat} {p : Int32} {cs : List Int32}
/-- what the reading may change -/
def mQ (I I' : Nat → Nat → Int32) : Prop := ch (fun r => r = 107 ∨ r = 120 ∨ r = 121 ∨ r = 122) I I' ∧ (∀ k, ¬ (11 ≤ k ∧ k < 25) → I' 107 k = I 107 k)
theorem mQ_up {k : Nat} {v : Int32} (hk : 11 ≤ k ∧ k < 25) (h : mQ I I') : mQ I (am_up I' 107 k v) := ⟨ch_tr (S := fun r => r = 107 ∨ r = 120 ∨ r = 121 ∨ r = 122) h.1 (ch_up (P := fun r => r = 107) rfl) fun r q => q.elim id .inl, fun x hx => by rw [up_ne (by omega)]; exact h.2 x hx⟩
theorem mQ_ch (h : mQ I I0) (h1 : ch (fun r => r = 107 ∨ r = 120 ∨ r = 121 ∨ r = 122) I0 I') (h2 : ∀ k, ¬ (11 ≤ k ∧ k < 25) → I' 107 k = I0 107 k) : mQ I I' := ⟨ch_tr (S := fun r => r = 107 ∨ r = 120 ∨ r = 121 ∨ r = 122) h.1 h1 fun r q => q.elim id id, fun x hx => (h2 x hx).trans (h.2 x hx)⟩
set_option maxRecDepth 4000 in
theorem m_text (hT : tpS I B len) (h118 : ∀ i, i < 13 → I 118 i = sg_keys i) (h119 : ∀ i, i < 4 → I 119 i = sg_keyAt i) (h0 : ∀ a I', txF B len a → mQ I I' → I' 107 11 = 0 → K (some (.int (-100 - nI a))) (am_mk kt I' J T n s)) (h1 : ∀ key r I', txK B len key r → mQ I I' → I' 107 11 = 0 → I' 107 17 = nI key → I' 107 21 = nI r.2.2.2.1.length → I' 107 22 = nI r.2.2.2.2 → (∀ k, k < r.2.2.2.1.length → I' 120 k = sg_tr (r.2.2.2.1.getD k 0)) → am_T am_C (183, 4, 51, [.ref 107, .int 1, .null, .null], []) (am_mk kt I' J T n s) K) : am_T am_C (183, 4, 0, [.ref 107, .null, .null, .null], []) (am_mk kt I J T n s) K := by
  have h96 := hT.1
  have hB : ∀ k, k < len → sg_in (B k) 0 255 := fun k hk => (hT.2.2 k hk).2
  have one : ¬ (1 : Int32) = 0 := by decide
  obtain ⟨I1, e1⟩ : ∃ I1, I1 = am_up (am_up I 107 12 0) 107 16 (-1) := ⟨_, rfl⟩
  have q1 : mQ I I1 := by
    rw [e1]
    exact mQ_up (by omega) (mQ_up (by omega) ⟨ch_rfl, fun _ _ => rfl⟩)
  have hT1 : tpS I1 B len := ⟨h96, by rw [e1, up_ne (by omega), up_ne (by omega)]; exact hT.2.1, fun k hk => by rw [q1.1 117 (by decide)]; exact hT.2.2 k hk⟩
  have hs : rc I1 I1 (nI 0) (I1 107 13) (I1 107 14) (I1 107 15) (-1) := ⟨ch_rfl, fun _ _ => rfl, by rw [e1, up_ne (by omega), up_eq]; rfl, rfl, rfl, rfl, by rw [e1, up_eq]⟩
  have hE : rsE 0 (-1) (-1) := ⟨fun z => absurd z (by decide), fun _ z _ hz q => nI_nm1 hz q.symm⟩
  have w1 := p1_ws (B := B) (len := len)
  have body : am_T am_C (183, 4, 10, [.ref 107, .null, .null, .null], []) (am_mk kt I1 J T n s) K := by
    refine am_wq_T (cut := fun z pc => ((Nat.beq z 183 && Nat.beq pc 10) || (Nat.beq z 183 && Nat.beq pc 51))) (inl := fun z => !((Nat.beq z 174 || (Nat.beq z 175 || Nat.beq z 181)))) 120 _ _ _ ?_
    refine And.intro rfl (m_go hT1 (Nat.zero_le _) hs hE fun I2 tk vl en a1 a2 a3 => ?_)
    have q2 : mQ I I2 := mQ_ch q1 (fun r hr => a1.1 r fun z => hr (.inl z)) (fun k hk => a1.2.1 k (by omega))
    refine And.intro rfl (m_key (e := (p1S B len).2.1) (a := (p1S B len).1) (g := (p1S B len).2.2.1) hT1 a1 a2 a3 w1.1 w1.2.1 (fun i hi => by rw [q1.1 118 (by decide)]; exact h118 i hi) (fun i hi => by rw [q1.1 119 (by decide)]; exact h119 i hi) (fun k3 => ?_) (fun I3 tk' vl' en' k3 b1 b2 b3 => ?_))
    · have kk := h0 (p1S B len).1 (am_up I2 107 11 0) (.inl ⟨k3, rfl⟩) (mQ_up (by omega) q2) (up_eq ..)
      have e : am_up I2 107 11 0 107 13 = nI (p1S B len).1 := by rw [up_ne (by omega)]; exact a1.2.2.2.1
      rw [← e] at kk
      exact And.intro (fun _ => And.intro rfl (And.intro (fun z => absurd rfl z) (fun _ => And.intro rfl kk))) (fun z => absurd rfl z)
    · obtain ⟨ky, hky⟩ : ∃ ky, kyV B (p1S B len).1 (p1S B len).2.1 (p1S B len).2.2.1 = ky := ⟨_, rfl⟩
      rw [hky] at k3 b1
      have hT2 : tpS (am_up I1 107 17 (nI ky)) B len := ⟨h96, by rw [up_ne (by omega)]; exact hT1.2.1, fun k hk => by rw [up_ne (by omega)]; exact hT1.2.2 k hk⟩
      have q3 : mQ I (am_up I1 107 17 (nI ky)) := mQ_up (by omega) q1
      obtain ⟨⟨b, r⟩, hr⟩ := tx_tot (B := B) (len := len) (key := ky) h96 hB
      refine And.intro (fun z => absurd z one) (fun _ => And.intro rfl (m_TE (p := p2S B len) hT2 k3 (up_eq ..) b1 b2 b3 p2_ws rfl rfl hr (fun d I4 c1 c2 c3 => ?_) (fun d1 d2 I4 c => ?_)))
      · have kk := h0 r.1 (am_up I4 107 11 0) (.inr ⟨ky, b, r, k3, hky, hr, d, rfl⟩) (mQ_up (by omega) (mQ_ch q3 c1 fun k hk => c2 k (by omega) (by omega) (by omega) (by omega))) (up_eq ..)
        have e : am_up I4 107 11 0 107 13 = nI r.1 := by rw [up_ne (by omega)]; exact c3
        rw [← e] at kk
        exact And.intro (fun _ => And.intro rfl (And.intro (fun z => absurd rfl z) (fun _ => And.intro rfl kk))) (fun z => absurd rfl z)
      · subst d1
        have kk := h1 ky r (am_up I4 107 11 0) ⟨k3, hky, hr, d2⟩ (mQ_up (by omega) (mQ_ch q3 c.1 fun k hk => c.2.1 k (by omega) (by omega) (by omega) (by omega))) (up_eq ..) (by rw [up_ne (by omega), c.2.1 17 (by omega) (by omega) (by omega) (by omega), up_eq]) (by rw [up_ne (by omega), c.2.2.2.2.2.2.1, List.length_map]) (by rw [up_ne (by omega)]; exact c.2.2.2.2.2.2.2.1) (fun k hk => by
          rw [up_ne (by omega), c.2.2.2.2.2.2.2.2.2.1 k (by rw [List.length_map]; exact hk)]
          rw [List.getD_eq_getElem?_getD, List.getElem?_map, List.getElem?_eq_getElem hk, List.getD_eq_getElem?_getD, List.getElem?_eq_getElem hk]
          rfl)
        exact And.intro (fun z => absurd z one) (fun _ => And.intro rfl (And.intro (fun _ => kk) (fun z => absurd one z)))
  rw [e1] at body
  refine am_wq_T (cut := fun z pc => ((Nat.beq z 183 && Nat.beq pc 10) || (Nat.beq z 183 && Nat.beq pc 51))) (inl := fun z => !((Nat.beq z 174 || (Nat.beq z 175 || Nat.beq z 181)))) 120 _ _ _ ?_
  exact And.intro rfl (And.intro rfl body)
theorem tx_FF {a b : Nat} (h : txF B len a) (h' : txF B len b) : a = b := by
  rcases h with ⟨h1, h2⟩ | ⟨k1, b1, r1, x1, x2, x3, x4, x5⟩
  · rcases h' with ⟨y1, y2⟩ | ⟨k2, b2, r2, y1, y2, y3, y4, y5⟩
    · rw [h2, y2]
    · omega
  · rcases h' with ⟨y1, y2⟩ | ⟨k2, b2, r2, y1, y2, y3, y4, y5⟩
    · omega
    · have e : k1 = k2 := x2.symm.trans y2
      subst e
      have e2 := Prod.mk.inj (Option.some.inj (x3.symm.trans y3))
      rw [x5, y5, e2.2]
theorem tx_FK {a : Nat} {r : pSt} (h : txF B len a) (h' : txK B len key r) : False := by
  obtain ⟨y1, y2, y3, y4⟩ := h'
  rcases h with ⟨h1, h2⟩ | ⟨k1, b1, r1, x1, x2, x3, x4, x5⟩
  · omega
  · have e : k1 = key := x2.symm.trans y2
    subst e
    have e2 := Prod.mk.inj (Option.some.inj (x3.symm.trans y3))
    rcases x4 with z | z
    · rw [e2.1] at z
      exact absurd z (by decide)
    · rw [e2.2] at z
      exact z y4
theorem tx_KK {k2 : Nat} {r r2 : pSt} (h : txK B len key r) (h' : txK B len k2 r2) : key = k2 ∧ r = r2 := by
  obtain ⟨y1, y2, y3, y4⟩ := h'
  obtain ⟨x1, x2, x3, x4⟩ := h
  have e : key = k2 := x2.symm.trans y2
  subst e
  exact ⟨rfl, (Prod.mk.inj (Option.some.inj (x3.symm.trans y3))).2⟩
end T99h
