/-! the instructions of arrays, of new cells -/
section AM8
variable {tb : am_Tb} {cc : ByteArray} {own : String} {mL : Nat} {rt : Option FieldType} {ini : Bool} {pc : Nat}
theorem am_newarrI (M : am_M) (g' : Nat → Nat) (cA' : Nat → ClassId) (t len : Nat) (h1 : 20 ≤ t) (h2 : t < 24) : am_e g' cA' (am_new M t len) (am_n M) = .inl (cA' (am_n M), (len, .inl (fun _ => 0))) := by
  have hK : am_K (am_new M t len) (am_n M) = (t, len) := if_pos rfl
  rw [am_e_int (t := t) (by rw [hK]) h1 h2, hK, show am_I (am_new M t len) (am_n M) = fun _ => 0 by funext j; exact if_pos rfl]
theorem am_newarrJ (M : am_M) (g' : Nat → Nat) (cA' : Nat → ClassId) (len : Nat) : am_e g' cA' (am_new M 24 len) (am_n M) = .inl (cA' (am_n M), (len, .inr (.inl (fun _ => 0)))) := by
  have hK : am_K (am_new M 24 len) (am_n M) = (24, len) := if_pos rfl
  rw [am_e_long (by rw [hK]), hK, show am_J (am_new M 24 len) (am_n M) = fun _ => 0 by funext j; exact if_pos rfl]
theorem am_newarrR (M : am_M) (g' : Nat → Nat) (cA' : Nat → ClassId) (t len : Nat) (h1 : 30 ≤ t) : am_e g' cA' (am_new M t len) (am_n M) = .inl (cA' (am_n M), (len, .inr (.inr (.inr (.inr (fun _ => none)))))) := by
  have hK : am_K (am_new M t len) (am_n M) = (t, len) := if_pos rfl
  rw [am_e_ref (t := t) (by rw [hK]) h1, hK, show am_R (am_new M t len) (am_n M) = fun _ => 0 by funext j; exact if_pos rfl]
  rfl
theorem am_newo (M : am_M) (g' : Nat → Nat) (cA' : Nat → ClassId) (ci N : Nat) (h : ci < 20) (hdf : ∀ k, k < N → defaultValue (am_ty ci k) = match am_ty ci k with | .long => .long 0 | .object _ => .null | .array _ => .null | _ => .int 0) : am_e g' cA' (am_new M ci N) (am_n M) = .inr (ci, (List.range N).map (fun k => defaultValue (am_ty ci k))) := by
  have hK : am_K (am_new M ci N) (am_n M) = (ci, N) := if_pos rfl
  rw [am_e_obj hK h]
  unfold am_fs
  congr 2
  apply List.map_congr_left
  intro k hk
  rw [hdf k (List.mem_range.mp hk)]
  unfold am_fv
  rw [show am_R (am_new M ci N) (am_n M) k = 0 from if_pos rfl, show am_I (am_new M ci N) (am_n M) k = 0 from if_pos rfl, show am_J (am_new M ci N) (am_n M) k = 0 from if_pos rfl]
  cases am_ty ci k <;> rfl
theorem ok_iald {np : Nat} (hd : decode cc pc = .ok (.iaload, 1)) (hn : np = pc + 1) : am_ok tb cc own mL rt ini pc (o_iald 20 np) := by
  intro X f M hF hpc
  obtain ⟨p, l, e, R, s, m, args, below, meth, c, Q, L, xs, D, A, n0, s0, γ0, N', S⟩ := X
  obtain ⟨hx, hb, hml, hown, hts, hlk, hini, hNc, hSc⟩ := hF
  obtain ⟨z, b, pc', l', st⟩ := f
  dsimp only at hpc
  subst hpc
  unfold o_iald
  dsimp only
  split
  · rename_i i a r
    subst hn
    refine ⟨Nat.le_refl _, Nat.le_refl _, fun hp hle1 hle2 hG γ g cA tys H locs ls hR hl hc hγ h1 h2 h3 h4 h5 h6 => ?_⟩
    have hp : (am_K M a).1 = 20 ∧ vp_in i (am_K M a).2 := hp
    obtain ⟨a1, a2⟩ := hR.2.2.2.2.2.2.2.1.own (a := a) (by rw [hp.1]; decide)
    have hga := hR.2.2.2.2.2.2.1 a a1
    have he := am_ws_get (g := g) (cA := cA) (M := M) a1 a2
    rw [am_e_int hp.1 (by decide) (by decide)] at he
    obtain ⟨t0, ht0⟩ := hR.2.2.2.2.2.2.2.2 a a1 a2 (by rw [hp.1]; decide)
    rw [hp.1] at ht0
    have k9 := (hG γ g cA tys H locs ls hR hl ⟨hc.1, am_cn1 trivial (am_tl (am_tl hc.2))⟩ hγ h1 h2 h3 h4 h5 h6)
    simp only [List.map_cons, am_cv, hga] at k9 ⊢
    exact va_iald (D := D) (cl := am_cl) hx hb hR.1 hR.2.1 (a - 20) t0 he ht0 hp.2 hd k9
  · trivial
theorem ok_zald {np : Nat} (hd : decode cc pc = .ok (.baload, 1)) (hn : np = pc + 1) : am_ok tb cc own mL rt ini pc (o_iald 21 np) := by
  intro X f M hF hpc
  obtain ⟨p, l, e, R, s, m, args, below, meth, c, Q, L, xs, D, A, n0, s0, γ0, N', S⟩ := X
  obtain ⟨hx, hb, hml, hown, hts, hlk, hini, hNc, hSc⟩ := hF
  obtain ⟨z, b, pc', l', st⟩ := f
  dsimp only at hpc
  subst hpc
  unfold o_iald
  dsimp only
  split
  · rename_i i a r
    subst hn
    refine ⟨Nat.le_refl _, Nat.le_refl _, fun hp hle1 hle2 hG γ g cA tys H locs ls hR hl hc hγ h1 h2 h3 h4 h5 h6 => ?_⟩
    have hp : (am_K M a).1 = 21 ∧ vp_in i (am_K M a).2 := hp
    obtain ⟨a1, a2⟩ := hR.2.2.2.2.2.2.2.1.own (a := a) (by rw [hp.1]; decide)
    have hga := hR.2.2.2.2.2.2.1 a a1
    have he := am_ws_get (g := g) (cA := cA) (M := M) a1 a2
    rw [am_e_int hp.1 (by decide) (by decide)] at he
    obtain ⟨t0, ht0⟩ := hR.2.2.2.2.2.2.2.2 a a1 a2 (by rw [hp.1]; decide)
    rw [hp.1] at ht0
    have k9 := (hG γ g cA tys H locs ls hR hl ⟨hc.1, am_cn1 trivial (am_tl (am_tl hc.2))⟩ hγ h1 h2 h3 h4 h5 h6)
    simp only [List.map_cons, am_cv, hga] at k9 ⊢
    exact va_zald (D := D) (cl := am_cl) hx hb hR.1 hR.2.1 (a - 20) t0 he ht0 hp.2 hd k9
  · trivial
theorem ok_cald {np : Nat} (hd : decode cc pc = .ok (.caload, 1)) (hn : np = pc + 1) : am_ok tb cc own mL rt ini pc (o_iald 23 np) := by
  intro X f M hF hpc
  obtain ⟨p, l, e, R, s, m, args, below, meth, c, Q, L, xs, D, A, n0, s0, γ0, N', S⟩ := X
  obtain ⟨hx, hb, hml, hown, hts, hlk, hini, hNc, hSc⟩ := hF
  obtain ⟨z, b, pc', l', st⟩ := f
  dsimp only at hpc
  subst hpc
  unfold o_iald
  dsimp only
  split
  · rename_i i a r
    subst hn
    refine ⟨Nat.le_refl _, Nat.le_refl _, fun hp hle1 hle2 hG γ g cA tys H locs ls hR hl hc hγ h1 h2 h3 h4 h5 h6 => ?_⟩
    have hp : (am_K M a).1 = 23 ∧ vp_in i (am_K M a).2 := hp
    obtain ⟨a1, a2⟩ := hR.2.2.2.2.2.2.2.1.own (a := a) (by rw [hp.1]; decide)
    have hga := hR.2.2.2.2.2.2.1 a a1
    have he := am_ws_get (g := g) (cA := cA) (M := M) a1 a2
    rw [am_e_int hp.1 (by decide) (by decide)] at he
    obtain ⟨t0, ht0⟩ := hR.2.2.2.2.2.2.2.2 a a1 a2 (by rw [hp.1]; decide)
    rw [hp.1] at ht0
    have k9 := (hG γ g cA tys H locs ls hR hl ⟨hc.1, am_cn1 trivial (am_tl (am_tl hc.2))⟩ hγ h1 h2 h3 h4 h5 h6)
    simp only [List.map_cons, am_cv, hga] at k9 ⊢
    exact va_cald (D := D) (cl := am_cl) hx hb hR.1 hR.2.1 (a - 20) t0 he ht0 hp.2 hd k9
  · trivial
theorem ok_lald {np : Nat} (hd : decode cc pc = .ok (.laload, 1)) (hn : np = pc + 1) : am_ok tb cc own mL rt ini pc (o_lald 24 np) := by
  intro X f M hF hpc
  obtain ⟨p, l, e, R, s, m, args, below, meth, c, Q, L, xs, D, A, n0, s0, γ0, N', S⟩ := X
  obtain ⟨hx, hb, hml, hown, hts, hlk, hini, hNc, hSc⟩ := hF
  obtain ⟨z, b, pc', l', st⟩ := f
  dsimp only at hpc
  subst hpc
  unfold o_lald
  dsimp only
  split
  · rename_i i a r
    subst hn
    refine ⟨Nat.le_refl _, Nat.le_refl _, fun hp hle1 hle2 hG γ g cA tys H locs ls hR hl hc hγ h1 h2 h3 h4 h5 h6 => ?_⟩
    have hp : (am_K M a).1 = 24 ∧ vp_in i (am_K M a).2 := hp
    obtain ⟨a1, a2⟩ := hR.2.2.2.2.2.2.2.1.own (a := a) (by rw [hp.1]; decide)
    have hga := hR.2.2.2.2.2.2.1 a a1
    have he := am_ws_get (g := g) (cA := cA) (M := M) a1 a2
    rw [am_e_long hp.1] at he
    obtain ⟨t0, ht0⟩ := hR.2.2.2.2.2.2.2.2 a a1 a2 (by rw [hp.1]; decide)
    rw [hp.1] at ht0
    have k9 := (hG γ g cA tys H locs ls hR hl ⟨hc.1, am_cn1 trivial (am_tl (am_tl hc.2))⟩ hγ h1 h2 h3 h4 h5 h6)
    simp only [List.map_cons, am_cv, hga] at k9 ⊢
    exact va_lald (D := D) (cl := am_cl) hx hb hR.1 hR.2.1 (a - 20) t0 he ht0 hp.2 hd k9
  · trivial
theorem ok_aald {ci np : Nat} {C : String} (hd : decode cc pc = .ok (.aaload, 1)) (hci : ci < 9) (hty : am_et (30 + ci) = .object C) (hn : np = pc + 1) : am_ok tb cc own mL rt ini pc (o_aald (30 + ci) np) := by
  intro X f M hF hpc
  obtain ⟨p, l, e, R, s, m, args, below, meth, c, Q, L, xs, D, A, n0, s0, γ0, N', S⟩ := X
  obtain ⟨hx, hb, hml, hown, hts, hlk, hini, hNc, hSc⟩ := hF
  obtain ⟨z, b, pc', l', st⟩ := f
  dsimp only at hpc
  subst hpc
  unfold o_aald
  dsimp only
  split
  · rename_i i a r
    subst hn
    refine ⟨Nat.le_refl _, Nat.le_refl _, fun hp hle1 hle2 hG γ g cA tys H locs ls hR hl hc hγ h1 h2 h3 h4 h5 h6 => ?_⟩
    have hp : (am_K M a).1 = 30 + ci ∧ vp_in i (am_K M a).2 := hp
    obtain ⟨a1, a2⟩ := hR.2.2.2.2.2.2.2.1.own (a := a) (by rw [hp.1]; omega)
    have hga := hR.2.2.2.2.2.2.1 a a1
    have he := am_ws_get (g := g) (cA := cA) (M := M) a1 a2
    rw [am_e_ref hp.1 (by omega)] at he
    obtain ⟨t0, ht0⟩ := hR.2.2.2.2.2.2.2.2 a a1 a2 (by rw [hp.1]; omega)
    rw [hp.1, hty] at ht0
    have hrc := hR.2.2.2.2.2.2.2.1.2.2.2.2 a i.toNatClampNeg
    have hv : γ (am_R M a i.toNatClampNeg) = va_rf (am_opt g (am_R M a i.toNatClampNeg)) := am_γR hR.2.2.2.2.2.1 hR.2.2.2.2.2.2.1 hrc
    have k9 := (hG γ g cA tys H locs ls hR hl ⟨hc.1, am_cn1 (show am_R M a i.toNatClampNeg < am_n M ∧ am_R M a i.toNatClampNeg ≠ 16 from ⟨by have := hR.2.2.2.2.2.2.2.1.1; omega, by omega⟩) (am_tl (am_tl hc.2))⟩ hγ h1 h2 h3 h4 h5 h6)
    simp only [List.map_cons, am_cv, hga, hv] at k9 ⊢
    exact va_aldq (D := D) (cl := am_cl) hx hb hR.1 hR.2.1 (a - 20) t0 he ht0 hp.2 hd k9
  · trivial
theorem am_foI {L : Nat} {xs : Nat → Int32} {γ : Nat → Value} {A : Nat → Prop} {s : State} {M : am_M} (h : am_Fo L xs γ A s s.heap) (hw : am_Wf L xs M) {a : Nat} (ha : (am_K M a).1 = 50) : ∃ t, γ a = .ref t ∧ va_T .int t (am_K M a).2 (fun j => .int (am_I M a j)) A s s.heap := by
  obtain ⟨adK, adV, tS, tA, tD, q1, q2, ⟨q3, q3'⟩, ⟨q4, q4', -⟩, -⟩ := h
  have hlt : a < 20 := by
    rcases Nat.lt_or_ge a 20 with q | q
    · exact q
    · rcases Nat.lt_or_ge a (am_n M) with q2 | q2
      · rcases hw.2.2.2.1 a q q2 with ⟨x, hx, -⟩ | z | z
        · have := (List.getElem?_eq_some_iff.mp hx).1
          rw [ha] at this
          exact absurd this (by decide)
        · omega
        · omega
      · rw [hw.2.1 a q2] at ha; exact absurd ha (by decide)
  obtain ⟨k1, k2, -⟩ := hw.2.2.1 a hlt
  have hcase : a = 13 ∨ a = 14 := by
    rw [k1] at ha
    unfold am_fK at ha
    by_cases e1 : 1 ≤ a ∧ a ≤ 6
    · rw [if_pos e1] at ha; exact absurd (show (40 : Nat) = 50 from ha) (by decide)
    · rw [if_neg e1] at ha
      by_cases e2 : 7 ≤ a ∧ a ≤ 12
      · rw [if_pos e2] at ha; exact absurd (show (52 : Nat) = 50 from ha) (by decide)
      · rw [if_neg e2] at ha
        by_cases e3 : a = 13
        · exact Or.inl e3
        · rw [if_neg e3] at ha
          by_cases e4 : a = 14
          · exact Or.inr e4
          · rw [if_neg e4] at ha
            by_cases e5 : a = 15
            · rw [if_pos e5] at ha; exact absurd (show (54 : Nat) = 50 from ha) (by decide)
            · rw [if_neg e5] at ha; exact absurd ha (by decide)
  rcases hcase with rfl | rfl
  · refine ⟨tS, q3, ?_⟩
    rw [k1, k2]
    exact q3'
  · refine ⟨tA, q4, ?_⟩
    rw [k1, k2]
    exact q4'
theorem am_foJ {L : Nat} {xs : Nat → Int32} {γ : Nat → Value} {A : Nat → Prop} {s : State} {M : am_M} (h : am_Fo L xs γ A s s.heap) (hw : am_Wf L xs M) {a : Nat} (ha : (am_K M a).1 = 54) : ∃ t, γ a = .ref t ∧ va_T .long t (am_K M a).2 (fun j => .long (am_J M a j)) A s s.heap := by
  obtain ⟨adK, adV, tS, tA, tD, q1, q2, -, -, ⟨q5, q5', -⟩, -⟩ := h
  have hlt : a < 20 := by
    rcases Nat.lt_or_ge a 20 with q | q
    · exact q
    · rcases Nat.lt_or_ge a (am_n M) with q2 | q2
      · rcases hw.2.2.2.1 a q q2 with ⟨x, hx, -⟩ | z | z
        · have := (List.getElem?_eq_some_iff.mp hx).1
          rw [ha] at this
          exact absurd this (by decide)
        · omega
        · omega
      · rw [hw.2.1 a q2] at ha; exact absurd ha (by decide)
  obtain ⟨k1, -, k2⟩ := hw.2.2.1 a hlt
  have hcase : a = 15 := by
    rw [k1] at ha
    unfold am_fK at ha
    by_cases e1 : 1 ≤ a ∧ a ≤ 6
    · rw [if_pos e1] at ha; exact absurd (show (40 : Nat) = 54 from ha) (by decide)
    · rw [if_neg e1] at ha
      by_cases e2 : 7 ≤ a ∧ a ≤ 12
      · rw [if_pos e2] at ha; exact absurd (show (52 : Nat) = 54 from ha) (by decide)
      · rw [if_neg e2] at ha
        by_cases e3 : a = 13
        · rw [if_pos e3] at ha; exact absurd (show (50 : Nat) = 54 from ha) (by decide)
        · rw [if_neg e3] at ha
          by_cases e4 : a = 14
          · rw [if_pos e4] at ha; exact absurd (show (50 : Nat) = 54 from ha) (by decide)
          · rw [if_neg e4] at ha
            by_cases e5 : a = 15
            · exact e5
            · rw [if_neg e5] at ha; exact absurd ha (by decide)
  subst hcase
  refine ⟨tD, q5, ?_⟩
  rw [k1, k2]
  exact q5'
theorem am_foB {L : Nat} {xs : Nat → Int32} {γ : Nat → Value} {A : Nat → Prop} {s : State} {M : am_M} (h : am_Fo L xs γ A s s.heap) (hw : am_Wf L xs M) {a : Nat} (ha : (am_K M a).1 = 52) : ∃ t, γ a = .ref t ∧ va_T .byte t (am_K M a).2 (fun j => .int (am_I M a j)) A s s.heap := by
  obtain ⟨adK, adV, tS, tA, tD, q1, q2, -⟩ := h
  have hlt : a < 20 := by
    rcases Nat.lt_or_ge a 20 with q | q
    · exact q
    · rcases Nat.lt_or_ge a (am_n M) with q2 | q2
      · rcases hw.2.2.2.1 a q q2 with ⟨x, hx, -⟩ | z | z
        · have := (List.getElem?_eq_some_iff.mp hx).1
          rw [ha] at this
          exact absurd this (by decide)
        · omega
        · omega
      · rw [hw.2.1 a q2] at ha; exact absurd ha (by decide)
  obtain ⟨k1, k2, -⟩ := hw.2.2.1 a hlt
  have hcase : 7 ≤ a ∧ a ≤ 12 := by
    rw [k1] at ha
    unfold am_fK at ha
    by_cases e1 : 1 ≤ a ∧ a ≤ 6
    · rw [if_pos e1] at ha; exact absurd (show (40 : Nat) = 52 from ha) (by decide)
    · rw [if_neg e1] at ha
      by_cases e2 : 7 ≤ a ∧ a ≤ 12
      · exact e2
      · rw [if_neg e2] at ha
        by_cases e3 : a = 13
        · rw [if_pos e3] at ha; exact absurd (show (50 : Nat) = 52 from ha) (by decide)
        · rw [if_neg e3] at ha
          by_cases e4 : a = 14
          · rw [if_pos e4] at ha; exact absurd (show (50 : Nat) = 52 from ha) (by decide)
          · rw [if_neg e4] at ha
            by_cases e5 : a = 15
            · rw [if_pos e5] at ha; exact absurd (show (54 : Nat) = 52 from ha) (by decide)
            · rw [if_neg e5] at ha; exact absurd ha (by decide)
  obtain ⟨i, hi, rfl⟩ : ∃ i, i < 6 ∧ a = 7 + i := ⟨a - 7, by omega, by omega⟩
  refine ⟨adV i, (q2 i hi).2.1, ?_⟩
  have h3 := (q1.1 i hi).2.2.2
  rw [k1, k2, show am_fK L (7 + i) = (52, am_lens.getD (7 + i - 7) 0) by unfold am_fK; rw [if_neg (by omega), if_pos (by omega)], show am_fI xs (7 + i) = fun j => (am_byts.getD (7 + i - 7) []).getD j 0 by funext j; unfold am_fI; rw [if_pos (by omega)]]
  rw [show 7 + i - 7 = i by omega]
  exact h3
theorem ok_ialdF {np : Nat} (hd : decode cc pc = .ok (.iaload, 1)) (hn : np = pc + 1) : am_ok tb cc own mL rt ini pc (o_iald 50 np) := by
  intro X f M hF hpc
  obtain ⟨p, l, e, R, s, m, args, below, meth, c, Q, L, xs, D, A, n0, s0, γ0, N', S⟩ := X
  obtain ⟨hx, hb, hml, hown, hts, hlk, hini, hNc, hSc⟩ := hF
  obtain ⟨z, b, pc', l', st⟩ := f
  dsimp only at hpc
  subst hpc
  unfold o_iald
  dsimp only
  split
  · rename_i i a r
    subst hn
    refine ⟨Nat.le_refl _, Nat.le_refl _, fun hp hle1 hle2 hG γ g cA tys H locs ls hR hl hc hγ h1 h2 h3 h4 h5 h6 => ?_⟩
    have hp : (am_K M a).1 = 50 ∧ vp_in i (am_K M a).2 := hp
    obtain ⟨t, hga, cell, f1, f2, f3, f4, f5, f6, f7⟩ := am_foI hR.2.2.2.2.2.1 hR.2.2.2.2.2.2.2.1 hp.1
    have hlt : i.toNatClampNeg < (am_K M a).2 := Nat.not_le.mp fun q => hp.2 (Or.inr q)
    have k9 := (hG γ g cA tys H locs ls hR hl ⟨hc.1, am_cn1 trivial (am_tl (am_tl hc.2))⟩ hγ h1 h2 h3 h4 h5 h6)
    simp only [List.map_cons, am_cv, hga] at k9 ⊢
    exact W.iald (v := .int (am_I M a i.toNatClampNeg)) hx hb (by rw [hR.2.2.2.1.2.1 t (Array.getElem?_eq_some_iff.mp f1).1 f7]; exact f1) f2 f3 (fun q => q.elim (fun z => hp.2 (Or.inl z)) (fun z => absurd (Nat.lt_of_lt_of_le hlt f4) (Nat.not_lt.mpr z))) (f6 _ hlt) rfl rfl hd k9
  · trivial
theorem ok_baldF {np : Nat} (hd : decode cc pc = .ok (.baload, 1)) (hn : np = pc + 1) : am_ok tb cc own mL rt ini pc (o_iald 52 np) := by
  intro X f M hF hpc
  obtain ⟨p, l, e, R, s, m, args, below, meth, c, Q, L, xs, D, A, n0, s0, γ0, N', S⟩ := X
  obtain ⟨hx, hb, hml, hown, hts, hlk, hini, hNc, hSc⟩ := hF
  obtain ⟨z, b, pc', l', st⟩ := f
  dsimp only at hpc
  subst hpc
  unfold o_iald
  dsimp only
  split
  · rename_i i a r
    subst hn
    refine ⟨Nat.le_refl _, Nat.le_refl _, fun hp hle1 hle2 hG γ g cA tys H locs ls hR hl hc hγ h1 h2 h3 h4 h5 h6 => ?_⟩
    have hp : (am_K M a).1 = 52 ∧ vp_in i (am_K M a).2 := hp
    obtain ⟨t, hga, cell, f1, f2, f3, f4, f5, f6, f7⟩ := am_foB hR.2.2.2.2.2.1 hR.2.2.2.2.2.2.2.1 hp.1
    have hlt : i.toNatClampNeg < (am_K M a).2 := Nat.not_le.mp fun q => hp.2 (Or.inr q)
    have k9 := (hG γ g cA tys H locs ls hR hl ⟨hc.1, am_cn1 trivial (am_tl (am_tl hc.2))⟩ hγ h1 h2 h3 h4 h5 h6)
    simp only [List.map_cons, am_cv, hga] at k9 ⊢
    exact W.bald (v := .int (am_I M a i.toNatClampNeg)) hx hb (by rw [hR.2.2.2.1.2.1 t (Array.getElem?_eq_some_iff.mp f1).1 f7]; exact f1) f2 f3 (fun q => q.elim (fun z => hp.2 (Or.inl z)) (fun z => absurd (Nat.lt_of_lt_of_le hlt f4) (Nat.not_lt.mpr z))) (f6 _ hlt) rfl rfl hd k9
  · trivial
theorem ok_laldF {np : Nat} (hd : decode cc pc = .ok (.laload, 1)) (hn : np = pc + 1) : am_ok tb cc own mL rt ini pc (o_lald 54 np) := by
  intro X f M hF hpc
  obtain ⟨p, l, e, R, s, m, args, below, meth, c, Q, L, xs, D, A, n0, s0, γ0, N', S⟩ := X
  obtain ⟨hx, hb, hml, hown, hts, hlk, hini, hNc, hSc⟩ := hF
  obtain ⟨z, b, pc', l', st⟩ := f
  dsimp only at hpc
  subst hpc
  unfold o_lald
  dsimp only
  split
  · rename_i i a r
    subst hn
    refine ⟨Nat.le_refl _, Nat.le_refl _, fun hp hle1 hle2 hG γ g cA tys H locs ls hR hl hc hγ h1 h2 h3 h4 h5 h6 => ?_⟩
    have hp : (am_K M a).1 = 54 ∧ vp_in i (am_K M a).2 := hp
    obtain ⟨t, hga, cell, f1, f2, f3, f4, f5, f6, f7⟩ := am_foJ hR.2.2.2.2.2.1 hR.2.2.2.2.2.2.2.1 hp.1
    have hlt : i.toNatClampNeg < (am_K M a).2 := Nat.not_le.mp fun q => hp.2 (Or.inr q)
    have k9 := (hG γ g cA tys H locs ls hR hl ⟨hc.1, am_cn1 trivial (am_tl (am_tl hc.2))⟩ hγ h1 h2 h3 h4 h5 h6)
    simp only [List.map_cons, am_cv, hga] at k9 ⊢
    exact W.lald (v := .long (am_J M a i.toNatClampNeg)) hx hb (by rw [hR.2.2.2.1.2.1 t (Array.getElem?_eq_some_iff.mp f1).1 f7]; exact f1) f2 f3 (fun q => q.elim (fun z => hp.2 (Or.inl z)) (fun z => absurd (Nat.lt_of_lt_of_le hlt f4) (Nat.not_lt.mpr z))) (f6 _ hlt) rfl rfl hd k9
  · trivial
theorem ok_iast {np : Nat} (hd : decode cc pc = .ok (.iastore, 1)) (hn : np = pc + 1) : am_ok tb cc own mL rt ini pc (o_iast np) := by
  intro X f M hF hpc
  obtain ⟨p, l, e, R, s, m, args, below, meth, c, Q, L, xs, D, A, n0, s0, γ0, N', S⟩ := X
  obtain ⟨hx, hb, hml, hown, hts, hlk, hini, hNc, hSc⟩ := hF
  obtain ⟨z, b, pc', l', st⟩ := f
  dsimp only at hpc
  subst hpc
  unfold o_iast
  dsimp only
  split
  · rename_i x i a r
    subst hn
    refine ⟨Nat.le_refl _, Nat.le_refl _, fun hp hle1 hle2 hG γ g cA tys H locs ls hR hl hc hγ h1 h2 h3 h4 h5 h6 => ?_⟩
    have hp : (am_K M a).1 = 20 ∧ vp_in i (am_K M a).2 := hp
    have hnx : True := trivial
    obtain ⟨a1, a2⟩ := hR.2.2.2.2.2.2.2.1.own (a := a) (by rw [hp.1]; decide)
    have hga := hR.2.2.2.2.2.2.1 a a1
    have he := am_ws_get (g := g) (cA := cA) (M := M) a1 a2
    rw [am_e_int hp.1 (by decide) (by decide)] at he
    obtain ⟨t0, ht0⟩ := hR.2.2.2.2.2.2.2.2 a a1 a2 (by rw [hp.1]; decide)
    rw [hp.1] at ht0
    simp only [List.map_cons, am_cv, hga]
    have e9 : am_I (am_setI M a i.toNatClampNeg x) a = upd (am_I M a) i.toNatClampNeg x := by funext j; show (if a = a ∧ j = i.toNatClampNeg then x else am_I M a j) = (if j = i.toNatClampNeg then x else am_I M a j); by_cases hj : j = i.toNatClampNeg; rw [if_pos ⟨rfl, hj⟩, if_pos hj]; rw [if_neg (fun z => hj z.2), if_neg hj]
    refine va_iast (D := D) (cl := am_cl) hx hb hR.1 hR.2.1 hR.2.2.1 hR.2.2.2.1 (a - 20) t0 he ht0 hp.2 hd (fun H1 locs1 hP1 hD1 hS1 => ?_)
    skip
    rw [← e9] at hP1 hD1
    refine hG γ g cA tys H1 locs1 ls (hR.keep (M' := am_setI M a i.toNatClampNeg x) a1 rfl rfl ?_ ?_ ?_ ?_ (am_e_int hp.1 (by decide) (by decide)) hP1 hD1 hS1) hl ⟨hc.1, am_tl (am_tl (am_tl hc.2))⟩ hγ h1 h2 h3 h4 h5 h6
    · intro q hq; funext j; exact if_neg (fun z => hq z.1)
    · exact fun _ _ => rfl
    · exact fun _ _ => rfl
    · exact fun j => hR.2.2.2.2.2.2.2.1.2.2.2.2 a j
  · trivial
theorem ok_zast {np : Nat} (hd : decode cc pc = .ok (.bastore, 1)) (hn : np = pc + 1) : am_ok tb cc own mL rt ini pc (o_zast np) := by
  intro X f M hF hpc
  obtain ⟨p, l, e, R, s, m, args, below, meth, c, Q, L, xs, D, A, n0, s0, γ0, N', S⟩ := X
  obtain ⟨hx, hb, hml, hown, hts, hlk, hini, hNc, hSc⟩ := hF
  obtain ⟨z, b, pc', l', st⟩ := f
  dsimp only at hpc
  subst hpc
  unfold o_zast
  dsimp only
  split
  · rename_i x i a r
    subst hn
    refine ⟨Nat.le_refl _, Nat.le_refl _, fun hp hle1 hle2 hG γ g cA tys H locs ls hR hl hc hγ h1 h2 h3 h4 h5 h6 => ?_⟩
    have hp : (am_K M a).1 = 21 ∧ vp_in i (am_K M a).2 ∧ (x = 0 ∨ x = 1) := hp
    have hnx : vp_nar .boolean x = x := by rcases hp.2.2 with z | z <;> rw [z] <;> rfl
    obtain ⟨a1, a2⟩ := hR.2.2.2.2.2.2.2.1.own (a := a) (by rw [hp.1]; decide)
    have hga := hR.2.2.2.2.2.2.1 a a1
    have he := am_ws_get (g := g) (cA := cA) (M := M) a1 a2
    rw [am_e_int hp.1 (by decide) (by decide)] at he
    obtain ⟨t0, ht0⟩ := hR.2.2.2.2.2.2.2.2 a a1 a2 (by rw [hp.1]; decide)
    rw [hp.1] at ht0
    simp only [List.map_cons, am_cv, hga]
    have e9 : am_I (am_setI M a i.toNatClampNeg x) a = upd (am_I M a) i.toNatClampNeg x := by funext j; show (if a = a ∧ j = i.toNatClampNeg then x else am_I M a j) = (if j = i.toNatClampNeg then x else am_I M a j); by_cases hj : j = i.toNatClampNeg; rw [if_pos ⟨rfl, hj⟩, if_pos hj]; rw [if_neg (fun z => hj z.2), if_neg hj]
    refine va_zast (D := D) (cl := am_cl) hx hb hR.1 hR.2.1 hR.2.2.1 hR.2.2.2.1 (a - 20) t0 he ht0 hp.2.1 hd (fun H1 locs1 hP1 hD1 hS1 => ?_)
    rw [hnx] at hP1 hD1
    rw [← e9] at hP1 hD1
    refine hG γ g cA tys H1 locs1 ls (hR.keep (M' := am_setI M a i.toNatClampNeg x) a1 rfl rfl ?_ ?_ ?_ ?_ (am_e_int hp.1 (by decide) (by decide)) hP1 hD1 hS1) hl ⟨hc.1, am_tl (am_tl (am_tl hc.2))⟩ hγ h1 h2 h3 h4 h5 h6
    · intro q hq; funext j; exact if_neg (fun z => hq z.1)
    · exact fun _ _ => rfl
    · exact fun _ _ => rfl
    · exact fun j => hR.2.2.2.2.2.2.2.1.2.2.2.2 a j
  · trivial
theorem ok_cast {np : Nat} (hd : decode cc pc = .ok (.castore, 1)) (hn : np = pc + 1) : am_ok tb cc own mL rt ini pc (o_cast np) := by
  intro X f M hF hpc
  obtain ⟨p, l, e, R, s, m, args, below, meth, c, Q, L, xs, D, A, n0, s0, γ0, N', S⟩ := X
  obtain ⟨hx, hb, hml, hown, hts, hlk, hini, hNc, hSc⟩ := hF
  obtain ⟨z, b, pc', l', st⟩ := f
  dsimp only at hpc
  subst hpc
  unfold o_cast
  dsimp only
  split
  · rename_i x i a r
    subst hn
    refine ⟨Nat.le_refl _, Nat.le_refl _, fun hp hle1 hle2 hG γ g cA tys H locs ls hR hl hc hγ h1 h2 h3 h4 h5 h6 => ?_⟩
    have hp : (am_K M a).1 = 23 ∧ vp_in i (am_K M a).2 ∧ vp_nar .char x = x := hp
    have hnx := hp.2.2
    obtain ⟨a1, a2⟩ := hR.2.2.2.2.2.2.2.1.own (a := a) (by rw [hp.1]; decide)
    have hga := hR.2.2.2.2.2.2.1 a a1
    have he := am_ws_get (g := g) (cA := cA) (M := M) a1 a2
    rw [am_e_int hp.1 (by decide) (by decide)] at he
    obtain ⟨t0, ht0⟩ := hR.2.2.2.2.2.2.2.2 a a1 a2 (by rw [hp.1]; decide)
    rw [hp.1] at ht0
    simp only [List.map_cons, am_cv, hga]
    have e9 : am_I (am_setI M a i.toNatClampNeg x) a = upd (am_I M a) i.toNatClampNeg x := by funext j; show (if a = a ∧ j = i.toNatClampNeg then x else am_I M a j) = (if j = i.toNatClampNeg then x else am_I M a j); by_cases hj : j = i.toNatClampNeg; rw [if_pos ⟨rfl, hj⟩, if_pos hj]; rw [if_neg (fun z => hj z.2), if_neg hj]
    refine va_cast (D := D) (cl := am_cl) hx hb hR.1 hR.2.1 hR.2.2.1 hR.2.2.2.1 (a - 20) t0 he ht0 hp.2.1 hd (fun H1 locs1 hP1 hD1 hS1 => ?_)
    rw [hnx] at hP1 hD1
    rw [← e9] at hP1 hD1
    refine hG γ g cA tys H1 locs1 ls (hR.keep (M' := am_setI M a i.toNatClampNeg x) a1 rfl rfl ?_ ?_ ?_ ?_ (am_e_int hp.1 (by decide) (by decide)) hP1 hD1 hS1) hl ⟨hc.1, am_tl (am_tl (am_tl hc.2))⟩ hγ h1 h2 h3 h4 h5 h6
    · intro q hq; funext j; exact if_neg (fun z => hq z.1)
    · exact fun _ _ => rfl
    · exact fun _ _ => rfl
    · exact fun j => hR.2.2.2.2.2.2.2.1.2.2.2.2 a j
  · trivial
theorem ok_last {np : Nat} (hd : decode cc pc = .ok (.lastore, 1)) (hn : np = pc + 1) : am_ok tb cc own mL rt ini pc (o_last np) := by
  intro X f M hF hpc
  obtain ⟨p, l, e, R, s, m, args, below, meth, c, Q, L, xs, D, A, n0, s0, γ0, N', S⟩ := X
  obtain ⟨hx, hb, hml, hown, hts, hlk, hini, hNc, hSc⟩ := hF
  obtain ⟨z, b, pc', l', st⟩ := f
  dsimp only at hpc
  subst hpc
  unfold o_last
  dsimp only
  split
  · rename_i x i a r
    subst hn
    refine ⟨Nat.le_refl _, Nat.le_refl _, fun hp hle1 hle2 hG γ g cA tys H locs ls hR hl hc hγ h1 h2 h3 h4 h5 h6 => ?_⟩
    have hp : (am_K M a).1 = 24 ∧ vp_in i (am_K M a).2 := hp
    have hnx : True := trivial
    obtain ⟨a1, a2⟩ := hR.2.2.2.2.2.2.2.1.own (a := a) (by rw [hp.1]; decide)
    have hga := hR.2.2.2.2.2.2.1 a a1
    have he := am_ws_get (g := g) (cA := cA) (M := M) a1 a2
    rw [am_e_long hp.1] at he
    obtain ⟨t0, ht0⟩ := hR.2.2.2.2.2.2.2.2 a a1 a2 (by rw [hp.1]; decide)
    rw [hp.1] at ht0
    simp only [List.map_cons, am_cv, hga]
    have e9 : am_J (am_setJ M a i.toNatClampNeg x) a = vp_updL (am_J M a) i.toNatClampNeg x := by funext j; show (if a = a ∧ j = i.toNatClampNeg then x else am_J M a j) = (if j = i.toNatClampNeg then x else am_J M a j); by_cases hj : j = i.toNatClampNeg; rw [if_pos ⟨rfl, hj⟩, if_pos hj]; rw [if_neg (fun z => hj z.2), if_neg hj]
    refine va_last (D := D) (cl := am_cl) hx hb hR.1 hR.2.1 hR.2.2.1 hR.2.2.2.1 (a - 20) t0 he ht0 hp.2 hd (fun H1 locs1 hP1 hD1 hS1 => ?_)
    skip
    rw [← e9] at hP1 hD1
    refine hG γ g cA tys H1 locs1 ls (hR.keep (M' := am_setJ M a i.toNatClampNeg x) a1 rfl rfl ?_ ?_ ?_ ?_ (am_e_long hp.1) hP1 hD1 hS1) hl ⟨hc.1, am_tl (am_tl (am_tl hc.2))⟩ hγ h1 h2 h3 h4 h5 h6
    · exact fun _ _ => rfl
    · intro q hq; funext j; exact if_neg (fun z => hq z.1)
    · exact fun _ _ => rfl
    · exact fun j => hR.2.2.2.2.2.2.2.1.2.2.2.2 a j
  · trivial
theorem ok_aast {ci N np : Nat} {q : vw_C} (hd : decode cc pc = .ok (.aastore, 1)) (hci : ci < 9) (hcl : am_cl[ci]? = some q) (hty : am_et (30 + ci) = .object q.1) (hn : np = pc + 1) : am_ok tb cc own mL rt ini pc (o_aast ci N np) := by
  intro X f M hF hpc
  obtain ⟨p, l, e, R, s, m, args, below, meth, c, Q, L, xs, D, A, n0, s0, γ0, N', S⟩ := X
  obtain ⟨hx, hb, hml, hown, hts, hlk, hini, hNc, hSc⟩ := hF
  obtain ⟨z, b, pc', l', st⟩ := f
  dsimp only at hpc
  subst hpc
  unfold o_aast
  dsimp only
  split
  · rename_i v i a r
    subst hn
    refine ⟨Nat.le_refl _, Nat.le_refl _, fun hp hle1 hle2 hG γ g cA tys H locs ls hR hl hc hγ h1 h2 h3 h4 h5 h6 => ?_⟩
    have hp : (am_K M a).1 = 30 + ci ∧ vp_in i (am_K M a).2 ∧ am_K M v = (ci, N) := hp
    obtain ⟨a1, a2⟩ := hR.2.2.2.2.2.2.2.1.own (a := a) (by rw [hp.1]; omega)
    obtain ⟨v1, v2⟩ := hR.2.2.2.2.2.2.2.1.own (a := v) (by rw [hp.2.2]; show ci < 40; omega)
    have hga := hR.2.2.2.2.2.2.1 a a1
    have hgv := hR.2.2.2.2.2.2.1 v v1
    have he := am_ws_get (g := g) (cA := cA) (M := M) a1 a2
    rw [am_e_ref hp.1 (by omega)] at he
    have hev := am_ws_get (g := g) (cA := cA) (M := M) v1 v2
    rw [am_e_obj hp.2.2 (by omega)] at hev
    obtain ⟨t0, ht0⟩ := hR.2.2.2.2.2.2.2.2 a a1 a2 (by rw [hp.1]; omega)
    rw [hp.1, hty] at ht0
    simp only [List.map_cons, am_cv, hga, hgv]
    have e9 : (fun j => am_opt g (am_R (am_setR M a i.toNatClampNeg v) a j)) = va_up (fun j => am_opt g (am_R M a j)) i.toNatClampNeg (some (g v)) := by funext j; show am_opt g (if a = a ∧ j = i.toNatClampNeg then v else am_R M a j) = (if j = i.toNatClampNeg then some (g v) else am_opt g (am_R M a j)); by_cases hj : j = i.toNatClampNeg; rw [if_pos ⟨rfl, hj⟩, if_pos hj]; exact if_neg (by omega); rw [if_neg (fun z => hj z.2), if_neg hj]
    refine va_astq (D := D) (cl := am_cl) hx hb hR.1 hR.2.1 hR.2.2.1 hR.2.2.2.1 (a - 20) t0 (v - 20) ci he ht0 hev hcl hp.2.1 hd (fun H1 locs1 hP1 hD1 hS1 => ?_)
    rw [← e9] at hP1 hD1
    refine hG γ g cA tys H1 locs1 ls (hR.keep (M' := am_setR M a i.toNatClampNeg v) a1 rfl rfl ?_ ?_ ?_ ?_ (am_e_ref hp.1 (by omega)) hP1 hD1 hS1) hl ⟨hc.1, am_tl (am_tl (am_tl hc.2))⟩ hγ h1 h2 h3 h4 h5 h6
    · exact fun _ _ => rfl
    · exact fun _ _ => rfl
    · intro q hq; funext j; exact if_neg (fun z => hq z.1)
    · intro j; show (if a = a ∧ j = i.toNatClampNeg then v else am_R M a j) = 0 ∨ (20 ≤ (if a = a ∧ j = i.toNatClampNeg then v else am_R M a j) ∧ (if a = a ∧ j = i.toNatClampNeg then v else am_R M a j) < am_n M); by_cases hj : j = i.toNatClampNeg
      · rw [if_pos ⟨rfl, hj⟩]; exact Or.inr ⟨v1, v2⟩
      · rw [if_neg (fun z => hj z.2)]; exact hR.2.2.2.2.2.2.2.1.2.2.2.2 a j
  · trivial
theorem ok_alenI {np : Nat} (hd : decode cc pc = .ok (.arraylength, 1)) (hn : np = pc + 1) : am_ok tb cc own mL rt ini pc (o_alen 20 np) := by
  intro X f M hF hpc
  obtain ⟨p, l, e, R, s, m, args, below, meth, c, Q, L, xs, D, A, n0, s0, γ0, N', S⟩ := X
  obtain ⟨hx, hb, hml, hown, hts, hlk, hini, hNc, hSc⟩ := hF
  obtain ⟨z, b, pc', l', st⟩ := f
  dsimp only at hpc
  subst hpc
  unfold o_alen
  dsimp only
  split
  · rename_i a r
    subst hn
    refine ⟨Nat.le_refl _, Nat.le_refl _, fun hp hle1 hle2 hG γ g cA tys H locs ls hR hl hc hγ h1 h2 h3 h4 h5 h6 => ?_⟩
    have hp : (am_K M a).1 = 20 := hp
    obtain ⟨a1, a2⟩ := hR.2.2.2.2.2.2.2.1.own (a := a) (by rw [hp]; decide)
    have hga := hR.2.2.2.2.2.2.1 a a1
    have he := am_ws_get (g := g) (cA := cA) (M := M) a1 a2
    rw [am_e_int hp (by decide) (by decide)] at he
    obtain ⟨t0, ht0⟩ := hR.2.2.2.2.2.2.2.2 a a1 a2 (by rw [hp]; decide)
    have k9 := (hG γ g cA tys H locs ls hR hl ⟨hc.1, am_cn1 trivial (am_tl hc.2)⟩ hγ h1 h2 h3 h4 h5 h6)
    simp only [List.map_cons, am_cv, hga] at k9 ⊢
    exact va_alen (D := D) (cl := am_cl) hx hb hR.1 hR.2.1 (a - 20) t0 he ht0 rfl hd k9
  · trivial
theorem ok_alenJ {np : Nat} (hd : decode cc pc = .ok (.arraylength, 1)) (hn : np = pc + 1) : am_ok tb cc own mL rt ini pc (o_alen 24 np) := by
  intro X f M hF hpc
  obtain ⟨p, l, e, R, s, m, args, below, meth, c, Q, L, xs, D, A, n0, s0, γ0, N', S⟩ := X
  obtain ⟨hx, hb, hml, hown, hts, hlk, hini, hNc, hSc⟩ := hF
  obtain ⟨z, b, pc', l', st⟩ := f
  dsimp only at hpc
  subst hpc
  unfold o_alen
  dsimp only
  split
  · rename_i a r
    subst hn
    refine ⟨Nat.le_refl _, Nat.le_refl _, fun hp hle1 hle2 hG γ g cA tys H locs ls hR hl hc hγ h1 h2 h3 h4 h5 h6 => ?_⟩
    have hp : (am_K M a).1 = 24 := hp
    obtain ⟨a1, a2⟩ := hR.2.2.2.2.2.2.2.1.own (a := a) (by rw [hp]; decide)
    have hga := hR.2.2.2.2.2.2.1 a a1
    have he := am_ws_get (g := g) (cA := cA) (M := M) a1 a2
    rw [am_e_long hp] at he
    obtain ⟨t0, ht0⟩ := hR.2.2.2.2.2.2.2.2 a a1 a2 (by rw [hp]; decide)
    have k9 := (hG γ g cA tys H locs ls hR hl ⟨hc.1, am_cn1 trivial (am_tl hc.2)⟩ hγ h1 h2 h3 h4 h5 h6)
    simp only [List.map_cons, am_cv, hga] at k9 ⊢
    exact va_alen (D := D) (cl := am_cl) hx hb hR.1 hR.2.1 (a - 20) t0 he ht0 rfl hd k9
  · trivial
theorem ok_alenFI {np : Nat} (hd : decode cc pc = .ok (.arraylength, 1)) (hn : np = pc + 1) : am_ok tb cc own mL rt ini pc (o_alen 50 np) := by
  intro X f M hF hpc
  obtain ⟨p, l, e, R, s, m, args, below, meth, c, Q, L, xs, D, A, n0, s0, γ0, N', S⟩ := X
  obtain ⟨hx, hb, hml, hown, hts, hlk, hini, hNc, hSc⟩ := hF
  obtain ⟨z, b, pc', l', st⟩ := f
  dsimp only at hpc
  subst hpc
  unfold o_alen
  dsimp only
  split
  · rename_i a r
    subst hn
    refine ⟨Nat.le_refl _, Nat.le_refl _, fun hp hle1 hle2 hG γ g cA tys H locs ls hR hl hc hγ h1 h2 h3 h4 h5 h6 => ?_⟩
    have hp : (am_K M a).1 = 50 := hp
    obtain ⟨t, hga, cell, f1, f2, f3, f4, f5, f6, f7⟩ := am_foI hR.2.2.2.2.2.1 hR.2.2.2.2.2.2.2.1 hp
    have k9 := (hG γ g cA tys H locs ls hR hl ⟨hc.1, am_cn1 trivial (am_tl hc.2)⟩ hγ h1 h2 h3 h4 h5 h6)
    simp only [List.map_cons, am_cv, hga] at k9 ⊢
    exact W.alen (n := Int32.ofNat (am_K M a).2) hx hb (by rw [hR.2.2.2.1.2.1 t (Array.getElem?_eq_some_iff.mp f1).1 f7]; exact f1) f2 f5 rfl rfl hd k9
  · trivial
theorem ok_alenFB {np : Nat} (hd : decode cc pc = .ok (.arraylength, 1)) (hn : np = pc + 1) : am_ok tb cc own mL rt ini pc (o_alen 52 np) := by
  intro X f M hF hpc
  obtain ⟨p, l, e, R, s, m, args, below, meth, c, Q, L, xs, D, A, n0, s0, γ0, N', S⟩ := X
  obtain ⟨hx, hb, hml, hown, hts, hlk, hini, hNc, hSc⟩ := hF
  obtain ⟨z, b, pc', l', st⟩ := f
  dsimp only at hpc
  subst hpc
  unfold o_alen
  dsimp only
  split
  · rename_i a r
    subst hn
    refine ⟨Nat.le_refl _, Nat.le_refl _, fun hp hle1 hle2 hG γ g cA tys H locs ls hR hl hc hγ h1 h2 h3 h4 h5 h6 => ?_⟩
    have hp : (am_K M a).1 = 52 := hp
    obtain ⟨t, hga, cell, f1, f2, f3, f4, f5, f6, f7⟩ := am_foB hR.2.2.2.2.2.1 hR.2.2.2.2.2.2.2.1 hp
    have k9 := (hG γ g cA tys H locs ls hR hl ⟨hc.1, am_cn1 trivial (am_tl hc.2)⟩ hγ h1 h2 h3 h4 h5 h6)
    simp only [List.map_cons, am_cv, hga] at k9 ⊢
    exact W.alen (n := Int32.ofNat (am_K M a).2) hx hb (by rw [hR.2.2.2.1.2.1 t (Array.getElem?_eq_some_iff.mp f1).1 f7]; exact f1) f2 f5 rfl rfl hd k9
  · trivial
theorem ok_newI {np : Nat} (hd : decode cc pc = .ok (.newarray .int, 2)) (hw : Cond.arrayClass (newarray.typeOf .int) ∈ am_words) (hn : np = pc + 2) : am_ok tb cc own mL rt ini pc (o_newa 20 np) := by
  intro X f M hF hpc
  obtain ⟨p, l, e, R, s, m, args, below, meth, c, Q, L, xs, D, A, n0, s0, γ0, N', S⟩ := X
  obtain ⟨hx, hb, hml, hown, hts, hlk, hini, hNc, hSc⟩ := hF
  obtain ⟨z, b, pc', l', st⟩ := f
  dsimp only at hpc
  subst hpc
  unfold o_newa
  dsimp only
  split
  · rename_i n r
    subst hn
    refine ⟨Nat.le_succ _, Nat.le_add_right _ _, fun hp hle1 hle2 hG γ g cA tys H locs ls hR hl hc hγ h1 h2 h3 h4 h5 h6 => ?_⟩
    have hp : ¬ n < 0 ∧ n.toNatClampNeg ≤ 100000 := hp
    have hle1 : am_n M + 1 ≤ N' := hle1
    have hle2 : am_s M + n.toNatClampNeg ≤ S := hle2
    simp only [List.map_cons, am_cv]
    refine va_newa (D := D) (cl := am_cl) (atype := .int) (ty := .int) (a0 := (n.toNatClampNeg, .inl (fun _ => 0))) hx hb (hts _ hw) rfl hR.1 hR.2.1 hR.2.2.1 hR.2.2.2.1 hR.2.2.2.2.1 (fun cA => rfl) hp.1 rfl (by show n.toNatClampNeg * _ ≤ _; simp only [componentBytes]; omega) (by omega) (by omega) hd (fun q cq H1 hK1 hP1 hD1 hS1 => ?_)
    have hR2 := hR.grow (t := 20) (len := n.toNatClampNeg) (q := q) (cq := cq) (tys' := tys ++ [(cq, .int)]) (e' := .inl (cq, (n.toNatClampNeg, .inl (fun _ => 0)))) (Or.inr (Or.inl ⟨by decide, by decide⟩)) (fun k x hk => ⟨k, by rw [List.getElem?_append_left (List.getElem?_eq_some_iff.mp hk).1]; exact hk⟩) (fun _ => ⟨tys.length, by rw [List.getElem?_append_right (Nat.le_refl _), Nat.sub_self]; rfl⟩) (by rw [am_newarrI M _ _ 20 n.toNatClampNeg (by decide) (by decide)]; simp only [if_true]) hK1 hP1 hD1 hS1
    skip
    have k9 := hG _ _ _ _ H1 locs ls hR2 (hl.ext (n := am_n M) (fun r hr => if_neg (Nat.ne_of_lt hr)) hc.1) ⟨am_vo_le (Nat.le_succ _) hc.1, am_cn1 (show am_n M < am_n M + 1 ∧ am_n M ≠ 16 from ⟨Nat.lt_succ_self _, by have := hR.2.2.2.2.2.2.2.1.1; omega⟩) (am_vo_le (Nat.le_succ _) (am_tl hc.2))⟩ (fun r hr => by show (if r = am_n M then _ else _) = _; rw [if_neg (by omega)]; exact hγ r hr) (Nat.le_succ_of_le h1) (Nat.le_trans h2 (Nat.le_add_right _ _)) hle1 hle2 h5 h6
    simp only [List.map_cons, am_cv, if_true] at k9
    rw [am_map_ext (γ := γ) (n := am_n M) (fun r hr => if_neg (Nat.ne_of_lt hr)) (am_tl hc.2)] at k9
    rw [show am_n M - n0 + 1 = am_n M + 1 - n0 by omega, show am_s M - s0 + n.toNatClampNeg = am_s M + n.toNatClampNeg - s0 by omega]
    exact k9
  · trivial
theorem ok_newZ {np : Nat} (hd : decode cc pc = .ok (.newarray .boolean, 2)) (hw : Cond.arrayClass (newarray.typeOf .boolean) ∈ am_words) (hn : np = pc + 2) : am_ok tb cc own mL rt ini pc (o_newa 21 np) := by
  intro X f M hF hpc
  obtain ⟨p, l, e, R, s, m, args, below, meth, c, Q, L, xs, D, A, n0, s0, γ0, N', S⟩ := X
  obtain ⟨hx, hb, hml, hown, hts, hlk, hini, hNc, hSc⟩ := hF
  obtain ⟨z, b, pc', l', st⟩ := f
  dsimp only at hpc
  subst hpc
  unfold o_newa
  dsimp only
  split
  · rename_i n r
    subst hn
    refine ⟨Nat.le_succ _, Nat.le_add_right _ _, fun hp hle1 hle2 hG γ g cA tys H locs ls hR hl hc hγ h1 h2 h3 h4 h5 h6 => ?_⟩
    have hp : ¬ n < 0 ∧ n.toNatClampNeg ≤ 100000 := hp
    have hle1 : am_n M + 1 ≤ N' := hle1
    have hle2 : am_s M + n.toNatClampNeg ≤ S := hle2
    simp only [List.map_cons, am_cv]
    refine va_newa (D := D) (cl := am_cl) (atype := .boolean) (ty := .boolean) (a0 := (n.toNatClampNeg, .inl (fun _ => 0))) hx hb (hts _ hw) rfl hR.1 hR.2.1 hR.2.2.1 hR.2.2.2.1 hR.2.2.2.2.1 (fun cA => rfl) hp.1 rfl (by show n.toNatClampNeg * _ ≤ _; simp only [componentBytes]; omega) (by omega) (by omega) hd (fun q cq H1 hK1 hP1 hD1 hS1 => ?_)
    have hR2 := hR.grow (t := 21) (len := n.toNatClampNeg) (q := q) (cq := cq) (tys' := tys ++ [(cq, .boolean)]) (e' := .inl (cq, (n.toNatClampNeg, .inl (fun _ => 0)))) (Or.inr (Or.inl ⟨by decide, by decide⟩)) (fun k x hk => ⟨k, by rw [List.getElem?_append_left (List.getElem?_eq_some_iff.mp hk).1]; exact hk⟩) (fun _ => ⟨tys.length, by rw [List.getElem?_append_right (Nat.le_refl _), Nat.sub_self]; rfl⟩) (by rw [am_newarrI M _ _ 21 n.toNatClampNeg (by decide) (by decide)]; simp only [if_true]) hK1 hP1 hD1 hS1
    skip
    have k9 := hG _ _ _ _ H1 locs ls hR2 (hl.ext (n := am_n M) (fun r hr => if_neg (Nat.ne_of_lt hr)) hc.1) ⟨am_vo_le (Nat.le_succ _) hc.1, am_cn1 (show am_n M < am_n M + 1 ∧ am_n M ≠ 16 from ⟨Nat.lt_succ_self _, by have := hR.2.2.2.2.2.2.2.1.1; omega⟩) (am_vo_le (Nat.le_succ _) (am_tl hc.2))⟩ (fun r hr => by show (if r = am_n M then _ else _) = _; rw [if_neg (by omega)]; exact hγ r hr) (Nat.le_succ_of_le h1) (Nat.le_trans h2 (Nat.le_add_right _ _)) hle1 hle2 h5 h6
    simp only [List.map_cons, am_cv, if_true] at k9
    rw [am_map_ext (γ := γ) (n := am_n M) (fun r hr => if_neg (Nat.ne_of_lt hr)) (am_tl hc.2)] at k9
    rw [show am_n M - n0 + 1 = am_n M + 1 - n0 by omega, show am_s M - s0 + n.toNatClampNeg = am_s M + n.toNatClampNeg - s0 by omega]
    exact k9
  · trivial
theorem ok_newC {np : Nat} (hd : decode cc pc = .ok (.newarray .char, 2)) (hw : Cond.arrayClass (newarray.typeOf .char) ∈ am_words) (hn : np = pc + 2) : am_ok tb cc own mL rt ini pc (o_newa 23 np) := by
  intro X f M hF hpc
  obtain ⟨p, l, e, R, s, m, args, below, meth, c, Q, L, xs, D, A, n0, s0, γ0, N', S⟩ := X
  obtain ⟨hx, hb, hml, hown, hts, hlk, hini, hNc, hSc⟩ := hF
  obtain ⟨z, b, pc', l', st⟩ := f
  dsimp only at hpc
  subst hpc
  unfold o_newa
  dsimp only
  split
  · rename_i n r
    subst hn
    refine ⟨Nat.le_succ _, Nat.le_add_right _ _, fun hp hle1 hle2 hG γ g cA tys H locs ls hR hl hc hγ h1 h2 h3 h4 h5 h6 => ?_⟩
    have hp : ¬ n < 0 ∧ n.toNatClampNeg ≤ 100000 := hp
    have hle1 : am_n M + 1 ≤ N' := hle1
    have hle2 : am_s M + n.toNatClampNeg ≤ S := hle2
    simp only [List.map_cons, am_cv]
    refine va_newa (D := D) (cl := am_cl) (atype := .char) (ty := .char) (a0 := (n.toNatClampNeg, .inl (fun _ => 0))) hx hb (hts _ hw) rfl hR.1 hR.2.1 hR.2.2.1 hR.2.2.2.1 hR.2.2.2.2.1 (fun cA => rfl) hp.1 rfl (by show n.toNatClampNeg * _ ≤ _; simp only [componentBytes]; omega) (by omega) (by omega) hd (fun q cq H1 hK1 hP1 hD1 hS1 => ?_)
    have hR2 := hR.grow (t := 23) (len := n.toNatClampNeg) (q := q) (cq := cq) (tys' := tys ++ [(cq, .char)]) (e' := .inl (cq, (n.toNatClampNeg, .inl (fun _ => 0)))) (Or.inr (Or.inl ⟨by decide, by decide⟩)) (fun k x hk => ⟨k, by rw [List.getElem?_append_left (List.getElem?_eq_some_iff.mp hk).1]; exact hk⟩) (fun _ => ⟨tys.length, by rw [List.getElem?_append_right (Nat.le_refl _), Nat.sub_self]; rfl⟩) (by rw [am_newarrI M _ _ 23 n.toNatClampNeg (by decide) (by decide)]; simp only [if_true]) hK1 hP1 hD1 hS1
    skip
    have k9 := hG _ _ _ _ H1 locs ls hR2 (hl.ext (n := am_n M) (fun r hr => if_neg (Nat.ne_of_lt hr)) hc.1) ⟨am_vo_le (Nat.le_succ _) hc.1, am_cn1 (show am_n M < am_n M + 1 ∧ am_n M ≠ 16 from ⟨Nat.lt_succ_self _, by have := hR.2.2.2.2.2.2.2.1.1; omega⟩) (am_vo_le (Nat.le_succ _) (am_tl hc.2))⟩ (fun r hr => by show (if r = am_n M then _ else _) = _; rw [if_neg (by omega)]; exact hγ r hr) (Nat.le_succ_of_le h1) (Nat.le_trans h2 (Nat.le_add_right _ _)) hle1 hle2 h5 h6
    simp only [List.map_cons, am_cv, if_true] at k9
    rw [am_map_ext (γ := γ) (n := am_n M) (fun r hr => if_neg (Nat.ne_of_lt hr)) (am_tl hc.2)] at k9
    rw [show am_n M - n0 + 1 = am_n M + 1 - n0 by omega, show am_s M - s0 + n.toNatClampNeg = am_s M + n.toNatClampNeg - s0 by omega]
    exact k9
  · trivial
theorem ok_newJ {np : Nat} (hd : decode cc pc = .ok (.newarray .long, 2)) (hw : Cond.arrayClass (newarray.typeOf .long) ∈ am_words) (hn : np = pc + 2) : am_ok tb cc own mL rt ini pc (o_newa 24 np) := by
  intro X f M hF hpc
  obtain ⟨p, l, e, R, s, m, args, below, meth, c, Q, L, xs, D, A, n0, s0, γ0, N', S⟩ := X
  obtain ⟨hx, hb, hml, hown, hts, hlk, hini, hNc, hSc⟩ := hF
  obtain ⟨z, b, pc', l', st⟩ := f
  dsimp only at hpc
  subst hpc
  unfold o_newa
  dsimp only
  split
  · rename_i n r
    subst hn
    refine ⟨Nat.le_succ _, Nat.le_add_right _ _, fun hp hle1 hle2 hG γ g cA tys H locs ls hR hl hc hγ h1 h2 h3 h4 h5 h6 => ?_⟩
    have hp : ¬ n < 0 ∧ n.toNatClampNeg ≤ 100000 := hp
    have hle1 : am_n M + 1 ≤ N' := hle1
    have hle2 : am_s M + n.toNatClampNeg ≤ S := hle2
    simp only [List.map_cons, am_cv]
    refine va_newa (D := D) (cl := am_cl) (atype := .long) (ty := .long) (a0 := (n.toNatClampNeg, .inr (.inl (fun _ => 0)))) hx hb (hts _ hw) rfl hR.1 hR.2.1 hR.2.2.1 hR.2.2.2.1 hR.2.2.2.2.1 (fun cA => rfl) hp.1 rfl (by show n.toNatClampNeg * _ ≤ _; simp only [componentBytes]; omega) (by omega) (by omega) hd (fun q cq H1 hK1 hP1 hD1 hS1 => ?_)
    have hR2 := hR.grow (t := 24) (len := n.toNatClampNeg) (q := q) (cq := cq) (tys' := tys ++ [(cq, .long)]) (e' := .inl (cq, (n.toNatClampNeg, .inr (.inl (fun _ => 0))))) (Or.inr (Or.inl ⟨by decide, by decide⟩)) (fun k x hk => ⟨k, by rw [List.getElem?_append_left (List.getElem?_eq_some_iff.mp hk).1]; exact hk⟩) (fun _ => ⟨tys.length, by rw [List.getElem?_append_right (Nat.le_refl _), Nat.sub_self]; rfl⟩) (by rw [am_newarrJ M _ _  n.toNatClampNeg ]; simp only [if_true]) hK1 hP1 hD1 hS1
    skip
    have k9 := hG _ _ _ _ H1 locs ls hR2 (hl.ext (n := am_n M) (fun r hr => if_neg (Nat.ne_of_lt hr)) hc.1) ⟨am_vo_le (Nat.le_succ _) hc.1, am_cn1 (show am_n M < am_n M + 1 ∧ am_n M ≠ 16 from ⟨Nat.lt_succ_self _, by have := hR.2.2.2.2.2.2.2.1.1; omega⟩) (am_vo_le (Nat.le_succ _) (am_tl hc.2))⟩ (fun r hr => by show (if r = am_n M then _ else _) = _; rw [if_neg (by omega)]; exact hγ r hr) (Nat.le_succ_of_le h1) (Nat.le_trans h2 (Nat.le_add_right _ _)) hle1 hle2 h5 h6
    simp only [List.map_cons, am_cv, if_true] at k9
    rw [am_map_ext (γ := γ) (n := am_n M) (fun r hr => if_neg (Nat.ne_of_lt hr)) (am_tl hc.2)] at k9
    rw [show am_n M - n0 + 1 = am_n M + 1 - n0 by omega, show am_s M - s0 + n.toNatClampNeg = am_s M + n.toNatClampNeg - s0 by omega]
    exact k9
  · trivial
theorem ok_newq {ci np idx : Nat} {C : String} (hd : decode cc pc = .ok (.anewarray idx, 3)) (hci : ci < 9) (hty : am_et (30 + ci) = .object C) (hw : Cond.classLink own idx C ∈ am_words) (hwo : Cond.arrayOver (.object C) ∈ am_nw) (hn : np = pc + 3) : am_ok tb cc own mL rt ini pc (o_newa (30 + ci) np) := by
  intro X f M hF hpc
  obtain ⟨p, l, e, R, s, m, args, below, meth, c, Q, L, xs, D, A, n0, s0, γ0, N', S⟩ := X
  obtain ⟨hx, hb, hml, hown, hts, hlk, hini, hNc, hSc⟩ := hF
  obtain ⟨z, b, pc', l', st⟩ := f
  dsimp only at hpc
  subst hpc
  unfold o_newa
  dsimp only
  split
  · rename_i n r
    subst hn
    refine ⟨Nat.le_succ _, Nat.le_add_right _ _, fun hp hle1 hle2 hG γ g cA tys H locs ls hR hl hc hγ h1 h2 h3 h4 h5 h6 => ?_⟩
    have hp : ¬ n < 0 ∧ n.toNatClampNeg ≤ 100000 := hp
    have hle1 : am_n M + 1 ≤ N' := hle1
    have hle2 : am_s M + n.toNatClampNeg ≤ S := hle2
    simp only [List.map_cons, am_cv]
    refine va_newq (D := D) (cl := am_cl) (C := C) hx hb hown (hts _ hw) (hR.2.2.2.2.2.1.nw hwo) hR.1 hR.2.1 hR.2.2.1 hR.2.2.2.1 hR.2.2.2.2.1 hp.1 rfl (by omega) (by omega) (by omega) hd (fun q cq H1 hK1 hP1 hD1 hS1 => ?_)
    have hR2 := hR.grow (t := 30 + ci) (len := n.toNatClampNeg) (q := q) (cq := cq) (tys' := tys ++ [(cq, .object C)]) (e' := .inl (cq, (n.toNatClampNeg, .inr (.inr (.inr (.inr (fun _ => none))))))) (Or.inr (Or.inr ⟨by omega, by omega⟩)) (fun k x hk => ⟨k, by rw [List.getElem?_append_left (List.getElem?_eq_some_iff.mp hk).1]; exact hk⟩) (fun _ => ⟨tys.length, by rw [List.getElem?_append_right (Nat.le_refl _), Nat.sub_self, hty]; rfl⟩) (by rw [am_newarrR M _ _ (30 + ci) n.toNatClampNeg (by omega)]; simp only [if_true]) hK1 hP1 hD1 hS1
    have k9 := hG _ _ _ _ H1 locs ls hR2 (hl.ext (n := am_n M) (fun r hr => if_neg (Nat.ne_of_lt hr)) hc.1) ⟨am_vo_le (Nat.le_succ _) hc.1, am_cn1 (show am_n M < am_n M + 1 ∧ am_n M ≠ 16 from ⟨Nat.lt_succ_self _, by have := hR.2.2.2.2.2.2.2.1.1; omega⟩) (am_vo_le (Nat.le_succ _) (am_tl hc.2))⟩ (fun r hr => by show (if r = am_n M then _ else _) = _; rw [if_neg (by omega)]; exact hγ r hr) (Nat.le_succ_of_le h1) (Nat.le_trans h2 (Nat.le_add_right _ _)) hle1 hle2 h5 h6
    simp only [List.map_cons, am_cv, if_true] at k9
    rw [am_map_ext (γ := γ) (n := am_n M) (fun r hr => if_neg (Nat.ne_of_lt hr)) (am_tl hc.2)] at k9
    rw [show am_n M - n0 + 1 = am_n M + 1 - n0 by omega, show am_s M - s0 + n.toNatClampNeg = am_s M + n.toNatClampNeg - s0 by omega]
    exact k9
  · trivial
theorem ok_new {ci N np idx : Nat} {C : String} {T : u_T} (hd : decode cc pc = .ok (.new idx, 3)) (hcl : am_cl[ci]? = some (C, T, N)) (hin : ∀ w ∈ u_ws C T N, w ∈ am_words) (hty : ∀ k, k < N → parseFieldDescriptor (T k).2.2.1 = some (am_ty ci k)) (hc20 : ci < 20) (hdf : ∀ k, k < N → defaultValue (am_ty ci k) = match am_ty ci k with | .long => .long 0 | .object _ => .null | .array _ => .null | _ => .int 0) (hw1 : Cond.classLink own idx C ∈ am_words) (hw2 : Cond.instantiable C N ∈ am_words) (hw3 : Cond.initialized C ∈ am_words) (hn : np = pc + 3) : am_ok tb cc own mL rt ini pc (o_new ci N np) := by
  intro X f M hF hpc
  obtain ⟨p, l, e, R, s, m, args, below, meth, c, Q, L, xs, D, A, n0, s0, γ0, N', S⟩ := X
  obtain ⟨hx, hb, hml, hown, hts, hlk, hini, hNc, hSc⟩ := hF
  obtain ⟨z, b, pc', l', st⟩ := f
  dsimp only at hpc
  subst hpc
  unfold o_new
  dsimp only
  subst hn
  refine ⟨Nat.le_succ _, Nat.le_add_right _ _, fun hp hle1 hle2 hG γ g cA tys H locs ls hR hl hc hγ h1 h2 h3 h4 h5 h6 => ?_⟩
  have hle1 : am_n M + 1 ≤ N' := hle1
  have hle2 : am_s M + N ≤ S := hle2
  refine va_new (D := D) (cl := am_cl) (ci := ci) (fs := (List.range N).map (fun k => defaultValue (am_ty ci k))) hx hb hts hin (am_ty ci) hty hown (hts _ hw1) (hts _ hw2) (hts _ hw3) hR.1 hR.2.1 hR.2.2.1 hR.2.2.2.1 hR.2.2.2.2.1 hcl (fun j hj => by unfold vp_V; rw [List.getD_eq_getElem?_getD, List.getElem?_map, List.getElem?_range hj]; rfl) (by omega) (by omega) hd (fun q H1 hP1 hD1 hS1 => ?_)
  have hR2 := hR.grow (t := ci) (len := N) (q := q) (cq := cA 0) (tys' := tys) (e' := .inr (ci, (List.range N).map (fun k => defaultValue (am_ty ci k)))) (Or.inl ⟨_, hcl, rfl⟩) (fun k x hk => ⟨k, hk⟩) (fun z => absurd z (by omega)) (am_newo M _ _ ci N hc20 hdf) hR.1 hP1 hD1 hS1
  have k9 := hG _ _ _ _ H1 locs ls hR2 (hl.ext (n := am_n M) (fun r hr => if_neg (Nat.ne_of_lt hr)) hc.1) ⟨am_vo_le (Nat.le_succ _) hc.1, am_cn1 (show am_n M < am_n M + 1 ∧ am_n M ≠ 16 from ⟨Nat.lt_succ_self _, by have := hR.2.2.2.2.2.2.2.1.1; omega⟩) (am_vo_le (Nat.le_succ _) hc.2)⟩ (fun r hr => by show (if r = am_n M then _ else _) = _; rw [if_neg (by omega)]; exact hγ r hr) (Nat.le_succ_of_le h1) (Nat.le_trans h2 (Nat.le_add_right _ _)) hle1 hle2 h5 h6
  simp only [List.map_cons, am_cv, if_true] at k9
  rw [am_map_ext (γ := γ) (n := am_n M) (fun r hr => if_neg (Nat.ne_of_lt hr)) hc.2] at k9
  rw [show am_n M - n0 + 1 = am_n M + 1 - n0 by omega, show am_s M - s0 + N = am_s M + N - s0 by omega]
  exact k9
end AM8
