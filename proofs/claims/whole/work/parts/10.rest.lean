/-! the rest: the stack, statics, text constants, branches on references, switches, answers, calls -/
section AM9
variable {tb : am_Tb} {cc : ByteArray} {own : String} {mL : Nat} {rt : Option FieldType} {ini : Bool} {pc : Nat}
theorem am_16 (a : Nat) (h : 1 ≤ a ∧ a ≤ 6) : ∃ i : Nat, i < 6 ∧ a = 1 + i := ⟨a - 1, by omega, by omega⟩
theorem am_lt20 {n i : Nat} (h : 20 ≤ n) (hi : i < 6) : 1 + i + 6 < n := by omega
theorem am_ne16 {i : Nat} (hi : i < 6) : 1 + i + 6 ≠ 16 := by omega
theorem am_167 (i : Nat) : 1 + i + 6 = 7 + i := by omega
theorem am_acw : 8 + (nativeFrameWords "java/lang/System" "arraycopy" 5 + 11) ≤ 60 := by decide +kernel
theorem am_γnz {L : Nat} {xs : Nat → Int32} {γ : Nat → Value} {g : Nat → Nat} {A : Nat → Prop} {s : State} {H : Heap} (h : am_Fo L xs γ A s H) (hg : ∀ r, 20 ≤ r → γ r = .ref (g r)) {a : Nat} (h0 : ¬ a = 0) (h16 : ¬ a = 16) : ∃ q, γ a = .ref q := by
  rcases Nat.lt_or_ge a 20 with q | q
  · obtain ⟨_, _, _, _, _, _, _, _, _, _, _, _, _, _, _, h9⟩ := h
    exact h9 a q h0 h16
  · exact ⟨_, hg a q⟩
theorem ok_dup {np : Nat} (hd : decode cc pc = .ok (.dup, 1)) (hn : np = pc + 1) : am_ok tb cc own mL rt ini pc (o_dup np) := by
  intro X f M hF hpc
  obtain ⟨p, l, e, R, s, m, args, below, meth, c, Q, L, xs, D, A, n0, s0, γ0, N', S⟩ := X
  obtain ⟨hx, hb, hml, hown, hts, hlk, hini, hNc, hSc⟩ := hF
  obtain ⟨z, b0, pc', l', st⟩ := f
  dsimp only at hpc
  subst hpc
  unfold o_dup
  dsimp only
  split
  · rename_i x r
    subst hn
    refine ⟨Nat.le_refl _, Nat.le_refl _, fun hp hle1 hle2 hG γ g cA tys H locs ls hR hl hc hγ h1 h2 h3 h4 h5 h6 => ?_⟩
    exact lv_dup hx hb hd rfl (hG γ g cA tys H locs ls hR hl ⟨hc.1, am_cn1 trivial hc.2⟩ hγ h1 h2 h3 h4 h5 h6)
  · rename_i x r
    subst hn
    refine ⟨Nat.le_refl _, Nat.le_refl _, fun hp hle1 hle2 hG γ g cA tys H locs ls hR hl hc hγ h1 h2 h3 h4 h5 h6 => ?_⟩
    exact lv_dup hx hb hd (by show (γ x).category = 1; rcases am_γrf hR.2.2.2.2.2.1 hR.2.2.2.2.2.2.1 x with e | ⟨a, e⟩ <;> rw [e] <;> rfl) (hG γ g cA tys H locs ls hR hl ⟨hc.1, am_cn1 (am_hd hc.2) hc.2⟩ hγ h1 h2 h3 h4 h5 h6)
  · trivial
theorem ok_dup2 {np : Nat} (hd : decode cc pc = .ok (.dup2, 1)) (hn : np = pc + 1) : am_ok tb cc own mL rt ini pc (o_dup2 np) := by
  intro X f M hF hpc
  obtain ⟨p, l, e, R, s, m, args, below, meth, c, Q, L, xs, D, A, n0, s0, γ0, N', S⟩ := X
  obtain ⟨hx, hb, hml, hown, hts, hlk, hini, hNc, hSc⟩ := hF
  obtain ⟨z, b0, pc', l', st⟩ := f
  dsimp only at hpc
  subst hpc
  unfold o_dup2
  dsimp only
  split
  · rename_i y x r
    subst hn
    refine ⟨Nat.le_refl _, Nat.le_refl _, fun hp hle1 hle2 hG γ g cA tys H locs ls hR hl hc hγ h1 h2 h3 h4 h5 h6 => ?_⟩
    exact lv_dup2_11 hx hb hd rfl (by show (γ x).category = 1; rcases am_γrf hR.2.2.2.2.2.1 hR.2.2.2.2.2.2.1 x with e | ⟨a, e⟩ <;> rw [e] <;> rfl) (hG γ g cA tys H locs ls hR hl ⟨hc.1, am_cn1 trivial (am_cn1 (am_hd (am_tl hc.2)) hc.2)⟩ hγ h1 h2 h3 h4 h5 h6)
  · trivial
theorem ok_pop {np : Nat} (hd : decode cc pc = .ok (.pop, 1)) (hn : np = pc + 1) : am_ok tb cc own mL rt ini pc (o_pop np) := by
  intro X f M hF hpc
  obtain ⟨p, l, e, R, s, m, args, below, meth, c, Q, L, xs, D, A, n0, s0, γ0, N', S⟩ := X
  obtain ⟨hx, hb, hml, hown, hts, hlk, hini, hNc, hSc⟩ := hF
  obtain ⟨z, b0, pc', l', st⟩ := f
  dsimp only at hpc
  subst hpc
  unfold o_pop
  dsimp only
  split
  · rename_i x r
    subst hn
    refine ⟨Nat.le_refl _, Nat.le_refl _, fun hp hle1 hle2 hG γ g cA tys H locs ls hR hl hc hγ h1 h2 h3 h4 h5 h6 => ?_⟩
    exact lv_pop hx hb hd rfl (hG γ g cA tys H locs ls hR hl ⟨hc.1, am_tl hc.2⟩ hγ h1 h2 h3 h4 h5 h6)
  · trivial
theorem ok_above {np idx : Nat} (hd : decode cc pc = .ok (.getstatic idx, 3)) (hw : Cond.fieldLink own idx "DigFill" "ABOVE" "[I" ∈ am_words) (hn : np = pc + 3) : am_ok tb cc own mL rt ini pc (o_push (.ref 14) np) := by
  intro X f M hF hpc
  obtain ⟨p, l, e, R, s, m, args, below, meth, c, Q, L, xs, D, A, n0, s0, γ0, N', S⟩ := X
  obtain ⟨hx, hb, hml, hown, hts, hlk, hini, hNc, hSc⟩ := hF
  obtain ⟨z, b0, pc', l', st⟩ := f
  dsimp only at hpc
  subst hpc
  unfold o_push
  dsimp only
  subst hn
  refine ⟨Nat.le_refl _, Nat.le_refl _, fun hp hle1 hle2 hG γ g cA tys H locs ls hR hl hc hγ h1 h2 h3 h4 h5 h6 => ?_⟩
  obtain ⟨adK, adV, tS, tA, tD, f1, f2, f3, ⟨f4, f4a, f4z⟩, ⟨f5, f5a, f5z⟩, f6, f7, f8, f9, f10, f11⟩ := hR.2.2.2.2.2.1
  have k9 := (hG γ g cA tys H locs ls hR hl ⟨hc.1, am_cn1 (show 14 < am_n M ∧ 14 ≠ 16 from ⟨by have := hR.2.2.2.2.2.2.2.1.1; omega, by decide⟩) hc.2⟩ hγ h1 h2 h3 h4 h5 h6)
  simp only [List.map_cons, am_cv] at k9
  rw [f4] at k9
  exact va_gets (C := "DigFill") hx hb f4z hR.2.2.2.1 hown (hts _ hw) (fun _ h => h) hd k9
theorem ok_aboveN {np idx : Nat} {host : String} (hd : decode cc pc = .ok (.getstatic idx, 3)) (hw : Cond.fieldLinkNest own idx "DigFill" "ABOVE" "[I" host ∈ am_nw) (hn : np = pc + 3) : am_ok tb cc own mL rt ini pc (o_push (.ref 14) np) := by
  intro X f M hF hpc
  obtain ⟨p, l, e, R, s, m, args, below, meth, c, Q, L, xs, D, A, n0, s0, γ0, N', S⟩ := X
  obtain ⟨hx, hb, hml, hown, hts, hlk, hini, hNc, hSc⟩ := hF
  obtain ⟨z, b0, pc', l', st⟩ := f
  dsimp only at hpc
  subst hpc
  unfold o_push
  dsimp only
  subst hn
  refine ⟨Nat.le_refl _, Nat.le_refl _, fun hp hle1 hle2 hG γ g cA tys H locs ls hR hl hc hγ h1 h2 h3 h4 h5 h6 => ?_⟩
  obtain ⟨adK, adV, tS, tA, tD, f1, f2, f3, ⟨f4, f4a, f4z⟩, ⟨f5, f5a, f5z⟩, f6, f7, f8, f9, f10, f11⟩ := hR.2.2.2.2.2.1
  have k9 := (hG γ g cA tys H locs ls hR hl ⟨hc.1, am_cn1 (show 14 < am_n M ∧ 14 ≠ 16 from ⟨by have := hR.2.2.2.2.2.2.2.1.1; omega, by decide⟩) hc.2⟩ hγ h1 h2 h3 h4 h5 h6)
  simp only [List.map_cons, am_cv] at k9
  rw [f4] at k9
  exact va_getsN (C := "DigFill") hx hb f4z hR.2.2.2.1 hown (va_Nw.use rfl (f10 _ hw)) (fun _ h => h) hd k9
theorem ok_digits {np idx : Nat} (hd : decode cc pc = .ok (.getstatic idx, 3)) (hw : Cond.fieldLink own idx "DigFill$Dealer" "DIGITS" "[J" ∈ am_words) (hn : np = pc + 3) : am_ok tb cc own mL rt ini pc (o_push (.ref 15) np) := by
  intro X f M hF hpc
  obtain ⟨p, l, e, R, s, m, args, below, meth, c, Q, L, xs, D, A, n0, s0, γ0, N', S⟩ := X
  obtain ⟨hx, hb, hml, hown, hts, hlk, hini, hNc, hSc⟩ := hF
  obtain ⟨z, b0, pc', l', st⟩ := f
  dsimp only at hpc
  subst hpc
  unfold o_push
  dsimp only
  subst hn
  refine ⟨Nat.le_refl _, Nat.le_refl _, fun hp hle1 hle2 hG γ g cA tys H locs ls hR hl hc hγ h1 h2 h3 h4 h5 h6 => ?_⟩
  obtain ⟨adK, adV, tS, tA, tD, f1, f2, f3, ⟨f4, f4a, f4z⟩, ⟨f5, f5a, f5z⟩, f6, f7, f8, f9, f10, f11⟩ := hR.2.2.2.2.2.1
  have k9 := (hG γ g cA tys H locs ls hR hl ⟨hc.1, am_cn1 (show 15 < am_n M ∧ 15 ≠ 16 from ⟨by have := hR.2.2.2.2.2.2.2.1.1; omega, by decide⟩) hc.2⟩ hγ h1 h2 h3 h4 h5 h6)
  simp only [List.map_cons, am_cv] at k9
  rw [f5] at k9
  exact va_gets (C := "DigFill$Dealer") hx hb f5z hR.2.2.2.1 hown (hts _ hw) (fun _ h => h) hd k9
theorem ok_digitsN {np idx : Nat} {host : String} (hd : decode cc pc = .ok (.getstatic idx, 3)) (hw : Cond.fieldLinkNest own idx "DigFill$Dealer" "DIGITS" "[J" host ∈ am_nw) (hn : np = pc + 3) : am_ok tb cc own mL rt ini pc (o_push (.ref 15) np) := by
  intro X f M hF hpc
  obtain ⟨p, l, e, R, s, m, args, below, meth, c, Q, L, xs, D, A, n0, s0, γ0, N', S⟩ := X
  obtain ⟨hx, hb, hml, hown, hts, hlk, hini, hNc, hSc⟩ := hF
  obtain ⟨z, b0, pc', l', st⟩ := f
  dsimp only at hpc
  subst hpc
  unfold o_push
  dsimp only
  subst hn
  refine ⟨Nat.le_refl _, Nat.le_refl _, fun hp hle1 hle2 hG γ g cA tys H locs ls hR hl hc hγ h1 h2 h3 h4 h5 h6 => ?_⟩
  obtain ⟨adK, adV, tS, tA, tD, f1, f2, f3, ⟨f4, f4a, f4z⟩, ⟨f5, f5a, f5z⟩, f6, f7, f8, f9, f10, f11⟩ := hR.2.2.2.2.2.1
  have k9 := (hG γ g cA tys H locs ls hR hl ⟨hc.1, am_cn1 (show 15 < am_n M ∧ 15 ≠ 16 from ⟨by have := hR.2.2.2.2.2.2.2.1.1; omega, by decide⟩) hc.2⟩ hγ h1 h2 h3 h4 h5 h6)
  simp only [List.map_cons, am_cv] at k9
  rw [f5] at k9
  exact va_getsN (C := "DigFill$Dealer") hx hb f5z hR.2.2.2.1 hown (va_Nw.use rfl (f10 _ hw)) (fun _ h => h) hd k9
theorem ok_compact {np idx : Nat} (hd : decode cc pc = .ok (.getstatic idx, 3)) (hw : Cond.fieldLink own idx "java/lang/String" "COMPACT_STRINGS" "Z" ∈ am_words) (hn : np = pc + 3) : am_ok tb cc own mL rt ini pc (o_push (.int 1) np) := by
  intro X f M hF hpc
  obtain ⟨p, l, e, R, s, m, args, below, meth, c, Q, L, xs, D, A, n0, s0, γ0, N', S⟩ := X
  obtain ⟨hx, hb, hml, hown, hts, hlk, hini, hNc, hSc⟩ := hF
  obtain ⟨z, b0, pc', l', st⟩ := f
  dsimp only at hpc
  subst hpc
  unfold o_push
  dsimp only
  subst hn
  refine ⟨Nat.le_refl _, Nat.le_refl _, fun hp hle1 hle2 hG γ g cA tys H locs ls hR hl hc hγ h1 h2 h3 h4 h5 h6 => ?_⟩
  obtain ⟨adK, adV, tS, tA, tD, f1, f2, f3, ⟨f4, f4a, f4z⟩, ⟨f5, f5a, f5z⟩, f6, f7, f8, f9, f10, f11⟩ := hR.2.2.2.2.2.1
  have k9 := (hG γ g cA tys H locs ls hR hl ⟨hc.1, am_cn1 (trivial) hc.2⟩ hγ h1 h2 h3 h4 h5 h6)
  simp only [List.map_cons, am_cv] at k9
  exact va_gets (C := "java/lang/String") hx hb f6 hR.2.2.2.1 hown (hts _ hw) (fun _ h => h) hd k9
theorem ok_compactN {np idx : Nat} {host : String} (hd : decode cc pc = .ok (.getstatic idx, 3)) (hw : Cond.fieldLinkNest own idx "java/lang/String" "COMPACT_STRINGS" "Z" host ∈ am_nw) (hn : np = pc + 3) : am_ok tb cc own mL rt ini pc (o_push (.int 1) np) := by
  intro X f M hF hpc
  obtain ⟨p, l, e, R, s, m, args, below, meth, c, Q, L, xs, D, A, n0, s0, γ0, N', S⟩ := X
  obtain ⟨hx, hb, hml, hown, hts, hlk, hini, hNc, hSc⟩ := hF
  obtain ⟨z, b0, pc', l', st⟩ := f
  dsimp only at hpc
  subst hpc
  unfold o_push
  dsimp only
  subst hn
  refine ⟨Nat.le_refl _, Nat.le_refl _, fun hp hle1 hle2 hG γ g cA tys H locs ls hR hl hc hγ h1 h2 h3 h4 h5 h6 => ?_⟩
  obtain ⟨adK, adV, tS, tA, tD, f1, f2, f3, ⟨f4, f4a, f4z⟩, ⟨f5, f5a, f5z⟩, f6, f7, f8, f9, f10, f11⟩ := hR.2.2.2.2.2.1
  have k9 := (hG γ g cA tys H locs ls hR hl ⟨hc.1, am_cn1 (trivial) hc.2⟩ hγ h1 h2 h3 h4 h5 h6)
  simp only [List.map_cons, am_cv] at k9
  exact va_getsN (C := "java/lang/String") hx hb f6 hR.2.2.2.1 hown (va_Nw.use rfl (f10 _ hw)) (fun _ h => h) hd k9
theorem ok_sioobe {np idx : Nat} (hd : decode cc pc = .ok (.getstatic idx, 3)) (hw : Cond.fieldLink own idx "jdk/internal/util/Preconditions" "SIOOBE_FORMATTER" "Ljava/util/function/BiFunction;" ∈ am_words) (hn : np = pc + 3) : am_ok tb cc own mL rt ini pc (o_push (.retAddr 0) np) := by
  intro X f M hF hpc
  obtain ⟨p, l, e, R, s, m, args, below, meth, c, Q, L, xs, D, A, n0, s0, γ0, N', S⟩ := X
  obtain ⟨hx, hb, hml, hown, hts, hlk, hini, hNc, hSc⟩ := hF
  obtain ⟨z, b0, pc', l', st⟩ := f
  dsimp only at hpc
  subst hpc
  unfold o_push
  dsimp only
  subst hn
  refine ⟨Nat.le_refl _, Nat.le_refl _, fun hp hle1 hle2 hG γ g cA tys H locs ls hR hl hc hγ h1 h2 h3 h4 h5 h6 => ?_⟩
  obtain ⟨adK, adV, tS, tA, tD, f1, f2, f3, ⟨f4, f4a, f4z⟩, ⟨f5, f5a, f5z⟩, f6, f7, f8, f9, f10, f11⟩ := hR.2.2.2.2.2.1
  have k9 := (hG γ g cA tys H locs ls hR hl ⟨hc.1, am_cn1 (show 16 < am_n M by have := hR.2.2.2.2.2.2.2.1.1; omega) hc.2⟩ hγ h1 h2 h3 h4 h5 h6)
  simp only [List.map_cons, am_cv] at k9
  exact va_gets (C := "jdk/internal/util/Preconditions") hx hb f7 hR.2.2.2.1 hown (hts _ hw) (fun _ h => h) hd k9
theorem ok_sioobeN {np idx : Nat} {host : String} (hd : decode cc pc = .ok (.getstatic idx, 3)) (hw : Cond.fieldLinkNest own idx "jdk/internal/util/Preconditions" "SIOOBE_FORMATTER" "Ljava/util/function/BiFunction;" host ∈ am_nw) (hn : np = pc + 3) : am_ok tb cc own mL rt ini pc (o_push (.retAddr 0) np) := by
  intro X f M hF hpc
  obtain ⟨p, l, e, R, s, m, args, below, meth, c, Q, L, xs, D, A, n0, s0, γ0, N', S⟩ := X
  obtain ⟨hx, hb, hml, hown, hts, hlk, hini, hNc, hSc⟩ := hF
  obtain ⟨z, b0, pc', l', st⟩ := f
  dsimp only at hpc
  subst hpc
  unfold o_push
  dsimp only
  subst hn
  refine ⟨Nat.le_refl _, Nat.le_refl _, fun hp hle1 hle2 hG γ g cA tys H locs ls hR hl hc hγ h1 h2 h3 h4 h5 h6 => ?_⟩
  obtain ⟨adK, adV, tS, tA, tD, f1, f2, f3, ⟨f4, f4a, f4z⟩, ⟨f5, f5a, f5z⟩, f6, f7, f8, f9, f10, f11⟩ := hR.2.2.2.2.2.1
  have k9 := (hG γ g cA tys H locs ls hR hl ⟨hc.1, am_cn1 (show 16 < am_n M by have := hR.2.2.2.2.2.2.2.1.1; omega) hc.2⟩ hγ h1 h2 h3 h4 h5 h6)
  simp only [List.map_cons, am_cv] at k9
  exact va_getsN (C := "jdk/internal/util/Preconditions") hx hb f7 hR.2.2.2.1 hown (va_Nw.use rfl (f10 _ hw)) (fun _ h => h) hd k9
theorem ok_ldcS {np i : Nat} (hd : decode cc pc = .ok (.ldc (am_six i), 2)) (hi : i < 6) (ho : own = RX5) (hn : np = pc + 2) : am_ok tb cc own mL rt ini pc (o_push (.ref (1 + i)) np) := by
  intro X f M hF hpc
  obtain ⟨p, l, e, R, s, m, args, below, meth, c, Q, L, xs, D, A, n0, s0, γ0, N', S⟩ := X
  obtain ⟨hx, hb, hml, hown, hts, hlk, hini, hNc, hSc⟩ := hF
  obtain ⟨z, b0, pc', l', st⟩ := f
  dsimp only at hpc
  subst hpc
  unfold o_push
  dsimp only
  subst hn
  subst ho
  refine ⟨Nat.le_refl _, Nat.le_refl _, fun hp hle1 hle2 hG γ g cA tys H locs ls hR hl hc hγ h1 h2 h3 h4 h5 h6 => ?_⟩
  obtain ⟨adK, adV, tS, tA, tD, f1, f2, f3, ⟨f4, f4a, f4z⟩, ⟨f5, f5a, f5z⟩, f6, f7, f8, f9, f10, f11⟩ := hR.2.2.2.2.2.1
  have k9 := (hG γ g cA tys H locs ls hR hl ⟨hc.1, am_cn1 (show 1 + i < am_n M ∧ 1 + i ≠ 16 from ⟨by have := hR.2.2.2.2.2.2.2.1.1; omega, by omega⟩) hc.2⟩ hγ h1 h2 h3 h4 h5 h6)
  simp only [List.map_cons, am_cv] at k9
  rw [(f2 i hi).1] at k9
  exact va_ldcS hx hb hown (f2 i hi).2.2 hd k9
theorem ok_strV {np idx : Nat} (hd : decode cc pc = .ok (.getfield idx, 3)) (hw : Cond.fieldLink own idx "java/lang/String" "value" "[B" ∈ am_words) (hn : np = pc + 3) : am_ok tb cc own mL rt ini pc (o_strV np) := by
  intro X f M hF hpc
  obtain ⟨p, l, e, R, s, m, args, below, meth, c, Q, L, xs, D, A, n0, s0, γ0, N', S⟩ := X
  obtain ⟨hx, hb, hml, hown, hts, hlk, hini, hNc, hSc⟩ := hF
  obtain ⟨z, b0, pc', l', st⟩ := f
  dsimp only at hpc
  subst hpc
  unfold o_strV
  dsimp only
  split
  · rename_i a r
    subst hn
    refine ⟨Nat.le_refl _, Nat.le_refl _, fun hp hle1 hle2 hG γ g cA tys H locs ls hR hl hc hγ h1 h2 h3 h4 h5 h6 => ?_⟩
    have hp : 1 ≤ a ∧ a ≤ 6 := hp
    obtain ⟨adK, adV, tS, tA, tD, f1, f2, f3, ⟨f4, f4a, f4z⟩, ⟨f5, f5a, f5z⟩, f6, f7, f8, f9, f10, f11⟩ := hR.2.2.2.2.2.1
    obtain ⟨i, hi, rfl⟩ := am_16 a hp
    have k9 := (hG γ g cA tys H locs ls hR hl ⟨hc.1, am_cn1 (show 1 + i + 6 < am_n M ∧ 1 + i + 6 ≠ 16 from ⟨am_lt20 hR.2.2.2.2.2.2.2.1.1 hi, am_ne16 hi⟩) (am_tl hc.2)⟩ hγ h1 h2 h3 h4 h5 h6)
    simp only [List.map_cons, am_cv] at k9 ⊢
    rw [(f2 i hi).1]
    rw [am_167 i, (f2 i hi).2.1] at k9
    exact vk_getf hx hb (f1.1 i hi).2.2.1 hR.2.2.2.1 hown (hts _ hw) (fun _ h => h) hd k9
  · trivial
theorem ok_strC {np idx : Nat} (hd : decode cc pc = .ok (.getfield idx, 3)) (hw : Cond.fieldLink own idx "java/lang/String" "coder" "B" ∈ am_words) (hn : np = pc + 3) : am_ok tb cc own mL rt ini pc (o_strC np) := by
  intro X f M hF hpc
  obtain ⟨p, l, e, R, s, m, args, below, meth, c, Q, L, xs, D, A, n0, s0, γ0, N', S⟩ := X
  obtain ⟨hx, hb, hml, hown, hts, hlk, hini, hNc, hSc⟩ := hF
  obtain ⟨z, b0, pc', l', st⟩ := f
  dsimp only at hpc
  subst hpc
  unfold o_strC
  dsimp only
  split
  · rename_i a r
    subst hn
    refine ⟨Nat.le_refl _, Nat.le_refl _, fun hp hle1 hle2 hG γ g cA tys H locs ls hR hl hc hγ h1 h2 h3 h4 h5 h6 => ?_⟩
    have hp : 1 ≤ a ∧ a ≤ 6 := hp
    obtain ⟨adK, adV, tS, tA, tD, f1, f2, f3, ⟨f4, f4a, f4z⟩, ⟨f5, f5a, f5z⟩, f6, f7, f8, f9, f10, f11⟩ := hR.2.2.2.2.2.1
    obtain ⟨i, hi, rfl⟩ := am_16 a hp
    have k9 := (hG γ g cA tys H locs ls hR hl ⟨hc.1, am_cn1 trivial (am_tl hc.2)⟩ hγ h1 h2 h3 h4 h5 h6)
    simp only [List.map_cons, am_cv] at k9 ⊢
    rw [(f2 i hi).1]
    skip
    exact vk_getf hx hb (f1.1 i hi).2.1 hR.2.2.2.1 hown (hts _ hw) (fun _ h => h) hd k9
  · trivial
theorem am_γnull {L : Nat} {xs : Nat → Int32} {γ : Nat → Value} {g : Nat → Nat} {A : Nat → Prop} {s : State} {H : Heap} (h : am_Fo L xs γ A s H) (hg : ∀ r, 20 ≤ r → γ r = .ref (g r)) {a : Nat} (h0 : ¬ a = 0) (ha : 20 ≤ a) : ∃ q, γ a = .ref q := ⟨_, hg a ha⟩
theorem am_F0 {L : Nat} {xs : Nat → Int32} {γ : Nat → Value} {A : Nat → Prop} {s : State} {H : Heap} (h : am_Fo L xs γ A s H) : γ 0 = .null := by
  obtain ⟨_, _, _, _, _, _, _, _, _, _, _, _, h8, _⟩ := h
  exact h8
theorem ok_ifnull {off : Int} {tg np : Nat} (hd : decode cc pc = .ok (.ifnull off, 3)) (ht : (pc : Int) + off = (tg : Int)) (hn : np = pc + 3) : am_ok tb cc own mL rt ini pc (o_null tg np) := by
  intro X f M hF hpc
  obtain ⟨p, l, e, R, s, m, args, below, meth, c, Q, L, xs, D, A, n0, s0, γ0, N', S⟩ := X
  obtain ⟨hx, hb, hml, hown, hts, hlk, hini, hNc, hSc⟩ := hF
  obtain ⟨z, b0, pc', l', st⟩ := f
  dsimp only at hpc
  subst hpc
  unfold o_null
  dsimp only
  split
  · rename_i a r
    subst hn
    intro hp hT hE γ g cA tys H locs ls hR hl hc hγ h1 h2 h3 h4 h5 h6
    simp only [List.map_cons, am_cv]
    by_cases h0 : a = 0
    · have k9 := hT h0 γ g cA tys H locs ls hR hl ⟨hc.1, am_tl hc.2⟩ hγ h1 h2 h3 h4 h5 h6
      rw [h0, am_F0 hR.2.2.2.2.2.1]
      exact lv_ifnullN hx hb hd ht k9
    · have k9 := hE h0 γ g cA tys H locs ls hR hl ⟨hc.1, am_tl hc.2⟩ hγ h1 h2 h3 h4 h5 h6
      obtain ⟨q, hq⟩ := am_γnz hR.2.2.2.2.2.1 hR.2.2.2.2.2.2.1 h0 (am_hd hc.2).2
      rw [hq]
      exact lv_ifnull hx hb hd k9
  · trivial
theorem ok_ifnonnull {off : Int} {tg np : Nat} (hd : decode cc pc = .ok (.ifnonnull off, 3)) (ht : (pc : Int) + off = (tg : Int)) (hn : np = pc + 3) : am_ok tb cc own mL rt ini pc (o_null np tg) := by
  intro X f M hF hpc
  obtain ⟨p, l, e, R, s, m, args, below, meth, c, Q, L, xs, D, A, n0, s0, γ0, N', S⟩ := X
  obtain ⟨hx, hb, hml, hown, hts, hlk, hini, hNc, hSc⟩ := hF
  obtain ⟨z, b0, pc', l', st⟩ := f
  dsimp only at hpc
  subst hpc
  unfold o_null
  dsimp only
  split
  · rename_i a r
    subst hn
    intro hp hT hE γ g cA tys H locs ls hR hl hc hγ h1 h2 h3 h4 h5 h6
    simp only [List.map_cons, am_cv]
    by_cases h0 : a = 0
    · have k9 := hT h0 γ g cA tys H locs ls hR hl ⟨hc.1, am_tl hc.2⟩ hγ h1 h2 h3 h4 h5 h6
      rw [h0, am_F0 hR.2.2.2.2.2.1]
      exact lv_ifnonnullN hx hb hd k9
    · have k9 := hE h0 γ g cA tys H locs ls hR hl ⟨hc.1, am_tl hc.2⟩ hγ h1 h2 h3 h4 h5 h6
      obtain ⟨q, hq⟩ := am_γnz hR.2.2.2.2.2.1 hR.2.2.2.2.2.2.1 h0 (am_hd hc.2).2
      rw [hq]
      exact lv_ifnonnull hx hb hd ht k9
  · trivial
theorem am_γinj {L : Nat} {xs : Nat → Int32} {D : va_G} {γ : Nat → Value} {g : Nat → Nat} {cA : Nat → ClassId} {tys : List (ClassId × FieldType)} {A : Nat → Prop} {H : Heap} {locs : List Loc} {s : State} {M : am_M} (hR : am_Rel L xs D γ g cA tys A H locs s M) {x y : Nat} (hx : x < am_n M) (hy : y < am_n M) (hx2 : 20 ≤ x) (hy2 : 20 ≤ y) (h : γ x = γ y) : x = y := by
  rw [hR.2.2.2.2.2.2.1 x hx2, hR.2.2.2.2.2.2.1 y hy2] at h
  have hg : g x = g y := Value.ref.inj h
  have := hR.2.2.1.1 _ _ _ _ (am_ws_get (g := g) (cA := cA) (M := M) hx2 hx) (am_ws_get (g := g) (cA := cA) (M := M) hy2 hy) hg
  omega
theorem ok_acmpne {off : Int} {tg np : Nat} (hd : decode cc pc = .ok (.if_acmp .ne off, 3)) (ht : (pc : Int) + off = (tg : Int)) (hn : np = pc + 3) : am_ok tb cc own mL rt ini pc (o_same np tg) := by
  intro X f M hF hpc
  obtain ⟨p, l, e, R, s, m, args, below, meth, c, Q, L, xs, D, A, n0, s0, γ0, N', S⟩ := X
  obtain ⟨hx, hb, hml, hown, hts, hlk, hini, hNc, hSc⟩ := hF
  obtain ⟨z, b0, pc', l', st⟩ := f
  dsimp only at hpc
  subst hpc
  unfold o_same
  dsimp only
  split
  · rename_i y x r
    subst hn
    intro hp hT hE γ g cA tys H locs ls hR hl hc hγ h1 h2 h3 h4 h5 h6
    simp only [List.map_cons, am_cv]
    have hxy : 20 ≤ x ∧ 20 ≤ y := hp
    have hT' : x = y → _ := fun hq => hT hq γ g cA tys H locs ls hR hl ⟨hc.1, am_tl (am_tl hc.2)⟩ hγ h1 h2 h3 h4 h5 h6
    have hE' : ¬ x = y → _ := fun hq => hE hq γ g cA tys H locs ls hR hl ⟨hc.1, am_tl (am_tl hc.2)⟩ hγ h1 h2 h3 h4 h5 h6
    have ex := hR.2.2.2.2.2.2.1 x hxy.1
    have ey := hR.2.2.2.2.2.2.1 y hxy.2
    have hinj : (some (g x) = some (g y)) ↔ x = y := ⟨fun z => am_γinj hR (am_hd (am_tl hc.2)).1 (am_hd hc.2).1 hxy.1 hxy.2 (by rw [ex, ey, Option.some.inj z]), fun z => by rw [z]⟩
    rw [ex, ey]
    exact lv_acmp_ne (rx := some (g x)) (ry := some (g y)) hx hb hd ht (fun q => hE' (fun z => q (hinj.mpr z))) (fun q => hT' (hinj.mp q))
  · trivial
theorem am_swf_cases {x : Int32} {F : Nat → am_F} {d : Nat} : ∀ cs : List (Int32 × Nat), (∃ q ∈ cs, x = q.1 ∧ am_swf x (cs.map (fun q => (q.1, F q.2))) (F d) = F q.2) ∨ ((∀ q ∈ cs, x ≠ q.1) ∧ am_swf x (cs.map (fun q => (q.1, F q.2))) (F d) = F d)
  | [] => Or.inr ⟨fun _ h => (by cases h), rfl⟩
  | (k, t) :: r => by
    by_cases hx : x = k
    · exact Or.inl ⟨(k, t), List.mem_cons_self, hx, by simp [am_swf, hx]⟩
    · rcases am_swf_cases (x := x) (F := F) (d := d) r with ⟨q, hq, h1, h2⟩ | ⟨h1, h2⟩
      · exact Or.inl ⟨q, List.mem_cons_of_mem _ hq, h1, by simp only [List.map_cons, am_swf, if_neg hx]; exact h2⟩
      · refine Or.inr ⟨fun q hq => ?_, by simp only [List.map_cons, am_swf, if_neg hx]; exact h2⟩
        rcases List.mem_cons.mp hq with rfl | hq
        · exact hx
        · exact h1 q hq
theorem ok_table {dflt lo hi : Int} {offs : Array Int} {len d : Nat} {cs : List (Int32 × Nat)} (hd : decode cc pc = .ok (.tableswitch dflt lo hi offs, len)) (hdf : (pc : Int) + dflt = (d : Int)) (h1 : ∀ q ∈ cs, lo ≤ q.1.toInt ∧ q.1.toInt ≤ hi ∧ (offs[(q.1.toInt - lo).toNat]?).map (fun off => (pc : Int) + off) = some (q.2 : Int)) (h2 : cs.map (fun q => q.1.toInt) = (List.range (hi - lo + 1).toNat).map (fun (i : Nat) => lo + (i : Int))) : am_ok tb cc own mL rt ini pc (o_sw cs d) := by
  intro X f M hF hpc
  obtain ⟨p, l, e, R, s, m, args, below, meth, c, Q, L, xs, D, A, n0, s0, γ0, N', S⟩ := X
  obtain ⟨hx, hb, hml, hown, hts, hlk, hini, hNc, hSc⟩ := hF
  obtain ⟨z, b0, pc', l', st⟩ := f
  dsimp only at hpc
  subst hpc
  unfold o_sw
  dsimp only
  split
  · rename_i x r
    intro hG γ g cA tys H locs ls hR hl hc hγ g1 g2 g3 g4 g5 g6
    rcases am_swf_cases (x := x) (F := fun t => am_fr (z, b0, pc', l', Value.int x :: r) t r) (d := d) cs with ⟨q, hq, e1, e2⟩ | ⟨e1, e2⟩
    · rw [e2] at hG
      have k9 := hG γ g cA tys H locs ls hR hl ⟨hc.1, am_tl hc.2⟩ hγ g1 g2 g3 g4 g5 g6
      obtain ⟨a1, a2, a3⟩ := h1 q hq
      cases ho : offs[(q.1.toInt - lo).toNat]? with
      | none => rw [ho] at a3; cases a3
      | some off =>
        rw [ho] at a3
        have a3 := Option.some.inj a3
        exact lv_tableIn hx hb hd (by rw [e1]; omega) (by rw [e1]; omega) (by rw [e1]; exact ho) a3 k9
    · rw [e2] at hG
      have k9 := hG γ g cA tys H locs ls hR hl ⟨hc.1, am_tl hc.2⟩ hγ g1 g2 g3 g4 g5 g6
      refine lv_tableOut hx hb hd ?_ hdf k9
      by_cases hin : lo ≤ x.toInt ∧ x.toInt ≤ hi
      · have hm : x.toInt ∈ cs.map (fun q => q.1.toInt) := by rw [h2]; exact List.mem_map.mpr ⟨(x.toInt - lo).toNat, List.mem_range.mpr (by omega), by omega⟩
        obtain ⟨q, hq, hqx⟩ := List.mem_map.mp hm
        exact absurd (Int32.toInt_inj.mp hqx.symm) (e1 q hq)
      · omega
  · trivial
theorem am_lk {x : Int32} {pc d : Nat} {dflt : Int} (hdf : (pc : Int) + dflt = (d : Int)) {F : Nat → am_F} : ∀ (cs : List (Int32 × Nat)) (ps : List (Int × Int)), cs.map (fun q => (q.1.toInt, (q.2 : Int) - pc)) = ps → ∃ t : Nat, am_swf x (cs.map (fun q => (q.1, F q.2))) (F d) = F t ∧ (pc : Int) + Op.lookupswitch.offset ps dflt x.toInt = (t : Int)
  | [], ps, h => by
    subst h
    exact ⟨d, rfl, hdf⟩
  | (k, t) :: r, ps, h => by
    subst h
    by_cases hx : x = k
    · refine ⟨t, by simp [am_swf, hx], ?_⟩
      simp only [List.map_cons, Op.lookupswitch.offset, hx, if_true]
      try simp
      try omega
    · obtain ⟨t', h1, h2⟩ := am_lk hdf (x := x) (F := F) r _ rfl
      refine ⟨t', by simp only [List.map_cons, am_swf, if_neg hx]; exact h1, ?_⟩
      rw [List.map_cons, lv_osw hx rfl]
      exact h2
theorem ok_lookup {dflt : Int} {ps : Array (Int × Int)} {len d : Nat} {cs : List (Int32 × Nat)} (hd : decode cc pc = .ok (.lookupswitch dflt ps, len)) (hp : (ps.toList.zip (ps.toList.drop 1)).all (fun (a, next) => a.1 < next.1) = true) (hdf : (pc : Int) + dflt = (d : Int)) (h1 : cs.map (fun q => (q.1.toInt, (q.2 : Int) - pc)) = ps.toList) : am_ok tb cc own mL rt ini pc (o_sw cs d) := by
  intro X f M hF hpc
  obtain ⟨p, l, e, R, s, m, args, below, meth, c, Q, L, xs, D, A, n0, s0, γ0, N', S⟩ := X
  obtain ⟨hx, hb, hml, hown, hts, hlk, hini, hNc, hSc⟩ := hF
  obtain ⟨z, b0, pc', l', st⟩ := f
  dsimp only at hpc
  subst hpc
  unfold o_sw
  dsimp only
  split
  · rename_i x r
    intro hG γ g cA tys H locs ls hR hl hc hγ g1 g2 g3 g4 g5 g6
    obtain ⟨t, e1, e2⟩ := am_lk (x := x) hdf (F := fun t => am_fr (z, b0, pc', l', Value.int x :: r) t r) cs _ h1
    rw [e1] at hG
    exact lv_lookup hx hb hd hp rfl e2 (hG γ g cA tys H locs ls hR hl ⟨hc.1, am_tl hc.2⟩ hγ g1 g2 g3 g4 g5 g6)
  · trivial
theorem am_cats_eq {γ : Nat → Value} (h : ∀ r, γ r = .null ∨ ∃ a, γ r = .ref a) : ∀ r : List Value, ((r.map (am_cv γ)).map fun v => v.category).sum = am_cats r
  | [] => rfl
  | v :: r => by
    simp only [List.map_cons, List.sum_cons, am_cats, am_cv_cat h v, am_cats_eq h r]
theorem am_bt {α : Type} {b : Bool} {x y : α} (h : b = true) : (bif b then x else y) = x := by rw [h]; rfl
theorem am_bf {α : Type} {b : Bool} {x y : α} (h : b = false) : (bif b then x else y) = y := by rw [h]; rfl
theorem ok_oinit {np idx : Nat} (hd : decode cc pc = .ok (.invokespecial idx, 3)) (hw1 : Cond.methodLink own idx objectInit ∈ am_words) (hw2 : Cond.instanceMethod objectInit ∈ am_words) (hw3 : Cond.code objectInit ⟨#[0xb1]⟩ 1 none ∈ am_words) (hn : np = pc + 3) : am_ok tb cc own mL rt ini pc (o_oinit np) := by
  intro X f M hF hpc
  obtain ⟨p, l, e, R, s, m, args, below, meth, c, Q, L, xs, D, A, n0, s0, γ0, N', S⟩ := X
  obtain ⟨hx, hb, hml, hown, hts, hlk, hini, hNc, hSc⟩ := hF
  obtain ⟨z, b0, pc', l', st⟩ := f
  dsimp only at hpc
  subst hpc
  unfold o_oinit
  dsimp only
  split
  · rename_i a r
    subst hn
    cases hcat : Nat.ble (am_cats r) 8 with
    | false => rw [am_bf rfl]; trivial
    | true =>
      rw [am_bt rfl]
      refine ⟨Nat.le_refl _, Nat.le_refl _, fun hp hle1 hle2 hG γ g cA tys H locs ls hR hl hc hγ h1 h2 h3 h4 h5 h6 => ?_⟩
      simp only [List.map_cons, am_cv]
      have hca := am_cats_eq (am_γrf hR.2.2.2.2.2.1 hR.2.2.2.2.2.2.1) r
      have hle := Nat.le_of_ble_eq_true hcat
      have h5 : b0 + 1 ≤ R.frames := h5
      have h6 : 60 * (b0 + 1) ≤ R.locals := h6
      have k9 := (hG γ g cA tys H locs ls hR hl ⟨hc.1, am_tl hc.2⟩ hγ h1 h2 h3 h4 h5 h6)
      obtain ⟨q, hq⟩ : ∃ q, γ a = .ref q := am_γnz hR.2.2.2.2.2.1 hR.2.2.2.2.2.2.1 hp (am_hd hc.2).2
      rw [hq]
      exact W.objInit hx hb hown (hts _ hw1) (hts _ hw2) (hts _ hw3) rfl (by exact hl.1) rfl hd (by omega) (by show 2 * 0 + _ + 12 ≤ _; rw [hca]; omega) k9
  · trivial
theorem ok_acopy {np idx : Nat} (hd : decode cc pc = .ok (.invokestatic idx, 3)) (hw1 : Cond.methodLink own idx arraycopyName ∈ am_words) (hw2 : Cond.native arraycopyName ∈ am_words) (hw3 : Cond.static arraycopyName ∈ am_words) (hw4 : Cond.initialized "java/lang/System" ∈ am_words) (hn : np = pc + 3) : am_ok tb cc own mL rt ini pc (o_acopy np) := by
  intro X f M hF hpc
  obtain ⟨p, l, e, R, s, m, args, below, meth, c, Q, L, xs, D, A, n0, s0, γ0, N', S⟩ := X
  obtain ⟨hx, hb, hml, hown, hts, hlk, hini, hNc, hSc⟩ := hF
  obtain ⟨z, b0, pc', l', st⟩ := f
  dsimp only at hpc
  subst hpc
  unfold o_acopy
  dsimp only
  split
  · rename_i n dp a sp a0 r
    subst hn
    cases hcat : Nat.ble (am_cats r) 8 with
    | false => rw [am_bf rfl]; trivial
    | true =>
      rw [am_bt rfl]
      refine ⟨Nat.le_refl _, Nat.le_refl _, fun hp hle1 hle2 hG γ g cA tys H locs ls hR hl hc hγ h1 h2 h3 h4 h5 h6 => ?_⟩
      obtain ⟨p1, p2, p3, p4, p5, p6, p7⟩ : (am_K M a0).1 = 20 ∧ (am_K M a).1 = 20 ∧ ¬ sp < 0 ∧ ¬ dp < 0 ∧ ¬ n < 0 ∧ sp.toNatClampNeg + n.toNatClampNeg ≤ (am_K M a0).2 ∧ dp.toNatClampNeg + n.toNatClampNeg ≤ (am_K M a).2 := hp
      have h5 : b0 + 1 ≤ R.frames := h5
      have h6 : 60 * (b0 + 1) ≤ R.locals := h6
      obtain ⟨a1, a2⟩ := hR.2.2.2.2.2.2.2.1.own (a := a) (by rw [p2]; decide)
      obtain ⟨c1, c2⟩ := hR.2.2.2.2.2.2.2.1.own (a := a0) (by rw [p1]; decide)
      have hga := hR.2.2.2.2.2.2.1 a a1
      have hgc := hR.2.2.2.2.2.2.1 a0 c1
      have hea := am_ws_get (g := g) (cA := cA) (M := M) a1 a2
      rw [am_e_int p2 (by decide) (by decide)] at hea
      have hec := am_ws_get (g := g) (cA := cA) (M := M) c1 c2
      rw [am_e_int p1 (by decide) (by decide)] at hec
      obtain ⟨t0, ht0⟩ := hR.2.2.2.2.2.2.2.2 a a1 a2 (by rw [p2]; decide)
      rw [p2] at ht0
      obtain ⟨t1, ht1⟩ := hR.2.2.2.2.2.2.2.2 a0 c1 c2 (by rw [p1]; decide)
      rw [p1] at ht1
      have hca := am_cats_eq (am_γrf hR.2.2.2.2.2.1 hR.2.2.2.2.2.2.1) r
      have hle := Nat.le_of_ble_eq_true hcat
      simp only [List.map_cons, am_cv, hga, hgc]
      refine va_copyi (D := D) (cl := am_cl) hx hb hl.1.symm hown (hts _ hw1) (hts _ hw2) (hts _ hw3) (hts _ hw4) hR.1 hR.2.1 hR.2.2.1 hR.2.2.2.1 (a0 - 20) (a - 20) t1 t0 hec hea ht1 ht0 rfl p3 p4 p5 p6 p7 (fun i _ => rfl) (by omega) (by rw [hca]; exact Nat.le_trans (Nat.add_le_add hle (Nat.le_refl _)) (Nat.le_trans am_acw (by omega))) hd (fun H1 locs1 hP1 hD1 hS1 => ?_)
      have e9 : am_I (am_rowI M a (va_cpy (am_I M a0) (am_I M a) sp.toNatClampNeg dp.toNatClampNeg n.toNatClampNeg)) a = va_cpy (am_I M a0) (am_I M a) sp.toNatClampNeg dp.toNatClampNeg n.toNatClampNeg := by funext j; exact if_pos rfl
      rw [← e9] at hP1 hD1
      refine hG γ g cA tys H1 locs1 ls (hR.keep (M' := am_rowI M a (va_cpy (am_I M a0) (am_I M a) sp.toNatClampNeg dp.toNatClampNeg n.toNatClampNeg)) a1 rfl rfl (fun q hq => by funext j; exact if_neg hq) (fun _ _ => rfl) (fun _ _ => rfl) (fun j => hR.2.2.2.2.2.2.2.1.2.2.2.2 a j) (am_e_int p2 (by decide) (by decide)) hP1 hD1 hS1) hl ⟨hc.1, am_tl (am_tl (am_tl (am_tl (am_tl hc.2))))⟩ hγ h1 h2 h3 h4 h5 h6
  · trivial
theorem ok_mmin {np idx : Nat} (hd : decode cc pc = .ok (.invokestatic idx, 3)) (hw1 : Cond.methodLink own idx Lib.Math.min.name ∈ am_words) (hw2 : Cond.static Lib.Math.min.name ∈ am_words) (hw3 : Cond.initialized "java/lang/Math" ∈ am_words) (hw4 : Cond.code Lib.Math.min.name Lib.Math.min.code 2 (some .int) ∈ am_words) (hn : np = pc + 3) : am_ok tb cc own mL rt ini pc (o_mbin (fun x y => if y < x then y else x) np) := by
  intro X f M hF hpc
  obtain ⟨p, l, e, R, s, m, args, below, meth, c, Q, L, xs, D, A, n0, s0, γ0, N', S⟩ := X
  obtain ⟨hx, hb, hml, hown, hts, hlk, hini, hNc, hSc⟩ := hF
  obtain ⟨z, b0, pc', l', st⟩ := f
  dsimp only at hpc
  subst hpc
  unfold o_mbin
  dsimp only
  split
  · rename_i y x r
    subst hn
    cases hcat : Nat.ble (am_cats r) 8 with
    | false => rw [am_bf rfl]; trivial
    | true =>
      rw [am_bt rfl]
      refine ⟨Nat.le_refl _, Nat.le_refl _, fun hp hle1 hle2 hG γ g cA tys H locs ls hR hl hc hγ h1 h2 h3 h4 h5 h6 => ?_⟩
      have hca := am_cats_eq (am_γrf hR.2.2.2.2.2.1 hR.2.2.2.2.2.2.1) r
      have hle := Nat.le_of_ble_eq_true hcat
      have h5 : b0 + 1 ≤ R.frames := h5
      have h6 : 60 * (b0 + 1) ≤ R.locals := h6
      exact va_mmin hx hb hl.1.symm hown (hts _ hw1) (hts _ hw2) (hts _ hw3) (hts _ hw4) (by omega) (by rw [hca]; omega) (by omega) (by omega) hd (hG γ g cA tys H locs ls hR hl ⟨hc.1, am_cn1 trivial (am_tl (am_tl hc.2))⟩ hγ h1 h2 h3 h4 h5 h6)
  · trivial
theorem ok_mmax {np idx : Nat} (hd : decode cc pc = .ok (.invokestatic idx, 3)) (hw1 : Cond.methodLink own idx Lib.Math.max.name ∈ am_words) (hw2 : Cond.static Lib.Math.max.name ∈ am_words) (hw3 : Cond.initialized "java/lang/Math" ∈ am_words) (hw4 : Cond.code Lib.Math.max.name Lib.Math.max.code 2 (some .int) ∈ am_words) (hn : np = pc + 3) : am_ok tb cc own mL rt ini pc (o_mbin (fun x y => if x < y then y else x) np) := by
  intro X f M hF hpc
  obtain ⟨p, l, e, R, s, m, args, below, meth, c, Q, L, xs, D, A, n0, s0, γ0, N', S⟩ := X
  obtain ⟨hx, hb, hml, hown, hts, hlk, hini, hNc, hSc⟩ := hF
  obtain ⟨z, b0, pc', l', st⟩ := f
  dsimp only at hpc
  subst hpc
  unfold o_mbin
  dsimp only
  split
  · rename_i y x r
    subst hn
    cases hcat : Nat.ble (am_cats r) 8 with
    | false => rw [am_bf rfl]; trivial
    | true =>
      rw [am_bt rfl]
      refine ⟨Nat.le_refl _, Nat.le_refl _, fun hp hle1 hle2 hG γ g cA tys H locs ls hR hl hc hγ h1 h2 h3 h4 h5 h6 => ?_⟩
      have hca := am_cats_eq (am_γrf hR.2.2.2.2.2.1 hR.2.2.2.2.2.2.1) r
      have hle := Nat.le_of_ble_eq_true hcat
      have h5 : b0 + 1 ≤ R.frames := h5
      have h6 : 60 * (b0 + 1) ≤ R.locals := h6
      exact va_mmax hx hb hl.1.symm hown (hts _ hw1) (hts _ hw2) (hts _ hw3) (hts _ hw4) (by omega) (by rw [hca]; omega) (by omega) (by omega) hd (hG γ g cA tys H locs ls hR hl ⟨hc.1, am_cn1 trivial (am_tl (am_tl hc.2))⟩ hγ h1 h2 h3 h4 h5 h6)
  · trivial
theorem ok_mabs {np idx : Nat} (hd : decode cc pc = .ok (.invokestatic idx, 3)) (hw1 : Cond.methodLink own idx Lib.Math.abs.name ∈ am_words) (hw2 : Cond.static Lib.Math.abs.name ∈ am_words) (hw3 : Cond.initialized "java/lang/Math" ∈ am_words) (hw4 : Cond.code Lib.Math.abs.name Lib.Math.abs.code 1 (some .int) ∈ am_words) (hn : np = pc + 3) : am_ok tb cc own mL rt ini pc (o_mabs np) := by
  intro X f M hF hpc
  obtain ⟨p, l, e, R, s, m, args, below, meth, c, Q, L, xs, D, A, n0, s0, γ0, N', S⟩ := X
  obtain ⟨hx, hb, hml, hown, hts, hlk, hini, hNc, hSc⟩ := hF
  obtain ⟨z, b0, pc', l', st⟩ := f
  dsimp only at hpc
  subst hpc
  unfold o_mabs
  dsimp only
  split
  · rename_i x r
    subst hn
    cases hcat : Nat.ble (am_cats r) 8 with
    | false => rw [am_bf rfl]; trivial
    | true =>
      rw [am_bt rfl]
      refine ⟨Nat.le_refl _, Nat.le_refl _, fun hp hle1 hle2 hG γ g cA tys H locs ls hR hl hc hγ h1 h2 h3 h4 h5 h6 => ?_⟩
      have hca := am_cats_eq (am_γrf hR.2.2.2.2.2.1 hR.2.2.2.2.2.2.1) r
      have hle := Nat.le_of_ble_eq_true hcat
      have h5 : b0 + 1 ≤ R.frames := h5
      have h6 : 60 * (b0 + 1) ≤ R.locals := h6
      exact va_mabs hx hb hl.1.symm hown (hts _ hw1) (hts _ hw2) (hts _ hw3) (hts _ hw4) (by omega) (by rw [hca]; omega) (by omega) (by omega) hd (hG γ g cA tys H locs ls hR hl ⟨hc.1, am_cn1 trivial (am_tl hc.2)⟩ hγ h1 h2 h3 h4 h5 h6)
  · trivial
theorem ok_mminL {np idx : Nat} (hd : decode cc pc = .ok (.invokestatic idx, 3)) (hw1 : Cond.methodLink own idx Lib.MathLoose.min_long.x ∈ am_words) (hw2 : Cond.static Lib.MathLoose.min_long.x ∈ am_words) (hw3 : Cond.initialized "java/lang/Math" ∈ am_words) (hw4 : Cond.code Lib.MathLoose.min_long.x Lib.MathLoose.min_long.code 4 (some .long) ∈ am_words) (hn : np = pc + 3) : am_ok tb cc own mL rt ini pc (o_mminL np) := by
  intro X f M hF hpc
  obtain ⟨p, l, e, R, s, m, args, below, meth, c, Q, L, xs, D, A, n0, s0, γ0, N', S⟩ := X
  obtain ⟨hx, hb, hml, hown, hts, hlk, hini, hNc, hSc⟩ := hF
  obtain ⟨z, b0, pc', l', st⟩ := f
  dsimp only at hpc
  subst hpc
  unfold o_mminL
  dsimp only
  split
  · rename_i y x r
    subst hn
    cases hcat : Nat.ble (am_cats r) 8 with
    | false => rw [am_bf rfl]; trivial
    | true =>
      rw [am_bt rfl]
      refine ⟨Nat.le_refl _, Nat.le_refl _, fun hp hle1 hle2 hG γ g cA tys H locs ls hR hl hc hγ h1 h2 h3 h4 h5 h6 => ?_⟩
      have hca := am_cats_eq (am_γrf hR.2.2.2.2.2.1 hR.2.2.2.2.2.2.1) r
      have hle := Nat.le_of_ble_eq_true hcat
      have h5 : b0 + 1 ≤ R.frames := h5
      have h6 : 60 * (b0 + 1) ≤ R.locals := h6
      exact va_mmin_long hx hb hl.1.symm hown (hts _ hw1) (hts _ hw2) (hts _ hw3) (hts _ hw4) (by omega) (by rw [hca]; omega) (by omega) (by omega) hd (hG γ g cA tys H locs ls hR hl ⟨hc.1, am_cn1 trivial (am_tl (am_tl hc.2))⟩ hγ h1 h2 h3 h4 h5 h6)
  · trivial
theorem ok_ret (hd : decode cc pc = .ok (.return_, 1)) (hr : rt = none) : am_ok tb cc own mL rt ini pc (o_ret) := by
  intro X f M hF hpc
  obtain ⟨p, l, e, R, s, m, args, below, meth, c, Q, L, xs, D, A, n0, s0, γ0, N', S⟩ := X
  obtain ⟨hx, hb, hml, hown, hts, hlk, hini, hNc, hSc⟩ := hF
  obtain ⟨z, b0, pc', l', st⟩ := f
  dsimp only at hpc
  subst hpc
  unfold o_ret
  dsimp only
  split
  · skip
    intro hp hE γ g cA tys H locs ls hR hl hc hγ h1 h2 h3 h4 h5 h6
    exact hE γ g cA tys H locs ls _ hR hγ (fun _ h => by cases h) ⟨hr, hd⟩
  · trivial
theorem ok_iret (hd : decode cc pc = .ok (.ireturn, 1)) (hr : rt = some .int) : am_ok tb cc own mL rt ini pc (o_iret) := by
  intro X f M hF hpc
  obtain ⟨p, l, e, R, s, m, args, below, meth, c, Q, L, xs, D, A, n0, s0, γ0, N', S⟩ := X
  obtain ⟨hx, hb, hml, hown, hts, hlk, hini, hNc, hSc⟩ := hF
  obtain ⟨z, b0, pc', l', st⟩ := f
  dsimp only at hpc
  subst hpc
  unfold o_iret
  dsimp only
  split
  · rename_i x
    intro hp hE γ g cA tys H locs ls hR hl hc hγ h1 h2 h3 h4 h5 h6
    exact hE γ g cA tys H locs ls _ hR hγ (fun w h => by cases h; trivial) ⟨.int, hr, rfl, hd⟩
  · trivial
theorem ok_nret {ty : FieldType} (hd : decode cc pc = .ok (.ireturn, 1)) (hr : rt = some ty) : am_ok tb cc own mL rt ini pc (o_nret ty) := by
  intro X f M hF hpc
  obtain ⟨p, l, e, R, s, m, args, below, meth, c, Q, L, xs, D, A, n0, s0, γ0, N', S⟩ := X
  obtain ⟨hx, hb, hml, hown, hts, hlk, hini, hNc, hSc⟩ := hF
  obtain ⟨z, b0, pc', l', st⟩ := f
  dsimp only at hpc
  subst hpc
  unfold o_nret
  dsimp only
  split
  · rename_i x
    intro hp hE γ g cA tys H locs ls hR hl hc hγ h1 h2 h3 h4 h5 h6
    exact hE γ g cA tys H locs ls _ hR hγ (fun w h => by cases h; trivial) ⟨ty, hr, hp, hd⟩
  · trivial
theorem ok_lret (hd : decode cc pc = .ok (.lreturn, 1)) (hr : rt = some .long) : am_ok tb cc own mL rt ini pc (o_lret) := by
  intro X f M hF hpc
  obtain ⟨p, l, e, R, s, m, args, below, meth, c, Q, L, xs, D, A, n0, s0, γ0, N', S⟩ := X
  obtain ⟨hx, hb, hml, hown, hts, hlk, hini, hNc, hSc⟩ := hF
  obtain ⟨z, b0, pc', l', st⟩ := f
  dsimp only at hpc
  subst hpc
  unfold o_lret
  dsimp only
  split
  · rename_i x
    intro hp hE γ g cA tys H locs ls hR hl hc hγ h1 h2 h3 h4 h5 h6
    exact hE γ g cA tys H locs ls _ hR hγ (fun w h => by cases h; trivial) ⟨hr, hd⟩
  · trivial
theorem ok_aret {ty : FieldType} (hd : decode cc pc = .ok (.areturn, 1)) (hr : rt = some ty) (hty : (∃ n, ty = .object n) ∨ ∃ t, ty = .array t) : am_ok tb cc own mL rt ini pc (o_aret) := by
  intro X f M hF hpc
  obtain ⟨p, l, e, R, s, m, args, below, meth, c, Q, L, xs, D, A, n0, s0, γ0, N', S⟩ := X
  obtain ⟨hx, hb, hml, hown, hts, hlk, hini, hNc, hSc⟩ := hF
  obtain ⟨z, b0, pc', l', st⟩ := f
  dsimp only at hpc
  subst hpc
  unfold o_aret
  dsimp only
  split
  · rename_i x
    intro hp hE γ g cA tys H locs ls hR hl hc hγ h1 h2 h3 h4 h5 h6
    exact hE γ g cA tys H locs ls _ hR hγ (fun w h => by cases h; exact am_hd hc.2) ⟨ty, hr, hty, hd⟩
  · trivial
end AM9
