/-! the instructions that touch no cell, one by one -/
section AM5
variable {tb : am_Tb} {cc : ByteArray} {own : String} {mL : Nat} {rt : Option FieldType} {ini : Bool} {pc : Nat}
theorem ok_iconst {n : Int} {v : Int32} {np : Nat} (hd : decode cc pc = .ok (.iconst n, 1)) (hn : np = pc + 1) (hv : Int32.ofInt n = v) : am_ok tb cc own mL rt ini pc (o_push (.int v) np) := by
  intro X f M hF hpc
  obtain ⟨p, l, e, R, s, m, args, below, meth, c, Q, L, xs, D, A, n0, s0, γ0, N, S⟩ := X
  obtain ⟨hx, hb, hml, hown, hts, hlk, hini, hNc, hSc⟩ := hF
  obtain ⟨z, b, pc', l', st⟩ := f
  dsimp only at hpc
  subst hpc
  unfold o_push
  dsimp only
  subst hn
  refine ⟨Nat.le_refl _, Nat.le_refl _, fun _ _ _ hG γ g cA tys H locs ls hR hl hc hγ h1 h2 h3 h4 h5 h6 => ?_⟩
  exact lv_iconst hx hb hd hv (hG γ g cA tys H locs ls hR hl ⟨hc.1, am_cn1 trivial hc.2⟩ hγ h1 h2 h3 h4 h5 h6)
theorem ok_bipush {n : Int} {v : Int32} {np : Nat} (hd : decode cc pc = .ok (.bipush n, 2)) (hn : np = pc + 2) (hv : (Int8.ofInt n).toInt32 = v) : am_ok tb cc own mL rt ini pc (o_push (.int v) np) := by
  intro X f M hF hpc
  obtain ⟨p, l, e, R, s, m, args, below, meth, c, Q, L, xs, D, A, n0, s0, γ0, N, S⟩ := X
  obtain ⟨hx, hb, hml, hown, hts, hlk, hini, hNc, hSc⟩ := hF
  obtain ⟨z, b, pc', l', st⟩ := f
  dsimp only at hpc
  subst hpc
  unfold o_push
  dsimp only
  subst hn
  refine ⟨Nat.le_refl _, Nat.le_refl _, fun _ _ _ hG γ g cA tys H locs ls hR hl hc hγ h1 h2 h3 h4 h5 h6 => ?_⟩
  exact lv_bipush hx hb hd hv (hG γ g cA tys H locs ls hR hl ⟨hc.1, am_cn1 trivial hc.2⟩ hγ h1 h2 h3 h4 h5 h6)
theorem ok_sipush {n : Int} {v : Int32} {np : Nat} (hd : decode cc pc = .ok (.sipush n, 3)) (hn : np = pc + 3) (hv : (Int16.ofInt n).toInt32 = v) : am_ok tb cc own mL rt ini pc (o_push (.int v) np) := by
  intro X f M hF hpc
  obtain ⟨p, l, e, R, s, m, args, below, meth, c, Q, L, xs, D, A, n0, s0, γ0, N, S⟩ := X
  obtain ⟨hx, hb, hml, hown, hts, hlk, hini, hNc, hSc⟩ := hF
  obtain ⟨z, b, pc', l', st⟩ := f
  dsimp only at hpc
  subst hpc
  unfold o_push
  dsimp only
  subst hn
  refine ⟨Nat.le_refl _, Nat.le_refl _, fun _ _ _ hG γ g cA tys H locs ls hR hl hc hγ h1 h2 h3 h4 h5 h6 => ?_⟩
  exact lv_sipush hx hb hd hv (hG γ g cA tys H locs ls hR hl ⟨hc.1, am_cn1 trivial hc.2⟩ hγ h1 h2 h3 h4 h5 h6)
theorem ok_lconst {n : Fin 2} {v : Int64} {np : Nat} (hd : decode cc pc = .ok (.lconst n, 1)) (hn : np = pc + 1) (hv : Int64.ofNat (n : Nat) = v) : am_ok tb cc own mL rt ini pc (o_push (.long v) np) := by
  intro X f M hF hpc
  obtain ⟨p, l, e, R, s, m, args, below, meth, c, Q, L, xs, D, A, n0, s0, γ0, N, S⟩ := X
  obtain ⟨hx, hb, hml, hown, hts, hlk, hini, hNc, hSc⟩ := hF
  obtain ⟨z, b, pc', l', st⟩ := f
  dsimp only at hpc
  subst hpc
  unfold o_push
  dsimp only
  subst hn
  refine ⟨Nat.le_refl _, Nat.le_refl _, fun _ _ _ hG γ g cA tys H locs ls hR hl hc hγ h1 h2 h3 h4 h5 h6 => ?_⟩
  exact lv_lconst hx hb hd hv (hG γ g cA tys H locs ls hR hl ⟨hc.1, am_cn1 trivial hc.2⟩ hγ h1 h2 h3 h4 h5 h6)
theorem ok_ldc {i : Nat} {v : Int32} {np : Nat} (hd : decode cc pc = .ok (.ldc i, 2)) (hn : np = pc + 2) (hw : Jvm.Cond.constant own i v ∈ am_words) : am_ok tb cc own mL rt ini pc (o_push (.int v) np) := by
  intro X f M hF hpc
  obtain ⟨p, l, e, R, s, m, args, below, meth, c, Q, L, xs, D, A, n0, s0, γ0, N, S⟩ := X
  obtain ⟨hx, hb, hml, hown, hts, hlk, hini, hNc, hSc⟩ := hF
  obtain ⟨z, b, pc', l', st⟩ := f
  dsimp only at hpc
  subst hpc
  unfold o_push
  dsimp only
  subst hn
  refine ⟨Nat.le_refl _, Nat.le_refl _, fun _ _ _ hG γ g cA tys H locs ls hR hl hc hγ h1 h2 h3 h4 h5 h6 => ?_⟩
  exact lv_ldc hx hb hown (hts _ hw) hd (hG γ g cA tys H locs ls hR hl ⟨hc.1, am_cn1 trivial hc.2⟩ hγ h1 h2 h3 h4 h5 h6)
theorem ok_ldcw {i : Nat} {v : Int32} {np : Nat} (hd : decode cc pc = .ok (.ldc_w i, 3)) (hn : np = pc + 3) (hw : Jvm.Cond.constant own i v ∈ am_words) : am_ok tb cc own mL rt ini pc (o_push (.int v) np) := by
  intro X f M hF hpc
  obtain ⟨p, l, e, R, s, m, args, below, meth, c, Q, L, xs, D, A, n0, s0, γ0, N, S⟩ := X
  obtain ⟨hx, hb, hml, hown, hts, hlk, hini, hNc, hSc⟩ := hF
  obtain ⟨z, b, pc', l', st⟩ := f
  dsimp only at hpc
  subst hpc
  unfold o_push
  dsimp only
  subst hn
  refine ⟨Nat.le_refl _, Nat.le_refl _, fun _ _ _ hG γ g cA tys H locs ls hR hl hc hγ h1 h2 h3 h4 h5 h6 => ?_⟩
  exact lv_ldcw hx hb hown (hts _ hw) hd (hG γ g cA tys H locs ls hR hl ⟨hc.1, am_cn1 trivial hc.2⟩ hγ h1 h2 h3 h4 h5 h6)
theorem ok_ldc2 {i : Nat} {v : Int64} {np : Nat} (hd : decode cc pc = .ok (.ldc2_w i, 3)) (hn : np = pc + 3) (hw : Jvm.Cond.constantLong own i v ∈ am_words) : am_ok tb cc own mL rt ini pc (o_push (.long v) np) := by
  intro X f M hF hpc
  obtain ⟨p, l, e, R, s, m, args, below, meth, c, Q, L, xs, D, A, n0, s0, γ0, N, S⟩ := X
  obtain ⟨hx, hb, hml, hown, hts, hlk, hini, hNc, hSc⟩ := hF
  obtain ⟨z, b, pc', l', st⟩ := f
  dsimp only at hpc
  subst hpc
  unfold o_push
  dsimp only
  subst hn
  refine ⟨Nat.le_refl _, Nat.le_refl _, fun _ _ _ hG γ g cA tys H locs ls hR hl hc hγ h1 h2 h3 h4 h5 h6 => ?_⟩
  exact lv_ldc2 hx hb hown (hts _ hw) hd (hG γ g cA tys H locs ls hR hl ⟨hc.1, am_cn1 trivial hc.2⟩ hγ h1 h2 h3 h4 h5 h6)
theorem ok_null {np : Nat} (hd : decode cc pc = .ok (.aconst_null, 1)) (hn : np = pc + 1) : am_ok tb cc own mL rt ini pc (o_push (.ref 0) np) := by
  intro X f M hF hpc
  obtain ⟨p, l, e, R, s, m, args, below, meth, c, Q, L, xs, D, A, n0, s0, γ0, N, S⟩ := X
  obtain ⟨hx, hb, hml, hown, hts, hlk, hini, hNc, hSc⟩ := hF
  obtain ⟨z, b, pc', l', st⟩ := f
  dsimp only at hpc
  subst hpc
  unfold o_push
  dsimp only
  subst hn
  refine ⟨Nat.le_refl _, Nat.le_refl _, fun _ _ _ hG γ g cA tys H locs ls hR hl hc hγ h1 h2 h3 h4 h5 h6 => ?_⟩
  have hz : γ 0 = .null := by obtain ⟨_, _, _, _, _, _, _, _, _, _, _, _, h8, _⟩ := hR.2.2.2.2.2.1; exact h8
  have h20 := hR.2.2.2.2.2.2.2.1.1
  have k := hG γ g cA tys H locs ls hR hl ⟨hc.1, am_cn1 (show 0 < am_n M ∧ 0 ≠ 16 from ⟨by omega, by decide⟩) hc.2⟩ hγ h1 h2 h3 h4 h5 h6
  simp only [List.map_cons, am_cv, hz] at k
  exact lv_null hx hb hd k
theorem ok_iload_n {k : Fin 4} {i np : Nat} (hd : decode cc pc = .ok (.iload_n k, 1)) (hi : (k : Nat) = i) (hn : np = pc + 1) : am_ok tb cc own mL rt ini pc (o_iload i np) := by
  intro X f M hF hpc
  obtain ⟨p, l, e, R, s, m, args, below, meth, c, Q, L, xs, D, A, n0, s0, γ0, N, S⟩ := X
  obtain ⟨hx, hb, hml, hown, hts, hlk, hini, hNc, hSc⟩ := hF
  obtain ⟨z, b, pc', l', st⟩ := f
  dsimp only at hpc
  subst hpc
  unfold o_iload
  dsimp only
  split
  · rename_i x heq
    try subst heq
    subst hn
    refine ⟨Nat.le_refl _, Nat.le_refl _, fun _ _ _ hG γ g cA tys H locs ls hR hl hc hγ h1 h2 h3 h4 h5 h6 => ?_⟩
    exact lv_iload_n hx hb hd hi (hl.int heq) (hG γ g cA tys H locs ls hR hl ⟨hc.1, am_cn1 trivial hc.2⟩ hγ h1 h2 h3 h4 h5 h6)
  · trivial
theorem ok_iload {i np : Nat} (hd : decode cc pc = .ok (.iload i, 2)) (hn : np = pc + 2) : am_ok tb cc own mL rt ini pc (o_iload i np) := by
  intro X f M hF hpc
  obtain ⟨p, l, e, R, s, m, args, below, meth, c, Q, L, xs, D, A, n0, s0, γ0, N, S⟩ := X
  obtain ⟨hx, hb, hml, hown, hts, hlk, hini, hNc, hSc⟩ := hF
  obtain ⟨z, b, pc', l', st⟩ := f
  dsimp only at hpc
  subst hpc
  unfold o_iload
  dsimp only
  split
  · rename_i x heq
    try subst heq
    subst hn
    refine ⟨Nat.le_refl _, Nat.le_refl _, fun _ _ _ hG γ g cA tys H locs ls hR hl hc hγ h1 h2 h3 h4 h5 h6 => ?_⟩
    exact lv_iload hx hb hd (hl.int heq) (hG γ g cA tys H locs ls hR hl ⟨hc.1, am_cn1 trivial hc.2⟩ hγ h1 h2 h3 h4 h5 h6)
  · trivial
theorem ok_lload_n {k : Fin 4} {i np : Nat} (hd : decode cc pc = .ok (.lload_n k, 1)) (hi : (k : Nat) = i) (hn : np = pc + 1) : am_ok tb cc own mL rt ini pc (o_lload i np) := by
  intro X f M hF hpc
  obtain ⟨p, l, e, R, s, m, args, below, meth, c, Q, L, xs, D, A, n0, s0, γ0, N, S⟩ := X
  obtain ⟨hx, hb, hml, hown, hts, hlk, hini, hNc, hSc⟩ := hF
  obtain ⟨z, b, pc', l', st⟩ := f
  dsimp only at hpc
  subst hpc
  unfold o_lload
  dsimp only
  split
  · rename_i x heq
    try subst heq
    subst hn
    refine ⟨Nat.le_refl _, Nat.le_refl _, fun _ _ _ hG γ g cA tys H locs ls hR hl hc hγ h1 h2 h3 h4 h5 h6 => ?_⟩
    exact lv_lload_n hx hb hd hi (hl.long heq) (hG γ g cA tys H locs ls hR hl ⟨hc.1, am_cn1 trivial hc.2⟩ hγ h1 h2 h3 h4 h5 h6)
  · trivial
theorem ok_lload {i np : Nat} (hd : decode cc pc = .ok (.lload i, 2)) (hn : np = pc + 2) : am_ok tb cc own mL rt ini pc (o_lload i np) := by
  intro X f M hF hpc
  obtain ⟨p, l, e, R, s, m, args, below, meth, c, Q, L, xs, D, A, n0, s0, γ0, N, S⟩ := X
  obtain ⟨hx, hb, hml, hown, hts, hlk, hini, hNc, hSc⟩ := hF
  obtain ⟨z, b, pc', l', st⟩ := f
  dsimp only at hpc
  subst hpc
  unfold o_lload
  dsimp only
  split
  · rename_i x heq
    try subst heq
    subst hn
    refine ⟨Nat.le_refl _, Nat.le_refl _, fun _ _ _ hG γ g cA tys H locs ls hR hl hc hγ h1 h2 h3 h4 h5 h6 => ?_⟩
    exact lv_lload hx hb hd (hl.long heq) (hG γ g cA tys H locs ls hR hl ⟨hc.1, am_cn1 trivial hc.2⟩ hγ h1 h2 h3 h4 h5 h6)
  · trivial
theorem ok_aload_n {k : Fin 4} {i np : Nat} (hd : decode cc pc = .ok (.aload_n k, 1)) (hi : (k : Nat) = i) (hn : np = pc + 1) : am_ok tb cc own mL rt ini pc (o_aload i np) := by
  intro X f M hF hpc
  obtain ⟨p, l, e, R, s, m, args, below, meth, c, Q, L, xs, D, A, n0, s0, γ0, N, S⟩ := X
  obtain ⟨hx, hb, hml, hown, hts, hlk, hini, hNc, hSc⟩ := hF
  obtain ⟨z, b, pc', l', st⟩ := f
  dsimp only at hpc
  subst hpc
  unfold o_aload
  dsimp only
  split
  · rename_i x heq
    try subst heq
    subst hn
    refine ⟨Nat.le_refl _, Nat.le_refl _, fun _ _ _ hG γ g cA tys H locs ls hR hl hc hγ h1 h2 h3 h4 h5 h6 => ?_⟩
    have hvo : am_vo (am_n M) (.ref x) := by rw [← heq]; exact am_lg_vo _ _ hc.1
    have k := (hG γ g cA tys H locs ls hR hl ⟨hc.1, am_cn1 hvo hc.2⟩ hγ h1 h2 h3 h4 h5 h6)
    have hq := hl.rf heq
    simp only [List.map_cons, am_cv] at k
    rcases am_γrf hR.2.2.2.2.2.1 hR.2.2.2.2.2.2.1 x with hz | ⟨a, hz⟩
    · rw [hz] at k hq; exact lv_aload_nN hx hb hd hi hq k
    · rw [hz] at k hq; exact lv_aload_n hx hb hd hi hq k
  · trivial
theorem ok_aload {i np : Nat} (hd : decode cc pc = .ok (.aload i, 2)) (hn : np = pc + 2) : am_ok tb cc own mL rt ini pc (o_aload i np) := by
  intro X f M hF hpc
  obtain ⟨p, l, e, R, s, m, args, below, meth, c, Q, L, xs, D, A, n0, s0, γ0, N, S⟩ := X
  obtain ⟨hx, hb, hml, hown, hts, hlk, hini, hNc, hSc⟩ := hF
  obtain ⟨z, b, pc', l', st⟩ := f
  dsimp only at hpc
  subst hpc
  unfold o_aload
  dsimp only
  split
  · rename_i x heq
    try subst heq
    subst hn
    refine ⟨Nat.le_refl _, Nat.le_refl _, fun _ _ _ hG γ g cA tys H locs ls hR hl hc hγ h1 h2 h3 h4 h5 h6 => ?_⟩
    have hvo : am_vo (am_n M) (.ref x) := by rw [← heq]; exact am_lg_vo _ _ hc.1
    have k := (hG γ g cA tys H locs ls hR hl ⟨hc.1, am_cn1 hvo hc.2⟩ hγ h1 h2 h3 h4 h5 h6)
    have hq := hl.rf heq
    simp only [List.map_cons, am_cv] at k
    rcases am_γrf hR.2.2.2.2.2.1 hR.2.2.2.2.2.2.1 x with hz | ⟨a, hz⟩
    · rw [hz] at k hq; exact lv_aloadN hx hb hd hq k
    · rw [hz] at k hq; exact lv_aload hx hb hd hq k
  · trivial
theorem ok_istore_n {k : Fin 4} {i np : Nat} (hd : decode cc pc = .ok (.istore_n k, 1)) (hi : (k : Nat) = i) (hil : i < mL) (hn : np = pc + 1) : am_ok tb cc own mL rt ini pc (o_istore i np) := by
  intro X f M hF hpc
  obtain ⟨p, l, e, R, s, m, args, below, meth, c, Q, L, xs, D, A, n0, s0, γ0, N, S⟩ := X
  obtain ⟨hx, hb, hml, hown, hts, hlk, hini, hNc, hSc⟩ := hF
  obtain ⟨z, b, pc', l', st⟩ := f
  dsimp only at hpc
  subst hpc
  unfold o_istore
  dsimp only
  split
  · rename_i x r
    try subst heq
    subst hn
    refine ⟨Nat.le_refl _, Nat.le_refl _, fun _ _ _ hG γ g cA tys H locs ls hR hl hc hγ h1 h2 h3 h4 h5 h6 => ?_⟩
    exact lv_istore_n hx hb hd hi hl.has (by rw [hml]; exact hil) rfl (fun ls2 hl2 => hG γ g cA tys H locs ls2 hR (hl.s1 (am_γrf hR.2.2.2.2.2.1 hR.2.2.2.2.2.2.1) (by rw [hml]; exact hil) rfl rfl hl2) ⟨am_l1_vo (show am_vo (am_n M) (.int _) from trivial) _ _ hc.1, am_tl hc.2⟩ hγ h1 h2 h3 h4 h5 h6)
  · trivial
theorem ok_istore {i np : Nat} (hd : decode cc pc = .ok (.istore i, 2)) (hil : i < mL) (hn : np = pc + 2) : am_ok tb cc own mL rt ini pc (o_istore i np) := by
  intro X f M hF hpc
  obtain ⟨p, l, e, R, s, m, args, below, meth, c, Q, L, xs, D, A, n0, s0, γ0, N, S⟩ := X
  obtain ⟨hx, hb, hml, hown, hts, hlk, hini, hNc, hSc⟩ := hF
  obtain ⟨z, b, pc', l', st⟩ := f
  dsimp only at hpc
  subst hpc
  unfold o_istore
  dsimp only
  split
  · rename_i x r
    try subst heq
    subst hn
    refine ⟨Nat.le_refl _, Nat.le_refl _, fun _ _ _ hG γ g cA tys H locs ls hR hl hc hγ h1 h2 h3 h4 h5 h6 => ?_⟩
    exact lv_istore hx hb hd hl.has (by rw [hml]; exact hil) rfl (fun ls2 hl2 => hG γ g cA tys H locs ls2 hR (hl.s1 (am_γrf hR.2.2.2.2.2.1 hR.2.2.2.2.2.2.1) (by rw [hml]; exact hil) rfl rfl hl2) ⟨am_l1_vo (show am_vo (am_n M) (.int _) from trivial) _ _ hc.1, am_tl hc.2⟩ hγ h1 h2 h3 h4 h5 h6)
  · trivial
theorem ok_lstore_n {k : Fin 4} {i np : Nat} (hd : decode cc pc = .ok (.lstore_n k, 1)) (hi : (k : Nat) = i) (hil : i + 1 < mL) (hn : np = pc + 1) : am_ok tb cc own mL rt ini pc (o_lstore i np) := by
  intro X f M hF hpc
  obtain ⟨p, l, e, R, s, m, args, below, meth, c, Q, L, xs, D, A, n0, s0, γ0, N, S⟩ := X
  obtain ⟨hx, hb, hml, hown, hts, hlk, hini, hNc, hSc⟩ := hF
  obtain ⟨z, b, pc', l', st⟩ := f
  dsimp only at hpc
  subst hpc
  unfold o_lstore
  dsimp only
  split
  · rename_i x r
    try subst heq
    subst hn
    refine ⟨Nat.le_refl _, Nat.le_refl _, fun _ _ _ hG γ g cA tys H locs ls hR hl hc hγ h1 h2 h3 h4 h5 h6 => ?_⟩
    exact lv_lstore_n hx hb hd hi hl.has (by rw [hml]; exact hil) rfl (fun ls2 hl2 => hG γ g cA tys H locs ls2 hR (hl.s2 (am_γrf hR.2.2.2.2.2.1 hR.2.2.2.2.2.2.1) (by rw [hml]; exact hil) hl2) ⟨am_l2_vo (show am_vo (am_n M) (.long _) from trivial) _ _ hc.1, am_tl hc.2⟩ hγ h1 h2 h3 h4 h5 h6)
  · trivial
theorem ok_lstore {i np : Nat} (hd : decode cc pc = .ok (.lstore i, 2)) (hil : i + 1 < mL) (hn : np = pc + 2) : am_ok tb cc own mL rt ini pc (o_lstore i np) := by
  intro X f M hF hpc
  obtain ⟨p, l, e, R, s, m, args, below, meth, c, Q, L, xs, D, A, n0, s0, γ0, N, S⟩ := X
  obtain ⟨hx, hb, hml, hown, hts, hlk, hini, hNc, hSc⟩ := hF
  obtain ⟨z, b, pc', l', st⟩ := f
  dsimp only at hpc
  subst hpc
  unfold o_lstore
  dsimp only
  split
  · rename_i x r
    try subst heq
    subst hn
    refine ⟨Nat.le_refl _, Nat.le_refl _, fun _ _ _ hG γ g cA tys H locs ls hR hl hc hγ h1 h2 h3 h4 h5 h6 => ?_⟩
    exact lv_lstore hx hb hd hl.has (by rw [hml]; exact hil) rfl (fun ls2 hl2 => hG γ g cA tys H locs ls2 hR (hl.s2 (am_γrf hR.2.2.2.2.2.1 hR.2.2.2.2.2.2.1) (by rw [hml]; exact hil) hl2) ⟨am_l2_vo (show am_vo (am_n M) (.long _) from trivial) _ _ hc.1, am_tl hc.2⟩ hγ h1 h2 h3 h4 h5 h6)
  · trivial
theorem ok_astore_n {k : Fin 4} {i np : Nat} (hd : decode cc pc = .ok (.astore_n k, 1)) (hi : (k : Nat) = i) (hil : i < mL) (hn : np = pc + 1) : am_ok tb cc own mL rt ini pc (o_astore i np) := by
  intro X f M hF hpc
  obtain ⟨p, l, e, R, s, m, args, below, meth, c, Q, L, xs, D, A, n0, s0, γ0, N, S⟩ := X
  obtain ⟨hx, hb, hml, hown, hts, hlk, hini, hNc, hSc⟩ := hF
  obtain ⟨z, b, pc', l', st⟩ := f
  dsimp only at hpc
  subst hpc
  unfold o_astore
  dsimp only
  split
  · rename_i x r
    try subst heq
    subst hn
    refine ⟨Nat.le_refl _, Nat.le_refl _, fun _ _ _ hG γ g cA tys H locs ls hR hl hc hγ h1 h2 h3 h4 h5 h6 => ?_⟩
    have hz0 := am_γrf hR.2.2.2.2.2.1 hR.2.2.2.2.2.2.1
    have hil' : i < c.maxLocals := by rw [hml]; exact hil
    have k : ∀ ls2 : Array Slot, lv_has ls2 c.maxLocals ((i, γ x) :: (am_asc γ l').filter (fun q => !(q.1 == i) && !(q.1 + 1 == i && q.2.category == 2))) → _ := fun ls2 hl2 => hG γ g cA tys H locs ls2 hR (hl.s1 hz0 hil' (w := .ref x) rfl (by rcases hz0 x with e | ⟨a, e⟩ <;> (show (γ x).category = 1; rw [e]; rfl)) hl2) ⟨am_l1_vo (am_hd hc.2) _ _ hc.1, am_tl hc.2⟩ hγ h1 h2 h3 h4 h5 h6
    simp only [List.map_cons, am_cv]
    rcases hz0 x with hz | ⟨a, hz⟩
    · rw [hz] at k ⊢; exact lv_astore_nN hx hb hd hi hl.has hil' rfl k
    · rw [hz] at k ⊢; exact lv_astore_n hx hb hd hi hl.has hil' rfl k
  · trivial
theorem ok_astore {i np : Nat} (hd : decode cc pc = .ok (.astore i, 2)) (hil : i < mL) (hn : np = pc + 2) : am_ok tb cc own mL rt ini pc (o_astore i np) := by
  intro X f M hF hpc
  obtain ⟨p, l, e, R, s, m, args, below, meth, c, Q, L, xs, D, A, n0, s0, γ0, N, S⟩ := X
  obtain ⟨hx, hb, hml, hown, hts, hlk, hini, hNc, hSc⟩ := hF
  obtain ⟨z, b, pc', l', st⟩ := f
  dsimp only at hpc
  subst hpc
  unfold o_astore
  dsimp only
  split
  · rename_i x r
    try subst heq
    subst hn
    refine ⟨Nat.le_refl _, Nat.le_refl _, fun _ _ _ hG γ g cA tys H locs ls hR hl hc hγ h1 h2 h3 h4 h5 h6 => ?_⟩
    have hz0 := am_γrf hR.2.2.2.2.2.1 hR.2.2.2.2.2.2.1
    have hil' : i < c.maxLocals := by rw [hml]; exact hil
    have k : ∀ ls2 : Array Slot, lv_has ls2 c.maxLocals ((i, γ x) :: (am_asc γ l').filter (fun q => !(q.1 == i) && !(q.1 + 1 == i && q.2.category == 2))) → _ := fun ls2 hl2 => hG γ g cA tys H locs ls2 hR (hl.s1 hz0 hil' (w := .ref x) rfl (by rcases hz0 x with e | ⟨a, e⟩ <;> (show (γ x).category = 1; rw [e]; rfl)) hl2) ⟨am_l1_vo (am_hd hc.2) _ _ hc.1, am_tl hc.2⟩ hγ h1 h2 h3 h4 h5 h6
    simp only [List.map_cons, am_cv]
    rcases hz0 x with hz | ⟨a, hz⟩
    · rw [hz] at k ⊢; exact lv_astoreN hx hb hd hl.has hil' rfl k
    · rw [hz] at k ⊢; exact lv_astore hx hb hd hl.has hil' rfl k
  · trivial
theorem ok_iinc {i np : Nat} {n : Int} {v : Int32} (hd : decode cc pc = .ok (.iinc i n, 3)) (hv : Int32.ofInt n = v) (hil : i < mL) (hn : np = pc + 3) : am_ok tb cc own mL rt ini pc (o_iinc i v np) := by
  intro X f M hF hpc
  obtain ⟨p, l, e, R, s, m, args, below, meth, c, Q, L, xs, D, A, n0, s0, γ0, N, S⟩ := X
  obtain ⟨hx, hb, hml, hown, hts, hlk, hini, hNc, hSc⟩ := hF
  obtain ⟨z, b, pc', l', st⟩ := f
  dsimp only at hpc
  subst hpc
  unfold o_iinc
  dsimp only
  split
  · rename_i x heq
    try subst heq
    subst hn
    subst hv
    refine ⟨Nat.le_refl _, Nat.le_refl _, fun _ _ _ hG γ g cA tys H locs ls hR hl hc hγ h1 h2 h3 h4 h5 h6 => ?_⟩
    have hil' : i < c.maxLocals := by rw [hml]; exact hil
    have hm : (i, Value.int x) ∈ am_asc γ l' := by have h9 := am_asc_mem (γ := γ) (l := l') (i := i) (by rw [heq]; exact fun q => by cases q); rw [heq] at h9; exact h9
    obtain ⟨k, hk⟩ := List.getElem?_of_mem hm
    exact lv_iinc hx hb hd hl.has hk rfl hil' rfl (fun ls2 hl2 => hG γ g cA tys H locs ls2 hR (hl.s1 (am_γrf hR.2.2.2.2.2.1 hR.2.2.2.2.2.2.1) hil' (w := .int (x + Int32.ofInt n)) rfl rfl hl2) ⟨am_l1_vo (show am_vo (am_n M) (.int _) from trivial) _ _ hc.1, hc.2⟩ hγ h1 h2 h3 h4 h5 h6)
  · trivial
theorem ok_iadd {np : Nat} (hd : decode cc pc = .ok (.iadd, 1)) (hn : np = pc + 1) : am_ok tb cc own mL rt ini pc (o_bin (fun x y => x + y) np) := by
  intro X f M hF hpc
  obtain ⟨p, l, e, R, s, m, args, below, meth, c, Q, L, xs, D, A, n0, s0, γ0, N, S⟩ := X
  obtain ⟨hx, hb, hml, hown, hts, hlk, hini, hNc, hSc⟩ := hF
  obtain ⟨z, b, pc', l', st⟩ := f
  dsimp only at hpc
  subst hpc
  unfold o_bin
  dsimp only
  split
  · rename_i y x r
    try subst heq
    subst hn
    refine ⟨Nat.le_refl _, Nat.le_refl _, fun _ _ _ hG γ g cA tys H locs ls hR hl hc hγ h1 h2 h3 h4 h5 h6 => ?_⟩
    exact lv_iadd hx hb hd (hG γ g cA tys H locs ls hR hl ⟨hc.1, am_cn1 trivial (am_tl (am_tl hc.2))⟩ hγ h1 h2 h3 h4 h5 h6)
  · trivial
theorem ok_isub {np : Nat} (hd : decode cc pc = .ok (.isub, 1)) (hn : np = pc + 1) : am_ok tb cc own mL rt ini pc (o_bin (fun x y => x - y) np) := by
  intro X f M hF hpc
  obtain ⟨p, l, e, R, s, m, args, below, meth, c, Q, L, xs, D, A, n0, s0, γ0, N, S⟩ := X
  obtain ⟨hx, hb, hml, hown, hts, hlk, hini, hNc, hSc⟩ := hF
  obtain ⟨z, b, pc', l', st⟩ := f
  dsimp only at hpc
  subst hpc
  unfold o_bin
  dsimp only
  split
  · rename_i y x r
    try subst heq
    subst hn
    refine ⟨Nat.le_refl _, Nat.le_refl _, fun _ _ _ hG γ g cA tys H locs ls hR hl hc hγ h1 h2 h3 h4 h5 h6 => ?_⟩
    exact lv_isub hx hb hd (hG γ g cA tys H locs ls hR hl ⟨hc.1, am_cn1 trivial (am_tl (am_tl hc.2))⟩ hγ h1 h2 h3 h4 h5 h6)
  · trivial
theorem ok_imul {np : Nat} (hd : decode cc pc = .ok (.imul, 1)) (hn : np = pc + 1) : am_ok tb cc own mL rt ini pc (o_bin (fun x y => x * y) np) := by
  intro X f M hF hpc
  obtain ⟨p, l, e, R, s, m, args, below, meth, c, Q, L, xs, D, A, n0, s0, γ0, N, S⟩ := X
  obtain ⟨hx, hb, hml, hown, hts, hlk, hini, hNc, hSc⟩ := hF
  obtain ⟨z, b, pc', l', st⟩ := f
  dsimp only at hpc
  subst hpc
  unfold o_bin
  dsimp only
  split
  · rename_i y x r
    try subst heq
    subst hn
    refine ⟨Nat.le_refl _, Nat.le_refl _, fun _ _ _ hG γ g cA tys H locs ls hR hl hc hγ h1 h2 h3 h4 h5 h6 => ?_⟩
    exact lv_imul hx hb hd (hG γ g cA tys H locs ls hR hl ⟨hc.1, am_cn1 trivial (am_tl (am_tl hc.2))⟩ hγ h1 h2 h3 h4 h5 h6)
  · trivial
theorem ok_iand {np : Nat} (hd : decode cc pc = .ok (.iand, 1)) (hn : np = pc + 1) : am_ok tb cc own mL rt ini pc (o_bin (fun x y => x &&& y) np) := by
  intro X f M hF hpc
  obtain ⟨p, l, e, R, s, m, args, below, meth, c, Q, L, xs, D, A, n0, s0, γ0, N, S⟩ := X
  obtain ⟨hx, hb, hml, hown, hts, hlk, hini, hNc, hSc⟩ := hF
  obtain ⟨z, b, pc', l', st⟩ := f
  dsimp only at hpc
  subst hpc
  unfold o_bin
  dsimp only
  split
  · rename_i y x r
    try subst heq
    subst hn
    refine ⟨Nat.le_refl _, Nat.le_refl _, fun _ _ _ hG γ g cA tys H locs ls hR hl hc hγ h1 h2 h3 h4 h5 h6 => ?_⟩
    exact lv_iand hx hb hd (hG γ g cA tys H locs ls hR hl ⟨hc.1, am_cn1 trivial (am_tl (am_tl hc.2))⟩ hγ h1 h2 h3 h4 h5 h6)
  · trivial
theorem ok_ior {np : Nat} (hd : decode cc pc = .ok (.ior, 1)) (hn : np = pc + 1) : am_ok tb cc own mL rt ini pc (o_bin (fun x y => x ||| y) np) := by
  intro X f M hF hpc
  obtain ⟨p, l, e, R, s, m, args, below, meth, c, Q, L, xs, D, A, n0, s0, γ0, N, S⟩ := X
  obtain ⟨hx, hb, hml, hown, hts, hlk, hini, hNc, hSc⟩ := hF
  obtain ⟨z, b, pc', l', st⟩ := f
  dsimp only at hpc
  subst hpc
  unfold o_bin
  dsimp only
  split
  · rename_i y x r
    try subst heq
    subst hn
    refine ⟨Nat.le_refl _, Nat.le_refl _, fun _ _ _ hG γ g cA tys H locs ls hR hl hc hγ h1 h2 h3 h4 h5 h6 => ?_⟩
    exact lv_ior hx hb hd (hG γ g cA tys H locs ls hR hl ⟨hc.1, am_cn1 trivial (am_tl (am_tl hc.2))⟩ hγ h1 h2 h3 h4 h5 h6)
  · trivial
theorem ok_ixor {np : Nat} (hd : decode cc pc = .ok (.ixor, 1)) (hn : np = pc + 1) : am_ok tb cc own mL rt ini pc (o_bin (fun x y => x ^^^ y) np) := by
  intro X f M hF hpc
  obtain ⟨p, l, e, R, s, m, args, below, meth, c, Q, L, xs, D, A, n0, s0, γ0, N, S⟩ := X
  obtain ⟨hx, hb, hml, hown, hts, hlk, hini, hNc, hSc⟩ := hF
  obtain ⟨z, b, pc', l', st⟩ := f
  dsimp only at hpc
  subst hpc
  unfold o_bin
  dsimp only
  split
  · rename_i y x r
    try subst heq
    subst hn
    refine ⟨Nat.le_refl _, Nat.le_refl _, fun _ _ _ hG γ g cA tys H locs ls hR hl hc hγ h1 h2 h3 h4 h5 h6 => ?_⟩
    exact lv_ixor hx hb hd (hG γ g cA tys H locs ls hR hl ⟨hc.1, am_cn1 trivial (am_tl (am_tl hc.2))⟩ hγ h1 h2 h3 h4 h5 h6)
  · trivial
theorem ok_ishl {np : Nat} (hd : decode cc pc = .ok (.ishl, 1)) (hn : np = pc + 1) : am_ok tb cc own mL rt ini pc (o_bin (fun x y => x <<< (y &&& 31)) np) := by
  intro X f M hF hpc
  obtain ⟨p, l, e, R, s, m, args, below, meth, c, Q, L, xs, D, A, n0, s0, γ0, N, S⟩ := X
  obtain ⟨hx, hb, hml, hown, hts, hlk, hini, hNc, hSc⟩ := hF
  obtain ⟨z, b, pc', l', st⟩ := f
  dsimp only at hpc
  subst hpc
  unfold o_bin
  dsimp only
  split
  · rename_i y x r
    try subst heq
    subst hn
    refine ⟨Nat.le_refl _, Nat.le_refl _, fun _ _ _ hG γ g cA tys H locs ls hR hl hc hγ h1 h2 h3 h4 h5 h6 => ?_⟩
    exact lv_ishl hx hb hd (hG γ g cA tys H locs ls hR hl ⟨hc.1, am_cn1 trivial (am_tl (am_tl hc.2))⟩ hγ h1 h2 h3 h4 h5 h6)
  · trivial
theorem ok_ishr {np : Nat} (hd : decode cc pc = .ok (.ishr, 1)) (hn : np = pc + 1) : am_ok tb cc own mL rt ini pc (o_bin (fun x y => x >>> (y &&& 31)) np) := by
  intro X f M hF hpc
  obtain ⟨p, l, e, R, s, m, args, below, meth, c, Q, L, xs, D, A, n0, s0, γ0, N, S⟩ := X
  obtain ⟨hx, hb, hml, hown, hts, hlk, hini, hNc, hSc⟩ := hF
  obtain ⟨z, b, pc', l', st⟩ := f
  dsimp only at hpc
  subst hpc
  unfold o_bin
  dsimp only
  split
  · rename_i y x r
    try subst heq
    subst hn
    refine ⟨Nat.le_refl _, Nat.le_refl _, fun _ _ _ hG γ g cA tys H locs ls hR hl hc hγ h1 h2 h3 h4 h5 h6 => ?_⟩
    exact lv_ishr hx hb hd (hG γ g cA tys H locs ls hR hl ⟨hc.1, am_cn1 trivial (am_tl (am_tl hc.2))⟩ hγ h1 h2 h3 h4 h5 h6)
  · trivial
theorem ok_iushr {np : Nat} (hd : decode cc pc = .ok (.iushr, 1)) (hn : np = pc + 1) : am_ok tb cc own mL rt ini pc (o_bin (fun x y => (x.toUInt32 >>> (y.toUInt32 &&& Int32.toUInt32 31)).toInt32) np) := by
  intro X f M hF hpc
  obtain ⟨p, l, e, R, s, m, args, below, meth, c, Q, L, xs, D, A, n0, s0, γ0, N, S⟩ := X
  obtain ⟨hx, hb, hml, hown, hts, hlk, hini, hNc, hSc⟩ := hF
  obtain ⟨z, b, pc', l', st⟩ := f
  dsimp only at hpc
  subst hpc
  unfold o_bin
  dsimp only
  split
  · rename_i y x r
    try subst heq
    subst hn
    refine ⟨Nat.le_refl _, Nat.le_refl _, fun _ _ _ hG γ g cA tys H locs ls hR hl hc hγ h1 h2 h3 h4 h5 h6 => ?_⟩
    exact lv_iushr hx hb hd rfl (hG γ g cA tys H locs ls hR hl ⟨hc.1, am_cn1 trivial (am_tl (am_tl hc.2))⟩ hγ h1 h2 h3 h4 h5 h6)
  · trivial
theorem ok_idiv {np : Nat} (hd : decode cc pc = .ok (.idiv, 1)) (hn : np = pc + 1) : am_ok tb cc own mL rt ini pc (o_binS (fun x y => x / y) np) := by
  intro X f M hF hpc
  obtain ⟨p, l, e, R, s, m, args, below, meth, c, Q, L, xs, D, A, n0, s0, γ0, N, S⟩ := X
  obtain ⟨hx, hb, hml, hown, hts, hlk, hini, hNc, hSc⟩ := hF
  obtain ⟨z, b, pc', l', st⟩ := f
  dsimp only at hpc
  subst hpc
  unfold o_binS
  dsimp only
  split
  · rename_i y x r
    try subst heq
    subst hn
    refine ⟨Nat.le_refl _, Nat.le_refl _, fun hp _ _ hG γ g cA tys H locs ls hR hl hc hγ h1 h2 h3 h4 h5 h6 => ?_⟩
    exact lv_idiv hx hb hd hp (hG γ g cA tys H locs ls hR hl ⟨hc.1, am_cn1 trivial (am_tl (am_tl hc.2))⟩ hγ h1 h2 h3 h4 h5 h6)
  · trivial
theorem ok_irem {np : Nat} (hd : decode cc pc = .ok (.irem, 1)) (hn : np = pc + 1) : am_ok tb cc own mL rt ini pc (o_binS (fun x y => x - x / y * y) np) := by
  intro X f M hF hpc
  obtain ⟨p, l, e, R, s, m, args, below, meth, c, Q, L, xs, D, A, n0, s0, γ0, N, S⟩ := X
  obtain ⟨hx, hb, hml, hown, hts, hlk, hini, hNc, hSc⟩ := hF
  obtain ⟨z, b, pc', l', st⟩ := f
  dsimp only at hpc
  subst hpc
  unfold o_binS
  dsimp only
  split
  · rename_i y x r
    try subst heq
    subst hn
    refine ⟨Nat.le_refl _, Nat.le_refl _, fun hp _ _ hG γ g cA tys H locs ls hR hl hc hγ h1 h2 h3 h4 h5 h6 => ?_⟩
    exact lv_irem hx hb hd hp (hG γ g cA tys H locs ls hR hl ⟨hc.1, am_cn1 trivial (am_tl (am_tl hc.2))⟩ hγ h1 h2 h3 h4 h5 h6)
  · trivial
theorem ok_ladd {np : Nat} (hd : decode cc pc = .ok (.ladd, 1)) (hn : np = pc + 1) : am_ok tb cc own mL rt ini pc (o_lbin (fun x y => x + y) np) := by
  intro X f M hF hpc
  obtain ⟨p, l, e, R, s, m, args, below, meth, c, Q, L, xs, D, A, n0, s0, γ0, N, S⟩ := X
  obtain ⟨hx, hb, hml, hown, hts, hlk, hini, hNc, hSc⟩ := hF
  obtain ⟨z, b, pc', l', st⟩ := f
  dsimp only at hpc
  subst hpc
  unfold o_lbin
  dsimp only
  split
  · rename_i y x r
    try subst heq
    subst hn
    refine ⟨Nat.le_refl _, Nat.le_refl _, fun _ _ _ hG γ g cA tys H locs ls hR hl hc hγ h1 h2 h3 h4 h5 h6 => ?_⟩
    exact lv_ladd hx hb hd (hG γ g cA tys H locs ls hR hl ⟨hc.1, am_cn1 trivial (am_tl (am_tl hc.2))⟩ hγ h1 h2 h3 h4 h5 h6)
  · trivial
theorem ok_lsub {np : Nat} (hd : decode cc pc = .ok (.lsub, 1)) (hn : np = pc + 1) : am_ok tb cc own mL rt ini pc (o_lbin (fun x y => x - y) np) := by
  intro X f M hF hpc
  obtain ⟨p, l, e, R, s, m, args, below, meth, c, Q, L, xs, D, A, n0, s0, γ0, N, S⟩ := X
  obtain ⟨hx, hb, hml, hown, hts, hlk, hini, hNc, hSc⟩ := hF
  obtain ⟨z, b, pc', l', st⟩ := f
  dsimp only at hpc
  subst hpc
  unfold o_lbin
  dsimp only
  split
  · rename_i y x r
    try subst heq
    subst hn
    refine ⟨Nat.le_refl _, Nat.le_refl _, fun _ _ _ hG γ g cA tys H locs ls hR hl hc hγ h1 h2 h3 h4 h5 h6 => ?_⟩
    exact lv_lsub hx hb hd (hG γ g cA tys H locs ls hR hl ⟨hc.1, am_cn1 trivial (am_tl (am_tl hc.2))⟩ hγ h1 h2 h3 h4 h5 h6)
  · trivial
theorem ok_lmul {np : Nat} (hd : decode cc pc = .ok (.lmul, 1)) (hn : np = pc + 1) : am_ok tb cc own mL rt ini pc (o_lbin (fun x y => x * y) np) := by
  intro X f M hF hpc
  obtain ⟨p, l, e, R, s, m, args, below, meth, c, Q, L, xs, D, A, n0, s0, γ0, N, S⟩ := X
  obtain ⟨hx, hb, hml, hown, hts, hlk, hini, hNc, hSc⟩ := hF
  obtain ⟨z, b, pc', l', st⟩ := f
  dsimp only at hpc
  subst hpc
  unfold o_lbin
  dsimp only
  split
  · rename_i y x r
    try subst heq
    subst hn
    refine ⟨Nat.le_refl _, Nat.le_refl _, fun _ _ _ hG γ g cA tys H locs ls hR hl hc hγ h1 h2 h3 h4 h5 h6 => ?_⟩
    exact lv_lmul hx hb hd (hG γ g cA tys H locs ls hR hl ⟨hc.1, am_cn1 trivial (am_tl (am_tl hc.2))⟩ hγ h1 h2 h3 h4 h5 h6)
  · trivial
theorem ok_ldiv {np : Nat} (hd : decode cc pc = .ok (.ldiv, 1)) (hn : np = pc + 1) : am_ok tb cc own mL rt ini pc (o_lbinS (fun x y => x / y) np) := by
  intro X f M hF hpc
  obtain ⟨p, l, e, R, s, m, args, below, meth, c, Q, L, xs, D, A, n0, s0, γ0, N, S⟩ := X
  obtain ⟨hx, hb, hml, hown, hts, hlk, hini, hNc, hSc⟩ := hF
  obtain ⟨z, b, pc', l', st⟩ := f
  dsimp only at hpc
  subst hpc
  unfold o_lbinS
  dsimp only
  split
  · rename_i y x r
    try subst heq
    subst hn
    refine ⟨Nat.le_refl _, Nat.le_refl _, fun hp _ _ hG γ g cA tys H locs ls hR hl hc hγ h1 h2 h3 h4 h5 h6 => ?_⟩
    exact lv_ldiv hx hb hd hp (hG γ g cA tys H locs ls hR hl ⟨hc.1, am_cn1 trivial (am_tl (am_tl hc.2))⟩ hγ h1 h2 h3 h4 h5 h6)
  · trivial
theorem ok_lrem {np : Nat} (hd : decode cc pc = .ok (.lrem, 1)) (hn : np = pc + 1) : am_ok tb cc own mL rt ini pc (o_lbinS (fun x y => x - x / y * y) np) := by
  intro X f M hF hpc
  obtain ⟨p, l, e, R, s, m, args, below, meth, c, Q, L, xs, D, A, n0, s0, γ0, N, S⟩ := X
  obtain ⟨hx, hb, hml, hown, hts, hlk, hini, hNc, hSc⟩ := hF
  obtain ⟨z, b, pc', l', st⟩ := f
  dsimp only at hpc
  subst hpc
  unfold o_lbinS
  dsimp only
  split
  · rename_i y x r
    try subst heq
    subst hn
    refine ⟨Nat.le_refl _, Nat.le_refl _, fun hp _ _ hG γ g cA tys H locs ls hR hl hc hγ h1 h2 h3 h4 h5 h6 => ?_⟩
    exact lv_lrem hx hb hd hp (hG γ g cA tys H locs ls hR hl ⟨hc.1, am_cn1 trivial (am_tl (am_tl hc.2))⟩ hγ h1 h2 h3 h4 h5 h6)
  · trivial
theorem ok_ineg {np : Nat} (hd : decode cc pc = .ok (.ineg, 1)) (hn : np = pc + 1) : am_ok tb cc own mL rt ini pc (o_un (fun x => -x) np) := by
  intro X f M hF hpc
  obtain ⟨p, l, e, R, s, m, args, below, meth, c, Q, L, xs, D, A, n0, s0, γ0, N, S⟩ := X
  obtain ⟨hx, hb, hml, hown, hts, hlk, hini, hNc, hSc⟩ := hF
  obtain ⟨z, b, pc', l', st⟩ := f
  dsimp only at hpc
  subst hpc
  unfold o_un
  dsimp only
  split
  · rename_i x r
    try subst heq
    subst hn
    refine ⟨Nat.le_refl _, Nat.le_refl _, fun _ _ _ hG γ g cA tys H locs ls hR hl hc hγ h1 h2 h3 h4 h5 h6 => ?_⟩
    exact lv_ineg hx hb hd (hG γ g cA tys H locs ls hR hl ⟨hc.1, am_cn1 trivial (am_tl hc.2)⟩ hγ h1 h2 h3 h4 h5 h6)
  · trivial
theorem ok_i2s {np : Nat} (hd : decode cc pc = .ok (.i2s, 1)) (hn : np = pc + 1) : am_ok tb cc own mL rt ini pc (o_un (fun x => x.toInt16.toInt32) np) := by
  intro X f M hF hpc
  obtain ⟨p, l, e, R, s, m, args, below, meth, c, Q, L, xs, D, A, n0, s0, γ0, N, S⟩ := X
  obtain ⟨hx, hb, hml, hown, hts, hlk, hini, hNc, hSc⟩ := hF
  obtain ⟨z, b, pc', l', st⟩ := f
  dsimp only at hpc
  subst hpc
  unfold o_un
  dsimp only
  split
  · rename_i x r
    try subst heq
    subst hn
    refine ⟨Nat.le_refl _, Nat.le_refl _, fun _ _ _ hG γ g cA tys H locs ls hR hl hc hγ h1 h2 h3 h4 h5 h6 => ?_⟩
    exact lv_i2s hx hb hd rfl (hG γ g cA tys H locs ls hR hl ⟨hc.1, am_cn1 trivial (am_tl hc.2)⟩ hγ h1 h2 h3 h4 h5 h6)
  · trivial
theorem ok_i2b {np : Nat} (hd : decode cc pc = .ok (.i2b, 1)) (hn : np = pc + 1) : am_ok tb cc own mL rt ini pc (o_un (fun x => x.toInt8.toInt32) np) := by
  intro X f M hF hpc
  obtain ⟨p, l, e, R, s, m, args, below, meth, c, Q, L, xs, D, A, n0, s0, γ0, N, S⟩ := X
  obtain ⟨hx, hb, hml, hown, hts, hlk, hini, hNc, hSc⟩ := hF
  obtain ⟨z, b, pc', l', st⟩ := f
  dsimp only at hpc
  subst hpc
  unfold o_un
  dsimp only
  split
  · rename_i x r
    try subst heq
    subst hn
    refine ⟨Nat.le_refl _, Nat.le_refl _, fun _ _ _ hG γ g cA tys H locs ls hR hl hc hγ h1 h2 h3 h4 h5 h6 => ?_⟩
    exact lv_i2b hx hb hd rfl (hG γ g cA tys H locs ls hR hl ⟨hc.1, am_cn1 trivial (am_tl hc.2)⟩ hγ h1 h2 h3 h4 h5 h6)
  · trivial
theorem ok_i2c {np : Nat} (hd : decode cc pc = .ok (.i2c, 1)) (hn : np = pc + 1) : am_ok tb cc own mL rt ini pc (o_un (fun x => (x.toUInt32 % 65536).toInt32) np) := by
  intro X f M hF hpc
  obtain ⟨p, l, e, R, s, m, args, below, meth, c, Q, L, xs, D, A, n0, s0, γ0, N, S⟩ := X
  obtain ⟨hx, hb, hml, hown, hts, hlk, hini, hNc, hSc⟩ := hF
  obtain ⟨z, b, pc', l', st⟩ := f
  dsimp only at hpc
  subst hpc
  unfold o_un
  dsimp only
  split
  · rename_i x r
    try subst heq
    subst hn
    refine ⟨Nat.le_refl _, Nat.le_refl _, fun _ _ _ hG γ g cA tys H locs ls hR hl hc hγ h1 h2 h3 h4 h5 h6 => ?_⟩
    exact lv_i2c hx hb hd rfl (hG γ g cA tys H locs ls hR hl ⟨hc.1, am_cn1 trivial (am_tl hc.2)⟩ hγ h1 h2 h3 h4 h5 h6)
  · trivial
theorem ok_lneg {np : Nat} (hd : decode cc pc = .ok (.lneg, 1)) (hn : np = pc + 1) : am_ok tb cc own mL rt ini pc (o_lneg np) := by
  intro X f M hF hpc
  obtain ⟨p, l, e, R, s, m, args, below, meth, c, Q, L, xs, D, A, n0, s0, γ0, N, S⟩ := X
  obtain ⟨hx, hb, hml, hown, hts, hlk, hini, hNc, hSc⟩ := hF
  obtain ⟨z, b, pc', l', st⟩ := f
  dsimp only at hpc
  subst hpc
  unfold o_lneg
  dsimp only
  split
  · rename_i x r
    try subst heq
    subst hn
    refine ⟨Nat.le_refl _, Nat.le_refl _, fun _ _ _ hG γ g cA tys H locs ls hR hl hc hγ h1 h2 h3 h4 h5 h6 => ?_⟩
    exact lv_lneg hx hb hd (hG γ g cA tys H locs ls hR hl ⟨hc.1, am_cn1 trivial (am_tl hc.2)⟩ hγ h1 h2 h3 h4 h5 h6)
  · trivial
theorem ok_i2l {np : Nat} (hd : decode cc pc = .ok (.i2l, 1)) (hn : np = pc + 1) : am_ok tb cc own mL rt ini pc (o_i2l np) := by
  intro X f M hF hpc
  obtain ⟨p, l, e, R, s, m, args, below, meth, c, Q, L, xs, D, A, n0, s0, γ0, N, S⟩ := X
  obtain ⟨hx, hb, hml, hown, hts, hlk, hini, hNc, hSc⟩ := hF
  obtain ⟨z, b, pc', l', st⟩ := f
  dsimp only at hpc
  subst hpc
  unfold o_i2l
  dsimp only
  split
  · rename_i x r
    try subst heq
    subst hn
    refine ⟨Nat.le_refl _, Nat.le_refl _, fun _ _ _ hG γ g cA tys H locs ls hR hl hc hγ h1 h2 h3 h4 h5 h6 => ?_⟩
    exact lv_i2l hx hb hd rfl (hG γ g cA tys H locs ls hR hl ⟨hc.1, am_cn1 trivial (am_tl hc.2)⟩ hγ h1 h2 h3 h4 h5 h6)
  · trivial
theorem ok_l2i {np : Nat} (hd : decode cc pc = .ok (.l2i, 1)) (hn : np = pc + 1) : am_ok tb cc own mL rt ini pc (o_l2i np) := by
  intro X f M hF hpc
  obtain ⟨p, l, e, R, s, m, args, below, meth, c, Q, L, xs, D, A, n0, s0, γ0, N, S⟩ := X
  obtain ⟨hx, hb, hml, hown, hts, hlk, hini, hNc, hSc⟩ := hF
  obtain ⟨z, b, pc', l', st⟩ := f
  dsimp only at hpc
  subst hpc
  unfold o_l2i
  dsimp only
  split
  · rename_i x r
    try subst heq
    subst hn
    refine ⟨Nat.le_refl _, Nat.le_refl _, fun _ _ _ hG γ g cA tys H locs ls hR hl hc hγ h1 h2 h3 h4 h5 h6 => ?_⟩
    exact lv_l2i hx hb hd rfl (hG γ g cA tys H locs ls hR hl ⟨hc.1, am_cn1 trivial (am_tl hc.2)⟩ hγ h1 h2 h3 h4 h5 h6)
  · trivial
theorem ok_lcmp {np : Nat} (hd : decode cc pc = .ok (.lcmp, 1)) (hn : np = pc + 1) : am_ok tb cc own mL rt ini pc (o_lcmp np) := by
  intro X f M hF hpc
  obtain ⟨p, l, e, R, s, m, args, below, meth, c, Q, L, xs, D, A, n0, s0, γ0, N, S⟩ := X
  obtain ⟨hx, hb, hml, hown, hts, hlk, hini, hNc, hSc⟩ := hF
  obtain ⟨z, b, pc', l', st⟩ := f
  dsimp only at hpc
  subst hpc
  unfold o_lcmp
  dsimp only
  split
  · rename_i y x r
    try subst heq
    subst hn
    refine ⟨Nat.le_refl _, Nat.le_refl _, fun _ _ _ hG γ g cA tys H locs ls hR hl hc hγ h1 h2 h3 h4 h5 h6 => ?_⟩
    exact W.lcmp hx hb hd (hG γ g cA tys H locs ls hR hl ⟨hc.1, am_cn1 trivial (am_tl (am_tl hc.2))⟩ hγ h1 h2 h3 h4 h5 h6)
  · trivial
theorem ok_if_eq {off : Int} {tg np : Nat} (hd : decode cc pc = .ok (.ifCond .eq off, 3)) (ht : (pc : Int) + off = (tg : Int)) (hn : np = pc + 3) : am_ok tb cc own mL rt ini pc (o_if (fun x => x = 0) tg np) := by
  intro X f M hF hpc
  obtain ⟨p, l, e, R, s, m, args, below, meth, c, Q, L, xs, D, A, n0, s0, γ0, N, S⟩ := X
  obtain ⟨hx, hb, hml, hown, hts, hlk, hini, hNc, hSc⟩ := hF
  obtain ⟨z, b, pc', l', st⟩ := f
  dsimp only at hpc
  subst hpc
  unfold o_if
  dsimp only
  split
  · rename_i x r
    try subst heq
    subst hn
    intro hp hT hE γ g cA tys H locs ls hR hl hc hγ h1 h2 h3 h4 h5 h6
    exact lv_if_eq hx hb hd ht (fun hq => hT hq γ g cA tys H locs ls hR hl ⟨hc.1, am_tl hc.2⟩ hγ h1 h2 h3 h4 h5 h6) (fun hq => hE hq γ g cA tys H locs ls hR hl ⟨hc.1, am_tl hc.2⟩ hγ h1 h2 h3 h4 h5 h6)
  · trivial
theorem ok_if_ne {off : Int} {tg np : Nat} (hd : decode cc pc = .ok (.ifCond .ne off, 3)) (ht : (pc : Int) + off = (tg : Int)) (hn : np = pc + 3) : am_ok tb cc own mL rt ini pc (o_if (fun x => ¬ x = 0) tg np) := by
  intro X f M hF hpc
  obtain ⟨p, l, e, R, s, m, args, below, meth, c, Q, L, xs, D, A, n0, s0, γ0, N, S⟩ := X
  obtain ⟨hx, hb, hml, hown, hts, hlk, hini, hNc, hSc⟩ := hF
  obtain ⟨z, b, pc', l', st⟩ := f
  dsimp only at hpc
  subst hpc
  unfold o_if
  dsimp only
  split
  · rename_i x r
    try subst heq
    subst hn
    intro hp hT hE γ g cA tys H locs ls hR hl hc hγ h1 h2 h3 h4 h5 h6
    exact lv_if_ne hx hb hd ht (fun hq => hT hq γ g cA tys H locs ls hR hl ⟨hc.1, am_tl hc.2⟩ hγ h1 h2 h3 h4 h5 h6) (fun hq => hE (fun h => h hq) γ g cA tys H locs ls hR hl ⟨hc.1, am_tl hc.2⟩ hγ h1 h2 h3 h4 h5 h6)
  · trivial
theorem ok_if_lt {off : Int} {tg np : Nat} (hd : decode cc pc = .ok (.ifCond .lt off, 3)) (ht : (pc : Int) + off = (tg : Int)) (hn : np = pc + 3) : am_ok tb cc own mL rt ini pc (o_if (fun x => x < 0) tg np) := by
  intro X f M hF hpc
  obtain ⟨p, l, e, R, s, m, args, below, meth, c, Q, L, xs, D, A, n0, s0, γ0, N, S⟩ := X
  obtain ⟨hx, hb, hml, hown, hts, hlk, hini, hNc, hSc⟩ := hF
  obtain ⟨z, b, pc', l', st⟩ := f
  dsimp only at hpc
  subst hpc
  unfold o_if
  dsimp only
  split
  · rename_i x r
    try subst heq
    subst hn
    intro hp hT hE γ g cA tys H locs ls hR hl hc hγ h1 h2 h3 h4 h5 h6
    exact lv_if_lt hx hb hd ht (fun hq => hT hq γ g cA tys H locs ls hR hl ⟨hc.1, am_tl hc.2⟩ hγ h1 h2 h3 h4 h5 h6) (fun hq => hE hq γ g cA tys H locs ls hR hl ⟨hc.1, am_tl hc.2⟩ hγ h1 h2 h3 h4 h5 h6)
  · trivial
theorem ok_if_ge {off : Int} {tg np : Nat} (hd : decode cc pc = .ok (.ifCond .ge off, 3)) (ht : (pc : Int) + off = (tg : Int)) (hn : np = pc + 3) : am_ok tb cc own mL rt ini pc (o_if (fun x => 0 ≤ x) tg np) := by
  intro X f M hF hpc
  obtain ⟨p, l, e, R, s, m, args, below, meth, c, Q, L, xs, D, A, n0, s0, γ0, N, S⟩ := X
  obtain ⟨hx, hb, hml, hown, hts, hlk, hini, hNc, hSc⟩ := hF
  obtain ⟨z, b, pc', l', st⟩ := f
  dsimp only at hpc
  subst hpc
  unfold o_if
  dsimp only
  split
  · rename_i x r
    try subst heq
    subst hn
    intro hp hT hE γ g cA tys H locs ls hR hl hc hγ h1 h2 h3 h4 h5 h6
    exact lv_if_ge hx hb hd ht (fun hq => hT hq γ g cA tys H locs ls hR hl ⟨hc.1, am_tl hc.2⟩ hγ h1 h2 h3 h4 h5 h6) (fun hq => hE hq γ g cA tys H locs ls hR hl ⟨hc.1, am_tl hc.2⟩ hγ h1 h2 h3 h4 h5 h6)
  · trivial
theorem ok_if_gt {off : Int} {tg np : Nat} (hd : decode cc pc = .ok (.ifCond .gt off, 3)) (ht : (pc : Int) + off = (tg : Int)) (hn : np = pc + 3) : am_ok tb cc own mL rt ini pc (o_if (fun x => 0 < x) tg np) := by
  intro X f M hF hpc
  obtain ⟨p, l, e, R, s, m, args, below, meth, c, Q, L, xs, D, A, n0, s0, γ0, N, S⟩ := X
  obtain ⟨hx, hb, hml, hown, hts, hlk, hini, hNc, hSc⟩ := hF
  obtain ⟨z, b, pc', l', st⟩ := f
  dsimp only at hpc
  subst hpc
  unfold o_if
  dsimp only
  split
  · rename_i x r
    try subst heq
    subst hn
    intro hp hT hE γ g cA tys H locs ls hR hl hc hγ h1 h2 h3 h4 h5 h6
    exact lv_if_gt hx hb hd ht (fun hq => hT hq γ g cA tys H locs ls hR hl ⟨hc.1, am_tl hc.2⟩ hγ h1 h2 h3 h4 h5 h6) (fun hq => hE hq γ g cA tys H locs ls hR hl ⟨hc.1, am_tl hc.2⟩ hγ h1 h2 h3 h4 h5 h6)
  · trivial
theorem ok_if_le {off : Int} {tg np : Nat} (hd : decode cc pc = .ok (.ifCond .le off, 3)) (ht : (pc : Int) + off = (tg : Int)) (hn : np = pc + 3) : am_ok tb cc own mL rt ini pc (o_if (fun x => x ≤ 0) tg np) := by
  intro X f M hF hpc
  obtain ⟨p, l, e, R, s, m, args, below, meth, c, Q, L, xs, D, A, n0, s0, γ0, N, S⟩ := X
  obtain ⟨hx, hb, hml, hown, hts, hlk, hini, hNc, hSc⟩ := hF
  obtain ⟨z, b, pc', l', st⟩ := f
  dsimp only at hpc
  subst hpc
  unfold o_if
  dsimp only
  split
  · rename_i x r
    try subst heq
    subst hn
    intro hp hT hE γ g cA tys H locs ls hR hl hc hγ h1 h2 h3 h4 h5 h6
    exact lv_if_le hx hb hd ht (fun hq => hT hq γ g cA tys H locs ls hR hl ⟨hc.1, am_tl hc.2⟩ hγ h1 h2 h3 h4 h5 h6) (fun hq => hE hq γ g cA tys H locs ls hR hl ⟨hc.1, am_tl hc.2⟩ hγ h1 h2 h3 h4 h5 h6)
  · trivial
theorem ok_icmp_eq {off : Int} {tg np : Nat} (hd : decode cc pc = .ok (.if_icmp .eq off, 3)) (ht : (pc : Int) + off = (tg : Int)) (hn : np = pc + 3) : am_ok tb cc own mL rt ini pc (o_icmp (fun x y => x = y) tg np) := by
  intro X f M hF hpc
  obtain ⟨p, l, e, R, s, m, args, below, meth, c, Q, L, xs, D, A, n0, s0, γ0, N, S⟩ := X
  obtain ⟨hx, hb, hml, hown, hts, hlk, hini, hNc, hSc⟩ := hF
  obtain ⟨z, b, pc', l', st⟩ := f
  dsimp only at hpc
  subst hpc
  unfold o_icmp
  dsimp only
  split
  · rename_i y x r
    try subst heq
    subst hn
    intro hp hT hE γ g cA tys H locs ls hR hl hc hγ h1 h2 h3 h4 h5 h6
    exact lv_icmp_eq hx hb hd ht (fun hq => hT hq γ g cA tys H locs ls hR hl ⟨hc.1, am_tl (am_tl hc.2)⟩ hγ h1 h2 h3 h4 h5 h6) (fun hq => hE hq γ g cA tys H locs ls hR hl ⟨hc.1, am_tl (am_tl hc.2)⟩ hγ h1 h2 h3 h4 h5 h6)
  · trivial
theorem ok_icmp_ne {off : Int} {tg np : Nat} (hd : decode cc pc = .ok (.if_icmp .ne off, 3)) (ht : (pc : Int) + off = (tg : Int)) (hn : np = pc + 3) : am_ok tb cc own mL rt ini pc (o_icmp (fun x y => ¬ x = y) tg np) := by
  intro X f M hF hpc
  obtain ⟨p, l, e, R, s, m, args, below, meth, c, Q, L, xs, D, A, n0, s0, γ0, N, S⟩ := X
  obtain ⟨hx, hb, hml, hown, hts, hlk, hini, hNc, hSc⟩ := hF
  obtain ⟨z, b, pc', l', st⟩ := f
  dsimp only at hpc
  subst hpc
  unfold o_icmp
  dsimp only
  split
  · rename_i y x r
    try subst heq
    subst hn
    intro hp hT hE γ g cA tys H locs ls hR hl hc hγ h1 h2 h3 h4 h5 h6
    exact lv_icmp_ne hx hb hd ht (fun hq => hT hq γ g cA tys H locs ls hR hl ⟨hc.1, am_tl (am_tl hc.2)⟩ hγ h1 h2 h3 h4 h5 h6) (fun hq => hE (fun h => h hq) γ g cA tys H locs ls hR hl ⟨hc.1, am_tl (am_tl hc.2)⟩ hγ h1 h2 h3 h4 h5 h6)
  · trivial
theorem ok_icmp_lt {off : Int} {tg np : Nat} (hd : decode cc pc = .ok (.if_icmp .lt off, 3)) (ht : (pc : Int) + off = (tg : Int)) (hn : np = pc + 3) : am_ok tb cc own mL rt ini pc (o_icmp (fun x y => x < y) tg np) := by
  intro X f M hF hpc
  obtain ⟨p, l, e, R, s, m, args, below, meth, c, Q, L, xs, D, A, n0, s0, γ0, N, S⟩ := X
  obtain ⟨hx, hb, hml, hown, hts, hlk, hini, hNc, hSc⟩ := hF
  obtain ⟨z, b, pc', l', st⟩ := f
  dsimp only at hpc
  subst hpc
  unfold o_icmp
  dsimp only
  split
  · rename_i y x r
    try subst heq
    subst hn
    intro hp hT hE γ g cA tys H locs ls hR hl hc hγ h1 h2 h3 h4 h5 h6
    exact lv_icmp_lt hx hb hd ht (fun hq => hT hq γ g cA tys H locs ls hR hl ⟨hc.1, am_tl (am_tl hc.2)⟩ hγ h1 h2 h3 h4 h5 h6) (fun hq => hE hq γ g cA tys H locs ls hR hl ⟨hc.1, am_tl (am_tl hc.2)⟩ hγ h1 h2 h3 h4 h5 h6)
  · trivial
theorem ok_icmp_ge {off : Int} {tg np : Nat} (hd : decode cc pc = .ok (.if_icmp .ge off, 3)) (ht : (pc : Int) + off = (tg : Int)) (hn : np = pc + 3) : am_ok tb cc own mL rt ini pc (o_icmp (fun x y => y ≤ x) tg np) := by
  intro X f M hF hpc
  obtain ⟨p, l, e, R, s, m, args, below, meth, c, Q, L, xs, D, A, n0, s0, γ0, N, S⟩ := X
  obtain ⟨hx, hb, hml, hown, hts, hlk, hini, hNc, hSc⟩ := hF
  obtain ⟨z, b, pc', l', st⟩ := f
  dsimp only at hpc
  subst hpc
  unfold o_icmp
  dsimp only
  split
  · rename_i y x r
    try subst heq
    subst hn
    intro hp hT hE γ g cA tys H locs ls hR hl hc hγ h1 h2 h3 h4 h5 h6
    exact lv_icmp_ge hx hb hd ht (fun hq => hT hq γ g cA tys H locs ls hR hl ⟨hc.1, am_tl (am_tl hc.2)⟩ hγ h1 h2 h3 h4 h5 h6) (fun hq => hE hq γ g cA tys H locs ls hR hl ⟨hc.1, am_tl (am_tl hc.2)⟩ hγ h1 h2 h3 h4 h5 h6)
  · trivial
theorem ok_icmp_gt {off : Int} {tg np : Nat} (hd : decode cc pc = .ok (.if_icmp .gt off, 3)) (ht : (pc : Int) + off = (tg : Int)) (hn : np = pc + 3) : am_ok tb cc own mL rt ini pc (o_icmp (fun x y => y < x) tg np) := by
  intro X f M hF hpc
  obtain ⟨p, l, e, R, s, m, args, below, meth, c, Q, L, xs, D, A, n0, s0, γ0, N, S⟩ := X
  obtain ⟨hx, hb, hml, hown, hts, hlk, hini, hNc, hSc⟩ := hF
  obtain ⟨z, b, pc', l', st⟩ := f
  dsimp only at hpc
  subst hpc
  unfold o_icmp
  dsimp only
  split
  · rename_i y x r
    try subst heq
    subst hn
    intro hp hT hE γ g cA tys H locs ls hR hl hc hγ h1 h2 h3 h4 h5 h6
    exact lv_icmp_gt hx hb hd ht (fun hq => hT hq γ g cA tys H locs ls hR hl ⟨hc.1, am_tl (am_tl hc.2)⟩ hγ h1 h2 h3 h4 h5 h6) (fun hq => hE hq γ g cA tys H locs ls hR hl ⟨hc.1, am_tl (am_tl hc.2)⟩ hγ h1 h2 h3 h4 h5 h6)
  · trivial
theorem ok_icmp_le {off : Int} {tg np : Nat} (hd : decode cc pc = .ok (.if_icmp .le off, 3)) (ht : (pc : Int) + off = (tg : Int)) (hn : np = pc + 3) : am_ok tb cc own mL rt ini pc (o_icmp (fun x y => x ≤ y) tg np) := by
  intro X f M hF hpc
  obtain ⟨p, l, e, R, s, m, args, below, meth, c, Q, L, xs, D, A, n0, s0, γ0, N, S⟩ := X
  obtain ⟨hx, hb, hml, hown, hts, hlk, hini, hNc, hSc⟩ := hF
  obtain ⟨z, b, pc', l', st⟩ := f
  dsimp only at hpc
  subst hpc
  unfold o_icmp
  dsimp only
  split
  · rename_i y x r
    try subst heq
    subst hn
    intro hp hT hE γ g cA tys H locs ls hR hl hc hγ h1 h2 h3 h4 h5 h6
    exact lv_icmp_le hx hb hd ht (fun hq => hT hq γ g cA tys H locs ls hR hl ⟨hc.1, am_tl (am_tl hc.2)⟩ hγ h1 h2 h3 h4 h5 h6) (fun hq => hE hq γ g cA tys H locs ls hR hl ⟨hc.1, am_tl (am_tl hc.2)⟩ hγ h1 h2 h3 h4 h5 h6)
  · trivial
theorem ok_goto {off : Int} {tg : Nat} (hd : decode cc pc = .ok (.goto off, 3)) (ht : (pc : Int) + off = (tg : Int)) : am_ok tb cc own mL rt ini pc (o_goto tg) := by
  intro X f M hF hpc
  obtain ⟨p, l, e, R, s, m, args, below, meth, c, Q, L, xs, D, A, n0, s0, γ0, N, S⟩ := X
  obtain ⟨hx, hb, hml, hown, hts, hlk, hini, hNc, hSc⟩ := hF
  obtain ⟨z, b, pc', l', st⟩ := f
  dsimp only at hpc
  subst hpc
  unfold o_goto
  dsimp only
  refine ⟨Nat.le_refl _, Nat.le_refl _, fun _ _ _ hG γ g cA tys H locs ls hR hl hc hγ h1 h2 h3 h4 h5 h6 => ?_⟩
  exact lv_goto hx hb hd ht (hG γ g cA tys H locs ls hR hl ⟨hc.1, hc.2⟩ hγ h1 h2 h3 h4 h5 h6)
end AM5
