/-! the instructions that read or change a cell -/
section AM7
variable {tb : am_Tb} {cc : ByteArray} {own : String} {mL : Nat} {rt : Option FieldType} {ini : Bool} {pc : Nat}
theorem am_γR {L : Nat} {xs : Nat → Int32} {γ : Nat → Value} {g : Nat → Nat} {A : Nat → Prop} {s : State} {H : Heap} {n v : Nat} (h : am_Fo L xs γ A s H) (hg : ∀ r, 20 ≤ r → γ r = .ref (g r)) (hv : v = 0 ∨ (20 ≤ v ∧ v < n)) : γ v = va_rf (am_opt g v) := by
  obtain ⟨_, _, _, _, _, _, _, _, _, _, _, _, h8, _⟩ := h
  unfold am_opt
  rcases hv with rfl | ⟨h1, -⟩
  · rw [h8]; rfl
  · rw [hg v h1, if_neg (by omega)]; rfl
theorem ok_getI {idx ci N k np : Nat} {C : String} {T : u_T} (hd : decode cc pc = .ok (.getfield idx, 3)) (hcl : am_cl[ci]? = some (C, T, N)) (hin : ∀ w ∈ u_ws C T N, w ∈ am_words) (hk : k < N) (hc20 : ci < 20) (hw : Cond.fieldLink own idx (T k).1 (T k).2.1 (T k).2.2.1 ∈ am_words) (hfv : ∀ g M r, am_fv g M ci r k = .int (am_I M r k)) (hn : np = pc + 3) : am_ok tb cc own mL rt ini pc (o_getI ci N k np) := by
  intro X f M hF hpc
  obtain ⟨p, l, e, R, s, m, args, below, meth, c, Q, L, xs, D, A, n0, s0, γ0, N', S⟩ := X
  obtain ⟨hx, hb, hml, hown, hts, hlk, hini, hNc, hSc⟩ := hF
  obtain ⟨z, b, pc', l', st⟩ := f
  dsimp only at hpc
  subst hpc
  unfold o_getI
  dsimp only
  split
  · rename_i a r
    subst hn
    refine ⟨Nat.le_refl _, Nat.le_refl _, fun hp hle1 hle2 hG γ g cA tys H locs ls hR hl hc hγ h1 h2 h3 h4 h5 h6 => ?_⟩
    have hp : am_K M a = (ci, N) := hp
    obtain ⟨a1, a2⟩ := hR.2.2.2.2.2.2.2.1.own (a := a) (by rw [hp]; show ci < 40; omega)
    have hga := hR.2.2.2.2.2.2.1 a a1
    have he := am_ws_get (g := g) (cA := cA) (M := M) a1 a2
    rw [am_e_obj hp hc20] at he
    have k9 := (hG γ g cA tys H locs ls hR hl ⟨hc.1, am_cn1 trivial (am_tl hc.2)⟩ hγ h1 h2 h3 h4 h5 h6)
    simp only [List.map_cons, am_cv, hga] at k9 ⊢
    exact va_get (D := D) (cl := am_cl) hx hb hts hin hown hR.1 hR.2.1 (a - 20) he hcl k hk (hts _ hw) (fun _ h => h) (by rw [am_fs_get hk, hfv]) hd k9
  · trivial
theorem ok_getIN {idx ci N k np : Nat} {C : String} {T : u_T} (hd : decode cc pc = .ok (.getfield idx, 3)) (hcl : am_cl[ci]? = some (C, T, N)) (hin : ∀ w ∈ u_ws C T N, w ∈ am_words) (hk : k < N) (hc20 : ci < 20) {host : String} (hw : Cond.fieldLinkNest own idx (T k).1 (T k).2.1 (T k).2.2.1 host ∈ am_nw) (hfv : ∀ g M r, am_fv g M ci r k = .int (am_I M r k)) (hn : np = pc + 3) : am_ok tb cc own mL rt ini pc (o_getI ci N k np) := by
  intro X f M hF hpc
  obtain ⟨p, l, e, R, s, m, args, below, meth, c, Q, L, xs, D, A, n0, s0, γ0, N', S⟩ := X
  obtain ⟨hx, hb, hml, hown, hts, hlk, hini, hNc, hSc⟩ := hF
  obtain ⟨z, b, pc', l', st⟩ := f
  dsimp only at hpc
  subst hpc
  unfold o_getI
  dsimp only
  split
  · rename_i a r
    subst hn
    refine ⟨Nat.le_refl _, Nat.le_refl _, fun hp hle1 hle2 hG γ g cA tys H locs ls hR hl hc hγ h1 h2 h3 h4 h5 h6 => ?_⟩
    have hp : am_K M a = (ci, N) := hp
    obtain ⟨a1, a2⟩ := hR.2.2.2.2.2.2.2.1.own (a := a) (by rw [hp]; show ci < 40; omega)
    have hga := hR.2.2.2.2.2.2.1 a a1
    have he := am_ws_get (g := g) (cA := cA) (M := M) a1 a2
    rw [am_e_obj hp hc20] at he
    have k9 := (hG γ g cA tys H locs ls hR hl ⟨hc.1, am_cn1 trivial (am_tl hc.2)⟩ hγ h1 h2 h3 h4 h5 h6)
    simp only [List.map_cons, am_cv, hga] at k9 ⊢
    exact va_getN (D := D) (cl := am_cl) hx hb hts hin hown hR.1 hR.2.1 (a - 20) he hcl k hk (va_Nw.use rfl (hR.2.2.2.2.2.1.nw hw)) (fun _ h => h) (by rw [am_fs_get hk, hfv]) hd k9
  · trivial
theorem ok_getJ {idx ci N k np : Nat} {C : String} {T : u_T} (hd : decode cc pc = .ok (.getfield idx, 3)) (hcl : am_cl[ci]? = some (C, T, N)) (hin : ∀ w ∈ u_ws C T N, w ∈ am_words) (hk : k < N) (hc20 : ci < 20) (hw : Cond.fieldLink own idx (T k).1 (T k).2.1 (T k).2.2.1 ∈ am_words) (hfv : ∀ g M r, am_fv g M ci r k = .long (am_J M r k)) (hn : np = pc + 3) : am_ok tb cc own mL rt ini pc (o_getJ ci N k np) := by
  intro X f M hF hpc
  obtain ⟨p, l, e, R, s, m, args, below, meth, c, Q, L, xs, D, A, n0, s0, γ0, N', S⟩ := X
  obtain ⟨hx, hb, hml, hown, hts, hlk, hini, hNc, hSc⟩ := hF
  obtain ⟨z, b, pc', l', st⟩ := f
  dsimp only at hpc
  subst hpc
  unfold o_getJ
  dsimp only
  split
  · rename_i a r
    subst hn
    refine ⟨Nat.le_refl _, Nat.le_refl _, fun hp hle1 hle2 hG γ g cA tys H locs ls hR hl hc hγ h1 h2 h3 h4 h5 h6 => ?_⟩
    have hp : am_K M a = (ci, N) := hp
    obtain ⟨a1, a2⟩ := hR.2.2.2.2.2.2.2.1.own (a := a) (by rw [hp]; show ci < 40; omega)
    have hga := hR.2.2.2.2.2.2.1 a a1
    have he := am_ws_get (g := g) (cA := cA) (M := M) a1 a2
    rw [am_e_obj hp hc20] at he
    have k9 := (hG γ g cA tys H locs ls hR hl ⟨hc.1, am_cn1 trivial (am_tl hc.2)⟩ hγ h1 h2 h3 h4 h5 h6)
    simp only [List.map_cons, am_cv, hga] at k9 ⊢
    exact va_get (D := D) (cl := am_cl) hx hb hts hin hown hR.1 hR.2.1 (a - 20) he hcl k hk (hts _ hw) (fun _ h => h) (by rw [am_fs_get hk, hfv]) hd k9
  · trivial
theorem ok_getJN {idx ci N k np : Nat} {C : String} {T : u_T} (hd : decode cc pc = .ok (.getfield idx, 3)) (hcl : am_cl[ci]? = some (C, T, N)) (hin : ∀ w ∈ u_ws C T N, w ∈ am_words) (hk : k < N) (hc20 : ci < 20) {host : String} (hw : Cond.fieldLinkNest own idx (T k).1 (T k).2.1 (T k).2.2.1 host ∈ am_nw) (hfv : ∀ g M r, am_fv g M ci r k = .long (am_J M r k)) (hn : np = pc + 3) : am_ok tb cc own mL rt ini pc (o_getJ ci N k np) := by
  intro X f M hF hpc
  obtain ⟨p, l, e, R, s, m, args, below, meth, c, Q, L, xs, D, A, n0, s0, γ0, N', S⟩ := X
  obtain ⟨hx, hb, hml, hown, hts, hlk, hini, hNc, hSc⟩ := hF
  obtain ⟨z, b, pc', l', st⟩ := f
  dsimp only at hpc
  subst hpc
  unfold o_getJ
  dsimp only
  split
  · rename_i a r
    subst hn
    refine ⟨Nat.le_refl _, Nat.le_refl _, fun hp hle1 hle2 hG γ g cA tys H locs ls hR hl hc hγ h1 h2 h3 h4 h5 h6 => ?_⟩
    have hp : am_K M a = (ci, N) := hp
    obtain ⟨a1, a2⟩ := hR.2.2.2.2.2.2.2.1.own (a := a) (by rw [hp]; show ci < 40; omega)
    have hga := hR.2.2.2.2.2.2.1 a a1
    have he := am_ws_get (g := g) (cA := cA) (M := M) a1 a2
    rw [am_e_obj hp hc20] at he
    have k9 := (hG γ g cA tys H locs ls hR hl ⟨hc.1, am_cn1 trivial (am_tl hc.2)⟩ hγ h1 h2 h3 h4 h5 h6)
    simp only [List.map_cons, am_cv, hga] at k9 ⊢
    exact va_getN (D := D) (cl := am_cl) hx hb hts hin hown hR.1 hR.2.1 (a - 20) he hcl k hk (va_Nw.use rfl (hR.2.2.2.2.2.1.nw hw)) (fun _ h => h) (by rw [am_fs_get hk, hfv]) hd k9
  · trivial
theorem ok_getR {idx ci N k np : Nat} {C : String} {T : u_T} (hd : decode cc pc = .ok (.getfield idx, 3)) (hcl : am_cl[ci]? = some (C, T, N)) (hin : ∀ w ∈ u_ws C T N, w ∈ am_words) (hk : k < N) (hc20 : ci < 20) (hw : Cond.fieldLink own idx (T k).1 (T k).2.1 (T k).2.2.1 ∈ am_words) (hfv : ∀ g M r, am_fv g M ci r k = va_rf (am_opt g (am_R M r k))) (hn : np = pc + 3) : am_ok tb cc own mL rt ini pc (o_getR ci N k np) := by
  intro X f M hF hpc
  obtain ⟨p, l, e, R, s, m, args, below, meth, c, Q, L, xs, D, A, n0, s0, γ0, N', S⟩ := X
  obtain ⟨hx, hb, hml, hown, hts, hlk, hini, hNc, hSc⟩ := hF
  obtain ⟨z, b, pc', l', st⟩ := f
  dsimp only at hpc
  subst hpc
  unfold o_getR
  dsimp only
  split
  · rename_i a r
    subst hn
    refine ⟨Nat.le_refl _, Nat.le_refl _, fun hp hle1 hle2 hG γ g cA tys H locs ls hR hl hc hγ h1 h2 h3 h4 h5 h6 => ?_⟩
    have hp : am_K M a = (ci, N) := hp
    obtain ⟨a1, a2⟩ := hR.2.2.2.2.2.2.2.1.own (a := a) (by rw [hp]; show ci < 40; omega)
    have hga := hR.2.2.2.2.2.2.1 a a1
    have he := am_ws_get (g := g) (cA := cA) (M := M) a1 a2
    rw [am_e_obj hp hc20] at he
    have hrc := hR.2.2.2.2.2.2.2.1.2.2.2.2 a k
    have k9 := (hG γ g cA tys H locs ls hR hl ⟨hc.1, am_cn1 (show am_R M a k < am_n M ∧ am_R M a k ≠ 16 from ⟨by have := hR.2.2.2.2.2.2.2.1.1; omega, by omega⟩) (am_tl hc.2)⟩ hγ h1 h2 h3 h4 h5 h6)
    have hv : γ (am_R M a k) = va_rf (am_opt g (am_R M a k)) := am_γR hR.2.2.2.2.2.1 hR.2.2.2.2.2.2.1 hrc
    simp only [List.map_cons, am_cv, hga, hv] at k9 ⊢
    exact va_get (D := D) (cl := am_cl) hx hb hts hin hown hR.1 hR.2.1 (a - 20) he hcl k hk (hts _ hw) (fun _ h => h) (by rw [am_fs_get hk, hfv]) hd k9
  · trivial
theorem ok_getRN {idx ci N k np : Nat} {C : String} {T : u_T} (hd : decode cc pc = .ok (.getfield idx, 3)) (hcl : am_cl[ci]? = some (C, T, N)) (hin : ∀ w ∈ u_ws C T N, w ∈ am_words) (hk : k < N) (hc20 : ci < 20) {host : String} (hw : Cond.fieldLinkNest own idx (T k).1 (T k).2.1 (T k).2.2.1 host ∈ am_nw) (hfv : ∀ g M r, am_fv g M ci r k = va_rf (am_opt g (am_R M r k))) (hn : np = pc + 3) : am_ok tb cc own mL rt ini pc (o_getR ci N k np) := by
  intro X f M hF hpc
  obtain ⟨p, l, e, R, s, m, args, below, meth, c, Q, L, xs, D, A, n0, s0, γ0, N', S⟩ := X
  obtain ⟨hx, hb, hml, hown, hts, hlk, hini, hNc, hSc⟩ := hF
  obtain ⟨z, b, pc', l', st⟩ := f
  dsimp only at hpc
  subst hpc
  unfold o_getR
  dsimp only
  split
  · rename_i a r
    subst hn
    refine ⟨Nat.le_refl _, Nat.le_refl _, fun hp hle1 hle2 hG γ g cA tys H locs ls hR hl hc hγ h1 h2 h3 h4 h5 h6 => ?_⟩
    have hp : am_K M a = (ci, N) := hp
    obtain ⟨a1, a2⟩ := hR.2.2.2.2.2.2.2.1.own (a := a) (by rw [hp]; show ci < 40; omega)
    have hga := hR.2.2.2.2.2.2.1 a a1
    have he := am_ws_get (g := g) (cA := cA) (M := M) a1 a2
    rw [am_e_obj hp hc20] at he
    have hrc := hR.2.2.2.2.2.2.2.1.2.2.2.2 a k
    have k9 := (hG γ g cA tys H locs ls hR hl ⟨hc.1, am_cn1 (show am_R M a k < am_n M ∧ am_R M a k ≠ 16 from ⟨by have := hR.2.2.2.2.2.2.2.1.1; omega, by omega⟩) (am_tl hc.2)⟩ hγ h1 h2 h3 h4 h5 h6)
    have hv : γ (am_R M a k) = va_rf (am_opt g (am_R M a k)) := am_γR hR.2.2.2.2.2.1 hR.2.2.2.2.2.2.1 hrc
    simp only [List.map_cons, am_cv, hga, hv] at k9 ⊢
    exact va_getN (D := D) (cl := am_cl) hx hb hts hin hown hR.1 hR.2.1 (a - 20) he hcl k hk (va_Nw.use rfl (hR.2.2.2.2.2.1.nw hw)) (fun _ h => h) (by rw [am_fs_get hk, hfv]) hd k9
  · trivial
theorem ok_putI {idx ci N k np : Nat} {C : String} {T : u_T} (hd : decode cc pc = .ok (.putfield idx, 3)) (hcl : am_cl[ci]? = some (C, T, N)) (hin : ∀ w ∈ u_ws C T N, w ∈ am_words) (hty : ∀ k, k < N → parseFieldDescriptor (T k).2.2.1 = some (am_ty ci k)) (hnm : ∀ a, a < N → ∀ b, b < N → a ≠ b → (T a).2.1 ≠ (T b).2.1) (hk : k < N) (hc20 : ci < 20) (hw : Cond.fieldLink own idx (T k).1 (T k).2.1 (T k).2.2.1 ∈ am_words) (hfin : (T k).2.2.2 = false) (hdI : parseFieldDescriptor (T k).2.2.1 = some .int) (hfv : ∀ g M r, am_fv g M ci r k = .int (am_I M r k)) (hn : np = pc + 3) : am_ok tb cc own mL rt ini pc (o_putI ci N k np) := by
  intro X f M hF hpc
  obtain ⟨p, l, e, R, s, m, args, below, meth, c, Q, L, xs, D, A, n0, s0, γ0, N', S⟩ := X
  obtain ⟨hx, hb, hml, hown, hts, hlk, hini, hNc, hSc⟩ := hF
  obtain ⟨z, b, pc', l', st⟩ := f
  dsimp only at hpc
  subst hpc
  unfold o_putI
  dsimp only
  split
  · rename_i x a r
    subst hn
    refine ⟨Nat.le_refl _, Nat.le_refl _, fun hp hle1 hle2 hG γ g cA tys H locs ls hR hl hc hγ h1 h2 h3 h4 h5 h6 => ?_⟩
    have hp : am_K M a = (ci, N) := hp
    obtain ⟨a1, a2⟩ := hR.2.2.2.2.2.2.2.1.own (a := a) (by rw [hp]; show ci < 40; omega)
    have hga := hR.2.2.2.2.2.2.1 a a1
    have he := am_ws_get (g := g) (cA := cA) (M := M) a1 a2
    rw [am_e_obj hp hc20] at he
    simp only [List.map_cons, am_cv, hga]
    refine va_put (D := D) (cl := am_cl) hx hb hts hin (am_ty ci) hty hnm hown hR.1 hR.2.1 hR.2.2.1 hR.2.2.2.1 (a - 20) he hcl k hk (hts _ hw) (fun _ h => h) hfin hdI rfl rfl (by unfold am_fs; rw [List.length_map, List.length_range]; exact hk) hd (fun H1 locs1 hP1 hD1 hS1 => ?_)
    refine hG γ g cA tys H1 locs1 ls (hR.keep (M' := am_setI M a k x) a1 rfl rfl ?_ ?_ ?_ ?_ (am_e_obj (N := N) hp hc20) ?_ ?_ hS1) hl ⟨hc.1, am_tl (am_tl hc.2)⟩ hγ h1 h2 h3 h4 h5 h6
    · intro q hq; funext j; exact if_neg (fun z => hq z.1)
    · exact fun _ _ => rfl
    · exact fun _ _ => rfl
    · exact fun j => hR.2.2.2.2.2.2.2.1.2.2.2.2 a j
    · have e9 : am_fs g (am_setI M a k x) ci N a = (am_fs g M ci N a).set k (Value.int x) := by
        refine am_fs_set ?_ (fun j hj => ?_)
        · rw [hfv]; show Value.int (am_I (am_setI M a k x) a k) = Value.int x; rw [show am_I (am_setI M a k x) a k = x from if_pos ⟨rfl, rfl⟩]
        · have q1 : am_I (am_setI M a k x) a j = am_I M a j := if_neg (fun z => hj z.2)
          unfold am_fv; rw [q1]; rfl
      rw [e9]; exact hP1
    · have e9 : am_fs g (am_setI M a k x) ci N a = (am_fs g M ci N a).set k (Value.int x) := by
        refine am_fs_set ?_ (fun j hj => ?_)
        · rw [hfv]; show Value.int (am_I (am_setI M a k x) a k) = Value.int x; rw [show am_I (am_setI M a k x) a k = x from if_pos ⟨rfl, rfl⟩]
        · have q1 : am_I (am_setI M a k x) a j = am_I M a j := if_neg (fun z => hj z.2)
          unfold am_fv; rw [q1]; rfl
      rw [e9]; exact hD1
  · trivial
theorem ok_putZ {idx ci N k np : Nat} {C : String} {T : u_T} (hd : decode cc pc = .ok (.putfield idx, 3)) (hcl : am_cl[ci]? = some (C, T, N)) (hin : ∀ w ∈ u_ws C T N, w ∈ am_words) (hty : ∀ k, k < N → parseFieldDescriptor (T k).2.2.1 = some (am_ty ci k)) (hnm : ∀ a, a < N → ∀ b, b < N → a ≠ b → (T a).2.1 ≠ (T b).2.1) (hk : k < N) (hc20 : ci < 20) (hw : Cond.fieldLink own idx (T k).1 (T k).2.1 (T k).2.2.1 ∈ am_words) (hfin : (T k).2.2.2 = false) (hdI : parseFieldDescriptor (T k).2.2.1 = some .boolean) (hfv : ∀ g M r, am_fv g M ci r k = .int (am_I M r k)) (hn : np = pc + 3) : am_ok tb cc own mL rt ini pc (o_putZ ci N k np) := by
  intro X f M hF hpc
  obtain ⟨p, l, e, R, s, m, args, below, meth, c, Q, L, xs, D, A, n0, s0, γ0, N', S⟩ := X
  obtain ⟨hx, hb, hml, hown, hts, hlk, hini, hNc, hSc⟩ := hF
  obtain ⟨z, b, pc', l', st⟩ := f
  dsimp only at hpc
  subst hpc
  unfold o_putZ
  dsimp only
  split
  · rename_i x a r
    subst hn
    refine ⟨Nat.le_refl _, Nat.le_refl _, fun hp hle1 hle2 hG γ g cA tys H locs ls hR hl hc hγ h1 h2 h3 h4 h5 h6 => ?_⟩
    obtain ⟨hp, hx01⟩ : am_K M a = (ci, N) ∧ (x = 0 ∨ x = 1) := hp
    obtain ⟨a1, a2⟩ := hR.2.2.2.2.2.2.2.1.own (a := a) (by rw [hp]; show ci < 40; omega)
    have hga := hR.2.2.2.2.2.2.1 a a1
    have he := am_ws_get (g := g) (cA := cA) (M := M) a1 a2
    rw [am_e_obj hp hc20] at he
    simp only [List.map_cons, am_cv, hga]
    refine va_put (D := D) (cl := am_cl) hx hb hts hin (am_ty ci) hty hnm hown hR.1 hR.2.1 hR.2.2.1 hR.2.2.2.1 (a - 20) he hcl k hk (hts _ hw) (fun _ h => h) hfin hdI (by rcases hx01 with z | z <;> rw [z] <;> rfl) (by rcases hx01 with z | z <;> rw [z] <;> rfl) (by unfold am_fs; rw [List.length_map, List.length_range]; exact hk) hd (fun H1 locs1 hP1 hD1 hS1 => ?_)
    refine hG γ g cA tys H1 locs1 ls (hR.keep (M' := am_setI M a k x) a1 rfl rfl ?_ ?_ ?_ ?_ (am_e_obj (N := N) hp hc20) ?_ ?_ hS1) hl ⟨hc.1, am_tl (am_tl hc.2)⟩ hγ h1 h2 h3 h4 h5 h6
    · intro q hq; funext j; exact if_neg (fun z => hq z.1)
    · exact fun _ _ => rfl
    · exact fun _ _ => rfl
    · exact fun j => hR.2.2.2.2.2.2.2.1.2.2.2.2 a j
    · have e9 : am_fs g (am_setI M a k x) ci N a = (am_fs g M ci N a).set k (Value.int x) := by
        refine am_fs_set ?_ (fun j hj => ?_)
        · rw [hfv]; show Value.int (am_I (am_setI M a k x) a k) = Value.int x; rw [show am_I (am_setI M a k x) a k = x from if_pos ⟨rfl, rfl⟩]
        · have q1 : am_I (am_setI M a k x) a j = am_I M a j := if_neg (fun z => hj z.2)
          unfold am_fv; rw [q1]; rfl
      rw [e9]; exact hP1
    · have e9 : am_fs g (am_setI M a k x) ci N a = (am_fs g M ci N a).set k (Value.int x) := by
        refine am_fs_set ?_ (fun j hj => ?_)
        · rw [hfv]; show Value.int (am_I (am_setI M a k x) a k) = Value.int x; rw [show am_I (am_setI M a k x) a k = x from if_pos ⟨rfl, rfl⟩]
        · have q1 : am_I (am_setI M a k x) a j = am_I M a j := if_neg (fun z => hj z.2)
          unfold am_fv; rw [q1]; rfl
      rw [e9]; exact hD1
  · trivial
theorem ok_putJ {idx ci N k np : Nat} {C : String} {T : u_T} (hd : decode cc pc = .ok (.putfield idx, 3)) (hcl : am_cl[ci]? = some (C, T, N)) (hin : ∀ w ∈ u_ws C T N, w ∈ am_words) (hty : ∀ k, k < N → parseFieldDescriptor (T k).2.2.1 = some (am_ty ci k)) (hnm : ∀ a, a < N → ∀ b, b < N → a ≠ b → (T a).2.1 ≠ (T b).2.1) (hk : k < N) (hc20 : ci < 20) (hw : Cond.fieldLink own idx (T k).1 (T k).2.1 (T k).2.2.1 ∈ am_words) (hfin : (T k).2.2.2 = false) (hdI : parseFieldDescriptor (T k).2.2.1 = some .long) (hfv : ∀ g M r, am_fv g M ci r k = .long (am_J M r k)) (hn : np = pc + 3) : am_ok tb cc own mL rt ini pc (o_putJ ci N k np) := by
  intro X f M hF hpc
  obtain ⟨p, l, e, R, s, m, args, below, meth, c, Q, L, xs, D, A, n0, s0, γ0, N', S⟩ := X
  obtain ⟨hx, hb, hml, hown, hts, hlk, hini, hNc, hSc⟩ := hF
  obtain ⟨z, b, pc', l', st⟩ := f
  dsimp only at hpc
  subst hpc
  unfold o_putJ
  dsimp only
  split
  · rename_i x a r
    subst hn
    refine ⟨Nat.le_refl _, Nat.le_refl _, fun hp hle1 hle2 hG γ g cA tys H locs ls hR hl hc hγ h1 h2 h3 h4 h5 h6 => ?_⟩
    have hp : am_K M a = (ci, N) := hp
    obtain ⟨a1, a2⟩ := hR.2.2.2.2.2.2.2.1.own (a := a) (by rw [hp]; show ci < 40; omega)
    have hga := hR.2.2.2.2.2.2.1 a a1
    have he := am_ws_get (g := g) (cA := cA) (M := M) a1 a2
    rw [am_e_obj hp hc20] at he
    simp only [List.map_cons, am_cv, hga]
    refine va_put (D := D) (cl := am_cl) hx hb hts hin (am_ty ci) hty hnm hown hR.1 hR.2.1 hR.2.2.1 hR.2.2.2.1 (a - 20) he hcl k hk (hts _ hw) (fun _ h => h) hfin hdI rfl rfl (by unfold am_fs; rw [List.length_map, List.length_range]; exact hk) hd (fun H1 locs1 hP1 hD1 hS1 => ?_)
    refine hG γ g cA tys H1 locs1 ls (hR.keep (M' := am_setJ M a k x) a1 rfl rfl ?_ ?_ ?_ ?_ (am_e_obj (N := N) hp hc20) ?_ ?_ hS1) hl ⟨hc.1, am_tl (am_tl hc.2)⟩ hγ h1 h2 h3 h4 h5 h6
    · exact fun _ _ => rfl
    · intro q hq; funext j; exact if_neg (fun z => hq z.1)
    · exact fun _ _ => rfl
    · exact fun j => hR.2.2.2.2.2.2.2.1.2.2.2.2 a j
    · have e9 : am_fs g (am_setJ M a k x) ci N a = (am_fs g M ci N a).set k (Value.long x) := by
        refine am_fs_set ?_ (fun j hj => ?_)
        · rw [hfv]; show Value.long (am_J (am_setJ M a k x) a k) = Value.long x; rw [show am_J (am_setJ M a k x) a k = x from if_pos ⟨rfl, rfl⟩]
        · have q1 : am_J (am_setJ M a k x) a j = am_J M a j := if_neg (fun z => hj z.2)
          unfold am_fv; rw [q1]; rfl
      rw [e9]; exact hP1
    · have e9 : am_fs g (am_setJ M a k x) ci N a = (am_fs g M ci N a).set k (Value.long x) := by
        refine am_fs_set ?_ (fun j hj => ?_)
        · rw [hfv]; show Value.long (am_J (am_setJ M a k x) a k) = Value.long x; rw [show am_J (am_setJ M a k x) a k = x from if_pos ⟨rfl, rfl⟩]
        · have q1 : am_J (am_setJ M a k x) a j = am_J M a j := if_neg (fun z => hj z.2)
          unfold am_fv; rw [q1]; rfl
      rw [e9]; exact hD1
  · trivial
theorem ok_putR {idx ci N k np : Nat} {C : String} {T : u_T} (hd : decode cc pc = .ok (.putfield idx, 3)) (hcl : am_cl[ci]? = some (C, T, N)) (hin : ∀ w ∈ u_ws C T N, w ∈ am_words) (hty : ∀ k, k < N → parseFieldDescriptor (T k).2.2.1 = some (am_ty ci k)) (hnm : ∀ a, a < N → ∀ b, b < N → a ≠ b → (T a).2.1 ≠ (T b).2.1) (hk : k < N) (hc20 : ci < 20) (hw : Cond.fieldLink own idx (T k).1 (T k).2.1 (T k).2.2.1 ∈ am_words) (hfin : (T k).2.2.2 = false) {ty : FieldType} (hdI : parseFieldDescriptor (T k).2.2.1 = some ty) (hrt : (∃ n, ty = .object n) ∨ ∃ t, ty = .array t) (hfv : ∀ g M r, am_fv g M ci r k = va_rf (am_opt g (am_R M r k))) (hn : np = pc + 3) : am_ok tb cc own mL rt ini pc (o_putR ci N k np) := by
  intro X f M hF hpc
  obtain ⟨p, l, e, R, s, m, args, below, meth, c, Q, L, xs, D, A, n0, s0, γ0, N', S⟩ := X
  obtain ⟨hx, hb, hml, hown, hts, hlk, hini, hNc, hSc⟩ := hF
  obtain ⟨z, b, pc', l', st⟩ := f
  dsimp only at hpc
  subst hpc
  unfold o_putR
  dsimp only
  split
  · rename_i x a r
    subst hn
    refine ⟨Nat.le_refl _, Nat.le_refl _, fun hp hle1 hle2 hG γ g cA tys H locs ls hR hl hc hγ h1 h2 h3 h4 h5 h6 => ?_⟩
    obtain ⟨hp, hx20⟩ : am_K M a = (ci, N) ∧ (x = 0 ∨ 20 ≤ x) := hp
    have hxn : x < am_n M := (am_hd hc.2).1
    have hvx : γ x = va_rf (am_opt g x) := am_γR hR.2.2.2.2.2.1 hR.2.2.2.2.2.2.1 (by rcases hx20 with z | z; exact Or.inl z; exact Or.inr ⟨z, hxn⟩)
    have hvr : γ x = .null ∨ ∃ q, γ x = .ref q := am_γrf hR.2.2.2.2.2.1 hR.2.2.2.2.2.2.1 x
    obtain ⟨a1, a2⟩ := hR.2.2.2.2.2.2.2.1.own (a := a) (by rw [hp]; show ci < 40; omega)
    have hga := hR.2.2.2.2.2.2.1 a a1
    have he := am_ws_get (g := g) (cA := cA) (M := M) a1 a2
    rw [am_e_obj hp hc20] at he
    simp only [List.map_cons, am_cv, hga]
    refine va_put (D := D) (cl := am_cl) hx hb hts hin (am_ty ci) hty hnm hown hR.1 hR.2.1 hR.2.2.1 hR.2.2.2.1 (a - 20) he hcl k hk (hts _ hw) (fun _ h => h) hfin hdI (by rcases hrt with ⟨n, rfl⟩ | ⟨t, rfl⟩ <;> rcases hvr with z | ⟨q, z⟩ <;> rw [z] <;> rfl) (by rcases hrt with ⟨n, rfl⟩ | ⟨t, rfl⟩ <;> rcases hvr with z | ⟨q, z⟩ <;> rw [z] <;> rfl) (by unfold am_fs; rw [List.length_map, List.length_range]; exact hk) hd (fun H1 locs1 hP1 hD1 hS1 => ?_)
    refine hG γ g cA tys H1 locs1 ls (hR.keep (M' := am_setR M a k x) a1 rfl rfl ?_ ?_ ?_ ?_ (am_e_obj (N := N) hp hc20) ?_ ?_ hS1) hl ⟨hc.1, am_tl (am_tl hc.2)⟩ hγ h1 h2 h3 h4 h5 h6
    · exact fun _ _ => rfl
    · exact fun _ _ => rfl
    · intro q hq; funext j; exact if_neg (fun z => hq z.1)
    · intro j; show (if a = a ∧ j = k then x else am_R M a j) = 0 ∨ _; by_cases hj : j = k
      · show _ ∨ (20 ≤ (if a = a ∧ j = k then x else am_R M a j) ∧ (if a = a ∧ j = k then x else am_R M a j) < am_n M); rw [if_pos ⟨rfl, hj⟩]; rcases hx20 with z | z; exact Or.inl z; exact Or.inr ⟨z, hxn⟩
      · show _ ∨ (20 ≤ (if a = a ∧ j = k then x else am_R M a j) ∧ (if a = a ∧ j = k then x else am_R M a j) < am_n M); rw [if_neg (fun z => hj z.2)]; exact hR.2.2.2.2.2.2.2.1.2.2.2.2 a j
    · have e9 : am_fs g (am_setR M a k x) ci N a = (am_fs g M ci N a).set k (γ x) := by
        refine am_fs_set ?_ (fun j hj => ?_)
        · rw [hfv]; show va_rf (am_opt g (am_R (am_setR M a k x) a k)) = γ x; rw [show am_R (am_setR M a k x) a k = x from if_pos ⟨rfl, rfl⟩]; exact hvx.symm
        · have q1 : am_R (am_setR M a k x) a j = am_R M a j := if_neg (fun z => hj z.2)
          unfold am_fv; rw [q1]; rfl
      rw [e9]; exact hP1
    · have e9 : am_fs g (am_setR M a k x) ci N a = (am_fs g M ci N a).set k (γ x) := by
        refine am_fs_set ?_ (fun j hj => ?_)
        · rw [hfv]; show va_rf (am_opt g (am_R (am_setR M a k x) a k)) = γ x; rw [show am_R (am_setR M a k x) a k = x from if_pos ⟨rfl, rfl⟩]; exact hvx.symm
        · have q1 : am_R (am_setR M a k x) a j = am_R M a j := if_neg (fun z => hj z.2)
          unfold am_fv; rw [q1]; rfl
      rw [e9]; exact hD1
  · trivial
theorem ok_putIN {idx ci N k np : Nat} {C : String} {T : u_T} (hd : decode cc pc = .ok (.putfield idx, 3)) (hcl : am_cl[ci]? = some (C, T, N)) (hin : ∀ w ∈ u_ws C T N, w ∈ am_words) (hty : ∀ k, k < N → parseFieldDescriptor (T k).2.2.1 = some (am_ty ci k)) (hnm : ∀ a, a < N → ∀ b, b < N → a ≠ b → (T a).2.1 ≠ (T b).2.1) (hk : k < N) (hc20 : ci < 20) {host : String} (hw : Cond.fieldLinkNest own idx (T k).1 (T k).2.1 (T k).2.2.1 host ∈ am_nw) (hfin : (T k).2.2.2 = false) (hdI : parseFieldDescriptor (T k).2.2.1 = some .int) (hfv : ∀ g M r, am_fv g M ci r k = .int (am_I M r k)) (hn : np = pc + 3) : am_ok tb cc own mL rt ini pc (o_putI ci N k np) := by
  intro X f M hF hpc
  obtain ⟨p, l, e, R, s, m, args, below, meth, c, Q, L, xs, D, A, n0, s0, γ0, N', S⟩ := X
  obtain ⟨hx, hb, hml, hown, hts, hlk, hini, hNc, hSc⟩ := hF
  obtain ⟨z, b, pc', l', st⟩ := f
  dsimp only at hpc
  subst hpc
  unfold o_putI
  dsimp only
  split
  · rename_i x a r
    subst hn
    refine ⟨Nat.le_refl _, Nat.le_refl _, fun hp hle1 hle2 hG γ g cA tys H locs ls hR hl hc hγ h1 h2 h3 h4 h5 h6 => ?_⟩
    have hp : am_K M a = (ci, N) := hp
    obtain ⟨a1, a2⟩ := hR.2.2.2.2.2.2.2.1.own (a := a) (by rw [hp]; show ci < 40; omega)
    have hga := hR.2.2.2.2.2.2.1 a a1
    have he := am_ws_get (g := g) (cA := cA) (M := M) a1 a2
    rw [am_e_obj hp hc20] at he
    simp only [List.map_cons, am_cv, hga]
    refine va_putN (D := D) (cl := am_cl) hx hb hts hin (am_ty ci) hty hnm hown hR.1 hR.2.1 hR.2.2.1 hR.2.2.2.1 (a - 20) he hcl k hk (va_Nw.use rfl (hR.2.2.2.2.2.1.nw hw)) (fun _ h => h) hfin hdI rfl rfl (by unfold am_fs; rw [List.length_map, List.length_range]; exact hk) hd (fun H1 locs1 hP1 hD1 hS1 => ?_)
    refine hG γ g cA tys H1 locs1 ls (hR.keep (M' := am_setI M a k x) a1 rfl rfl ?_ ?_ ?_ ?_ (am_e_obj (N := N) hp hc20) ?_ ?_ hS1) hl ⟨hc.1, am_tl (am_tl hc.2)⟩ hγ h1 h2 h3 h4 h5 h6
    · intro q hq; funext j; exact if_neg (fun z => hq z.1)
    · exact fun _ _ => rfl
    · exact fun _ _ => rfl
    · exact fun j => hR.2.2.2.2.2.2.2.1.2.2.2.2 a j
    · have e9 : am_fs g (am_setI M a k x) ci N a = (am_fs g M ci N a).set k (Value.int x) := by
        refine am_fs_set ?_ (fun j hj => ?_)
        · rw [hfv]; show Value.int (am_I (am_setI M a k x) a k) = Value.int x; rw [show am_I (am_setI M a k x) a k = x from if_pos ⟨rfl, rfl⟩]
        · have q1 : am_I (am_setI M a k x) a j = am_I M a j := if_neg (fun z => hj z.2)
          unfold am_fv; rw [q1]; rfl
      rw [e9]; exact hP1
    · have e9 : am_fs g (am_setI M a k x) ci N a = (am_fs g M ci N a).set k (Value.int x) := by
        refine am_fs_set ?_ (fun j hj => ?_)
        · rw [hfv]; show Value.int (am_I (am_setI M a k x) a k) = Value.int x; rw [show am_I (am_setI M a k x) a k = x from if_pos ⟨rfl, rfl⟩]
        · have q1 : am_I (am_setI M a k x) a j = am_I M a j := if_neg (fun z => hj z.2)
          unfold am_fv; rw [q1]; rfl
      rw [e9]; exact hD1
  · trivial
theorem ok_putZN {idx ci N k np : Nat} {C : String} {T : u_T} (hd : decode cc pc = .ok (.putfield idx, 3)) (hcl : am_cl[ci]? = some (C, T, N)) (hin : ∀ w ∈ u_ws C T N, w ∈ am_words) (hty : ∀ k, k < N → parseFieldDescriptor (T k).2.2.1 = some (am_ty ci k)) (hnm : ∀ a, a < N → ∀ b, b < N → a ≠ b → (T a).2.1 ≠ (T b).2.1) (hk : k < N) (hc20 : ci < 20) {host : String} (hw : Cond.fieldLinkNest own idx (T k).1 (T k).2.1 (T k).2.2.1 host ∈ am_nw) (hfin : (T k).2.2.2 = false) (hdI : parseFieldDescriptor (T k).2.2.1 = some .boolean) (hfv : ∀ g M r, am_fv g M ci r k = .int (am_I M r k)) (hn : np = pc + 3) : am_ok tb cc own mL rt ini pc (o_putZ ci N k np) := by
  intro X f M hF hpc
  obtain ⟨p, l, e, R, s, m, args, below, meth, c, Q, L, xs, D, A, n0, s0, γ0, N', S⟩ := X
  obtain ⟨hx, hb, hml, hown, hts, hlk, hini, hNc, hSc⟩ := hF
  obtain ⟨z, b, pc', l', st⟩ := f
  dsimp only at hpc
  subst hpc
  unfold o_putZ
  dsimp only
  split
  · rename_i x a r
    subst hn
    refine ⟨Nat.le_refl _, Nat.le_refl _, fun hp hle1 hle2 hG γ g cA tys H locs ls hR hl hc hγ h1 h2 h3 h4 h5 h6 => ?_⟩
    obtain ⟨hp, hx01⟩ : am_K M a = (ci, N) ∧ (x = 0 ∨ x = 1) := hp
    obtain ⟨a1, a2⟩ := hR.2.2.2.2.2.2.2.1.own (a := a) (by rw [hp]; show ci < 40; omega)
    have hga := hR.2.2.2.2.2.2.1 a a1
    have he := am_ws_get (g := g) (cA := cA) (M := M) a1 a2
    rw [am_e_obj hp hc20] at he
    simp only [List.map_cons, am_cv, hga]
    refine va_putN (D := D) (cl := am_cl) hx hb hts hin (am_ty ci) hty hnm hown hR.1 hR.2.1 hR.2.2.1 hR.2.2.2.1 (a - 20) he hcl k hk (va_Nw.use rfl (hR.2.2.2.2.2.1.nw hw)) (fun _ h => h) hfin hdI (by rcases hx01 with z | z <;> rw [z] <;> rfl) (by rcases hx01 with z | z <;> rw [z] <;> rfl) (by unfold am_fs; rw [List.length_map, List.length_range]; exact hk) hd (fun H1 locs1 hP1 hD1 hS1 => ?_)
    refine hG γ g cA tys H1 locs1 ls (hR.keep (M' := am_setI M a k x) a1 rfl rfl ?_ ?_ ?_ ?_ (am_e_obj (N := N) hp hc20) ?_ ?_ hS1) hl ⟨hc.1, am_tl (am_tl hc.2)⟩ hγ h1 h2 h3 h4 h5 h6
    · intro q hq; funext j; exact if_neg (fun z => hq z.1)
    · exact fun _ _ => rfl
    · exact fun _ _ => rfl
    · exact fun j => hR.2.2.2.2.2.2.2.1.2.2.2.2 a j
    · have e9 : am_fs g (am_setI M a k x) ci N a = (am_fs g M ci N a).set k (Value.int x) := by
        refine am_fs_set ?_ (fun j hj => ?_)
        · rw [hfv]; show Value.int (am_I (am_setI M a k x) a k) = Value.int x; rw [show am_I (am_setI M a k x) a k = x from if_pos ⟨rfl, rfl⟩]
        · have q1 : am_I (am_setI M a k x) a j = am_I M a j := if_neg (fun z => hj z.2)
          unfold am_fv; rw [q1]; rfl
      rw [e9]; exact hP1
    · have e9 : am_fs g (am_setI M a k x) ci N a = (am_fs g M ci N a).set k (Value.int x) := by
        refine am_fs_set ?_ (fun j hj => ?_)
        · rw [hfv]; show Value.int (am_I (am_setI M a k x) a k) = Value.int x; rw [show am_I (am_setI M a k x) a k = x from if_pos ⟨rfl, rfl⟩]
        · have q1 : am_I (am_setI M a k x) a j = am_I M a j := if_neg (fun z => hj z.2)
          unfold am_fv; rw [q1]; rfl
      rw [e9]; exact hD1
  · trivial
theorem ok_putJN {idx ci N k np : Nat} {C : String} {T : u_T} (hd : decode cc pc = .ok (.putfield idx, 3)) (hcl : am_cl[ci]? = some (C, T, N)) (hin : ∀ w ∈ u_ws C T N, w ∈ am_words) (hty : ∀ k, k < N → parseFieldDescriptor (T k).2.2.1 = some (am_ty ci k)) (hnm : ∀ a, a < N → ∀ b, b < N → a ≠ b → (T a).2.1 ≠ (T b).2.1) (hk : k < N) (hc20 : ci < 20) {host : String} (hw : Cond.fieldLinkNest own idx (T k).1 (T k).2.1 (T k).2.2.1 host ∈ am_nw) (hfin : (T k).2.2.2 = false) (hdI : parseFieldDescriptor (T k).2.2.1 = some .long) (hfv : ∀ g M r, am_fv g M ci r k = .long (am_J M r k)) (hn : np = pc + 3) : am_ok tb cc own mL rt ini pc (o_putJ ci N k np) := by
  intro X f M hF hpc
  obtain ⟨p, l, e, R, s, m, args, below, meth, c, Q, L, xs, D, A, n0, s0, γ0, N', S⟩ := X
  obtain ⟨hx, hb, hml, hown, hts, hlk, hini, hNc, hSc⟩ := hF
  obtain ⟨z, b, pc', l', st⟩ := f
  dsimp only at hpc
  subst hpc
  unfold o_putJ
  dsimp only
  split
  · rename_i x a r
    subst hn
    refine ⟨Nat.le_refl _, Nat.le_refl _, fun hp hle1 hle2 hG γ g cA tys H locs ls hR hl hc hγ h1 h2 h3 h4 h5 h6 => ?_⟩
    have hp : am_K M a = (ci, N) := hp
    obtain ⟨a1, a2⟩ := hR.2.2.2.2.2.2.2.1.own (a := a) (by rw [hp]; show ci < 40; omega)
    have hga := hR.2.2.2.2.2.2.1 a a1
    have he := am_ws_get (g := g) (cA := cA) (M := M) a1 a2
    rw [am_e_obj hp hc20] at he
    simp only [List.map_cons, am_cv, hga]
    refine va_putN (D := D) (cl := am_cl) hx hb hts hin (am_ty ci) hty hnm hown hR.1 hR.2.1 hR.2.2.1 hR.2.2.2.1 (a - 20) he hcl k hk (va_Nw.use rfl (hR.2.2.2.2.2.1.nw hw)) (fun _ h => h) hfin hdI rfl rfl (by unfold am_fs; rw [List.length_map, List.length_range]; exact hk) hd (fun H1 locs1 hP1 hD1 hS1 => ?_)
    refine hG γ g cA tys H1 locs1 ls (hR.keep (M' := am_setJ M a k x) a1 rfl rfl ?_ ?_ ?_ ?_ (am_e_obj (N := N) hp hc20) ?_ ?_ hS1) hl ⟨hc.1, am_tl (am_tl hc.2)⟩ hγ h1 h2 h3 h4 h5 h6
    · exact fun _ _ => rfl
    · intro q hq; funext j; exact if_neg (fun z => hq z.1)
    · exact fun _ _ => rfl
    · exact fun j => hR.2.2.2.2.2.2.2.1.2.2.2.2 a j
    · have e9 : am_fs g (am_setJ M a k x) ci N a = (am_fs g M ci N a).set k (Value.long x) := by
        refine am_fs_set ?_ (fun j hj => ?_)
        · rw [hfv]; show Value.long (am_J (am_setJ M a k x) a k) = Value.long x; rw [show am_J (am_setJ M a k x) a k = x from if_pos ⟨rfl, rfl⟩]
        · have q1 : am_J (am_setJ M a k x) a j = am_J M a j := if_neg (fun z => hj z.2)
          unfold am_fv; rw [q1]; rfl
      rw [e9]; exact hP1
    · have e9 : am_fs g (am_setJ M a k x) ci N a = (am_fs g M ci N a).set k (Value.long x) := by
        refine am_fs_set ?_ (fun j hj => ?_)
        · rw [hfv]; show Value.long (am_J (am_setJ M a k x) a k) = Value.long x; rw [show am_J (am_setJ M a k x) a k = x from if_pos ⟨rfl, rfl⟩]
        · have q1 : am_J (am_setJ M a k x) a j = am_J M a j := if_neg (fun z => hj z.2)
          unfold am_fv; rw [q1]; rfl
      rw [e9]; exact hD1
  · trivial
theorem ok_putRN {idx ci N k np : Nat} {C : String} {T : u_T} (hd : decode cc pc = .ok (.putfield idx, 3)) (hcl : am_cl[ci]? = some (C, T, N)) (hin : ∀ w ∈ u_ws C T N, w ∈ am_words) (hty : ∀ k, k < N → parseFieldDescriptor (T k).2.2.1 = some (am_ty ci k)) (hnm : ∀ a, a < N → ∀ b, b < N → a ≠ b → (T a).2.1 ≠ (T b).2.1) (hk : k < N) (hc20 : ci < 20) {host : String} (hw : Cond.fieldLinkNest own idx (T k).1 (T k).2.1 (T k).2.2.1 host ∈ am_nw) (hfin : (T k).2.2.2 = false) {ty : FieldType} (hdI : parseFieldDescriptor (T k).2.2.1 = some ty) (hrt : (∃ n, ty = .object n) ∨ ∃ t, ty = .array t) (hfv : ∀ g M r, am_fv g M ci r k = va_rf (am_opt g (am_R M r k))) (hn : np = pc + 3) : am_ok tb cc own mL rt ini pc (o_putR ci N k np) := by
  intro X f M hF hpc
  obtain ⟨p, l, e, R, s, m, args, below, meth, c, Q, L, xs, D, A, n0, s0, γ0, N', S⟩ := X
  obtain ⟨hx, hb, hml, hown, hts, hlk, hini, hNc, hSc⟩ := hF
  obtain ⟨z, b, pc', l', st⟩ := f
  dsimp only at hpc
  subst hpc
  unfold o_putR
  dsimp only
  split
  · rename_i x a r
    subst hn
    refine ⟨Nat.le_refl _, Nat.le_refl _, fun hp hle1 hle2 hG γ g cA tys H locs ls hR hl hc hγ h1 h2 h3 h4 h5 h6 => ?_⟩
    obtain ⟨hp, hx20⟩ : am_K M a = (ci, N) ∧ (x = 0 ∨ 20 ≤ x) := hp
    have hxn : x < am_n M := (am_hd hc.2).1
    have hvx : γ x = va_rf (am_opt g x) := am_γR hR.2.2.2.2.2.1 hR.2.2.2.2.2.2.1 (by rcases hx20 with z | z; exact Or.inl z; exact Or.inr ⟨z, hxn⟩)
    have hvr : γ x = .null ∨ ∃ q, γ x = .ref q := am_γrf hR.2.2.2.2.2.1 hR.2.2.2.2.2.2.1 x
    obtain ⟨a1, a2⟩ := hR.2.2.2.2.2.2.2.1.own (a := a) (by rw [hp]; show ci < 40; omega)
    have hga := hR.2.2.2.2.2.2.1 a a1
    have he := am_ws_get (g := g) (cA := cA) (M := M) a1 a2
    rw [am_e_obj hp hc20] at he
    simp only [List.map_cons, am_cv, hga]
    refine va_putN (D := D) (cl := am_cl) hx hb hts hin (am_ty ci) hty hnm hown hR.1 hR.2.1 hR.2.2.1 hR.2.2.2.1 (a - 20) he hcl k hk (va_Nw.use rfl (hR.2.2.2.2.2.1.nw hw)) (fun _ h => h) hfin hdI (by rcases hrt with ⟨n, rfl⟩ | ⟨t, rfl⟩ <;> rcases hvr with z | ⟨q, z⟩ <;> rw [z] <;> rfl) (by rcases hrt with ⟨n, rfl⟩ | ⟨t, rfl⟩ <;> rcases hvr with z | ⟨q, z⟩ <;> rw [z] <;> rfl) (by unfold am_fs; rw [List.length_map, List.length_range]; exact hk) hd (fun H1 locs1 hP1 hD1 hS1 => ?_)
    refine hG γ g cA tys H1 locs1 ls (hR.keep (M' := am_setR M a k x) a1 rfl rfl ?_ ?_ ?_ ?_ (am_e_obj (N := N) hp hc20) ?_ ?_ hS1) hl ⟨hc.1, am_tl (am_tl hc.2)⟩ hγ h1 h2 h3 h4 h5 h6
    · exact fun _ _ => rfl
    · exact fun _ _ => rfl
    · intro q hq; funext j; exact if_neg (fun z => hq z.1)
    · intro j; show (if a = a ∧ j = k then x else am_R M a j) = 0 ∨ _; by_cases hj : j = k
      · show _ ∨ (20 ≤ (if a = a ∧ j = k then x else am_R M a j) ∧ (if a = a ∧ j = k then x else am_R M a j) < am_n M); rw [if_pos ⟨rfl, hj⟩]; rcases hx20 with z | z; exact Or.inl z; exact Or.inr ⟨z, hxn⟩
      · show _ ∨ (20 ≤ (if a = a ∧ j = k then x else am_R M a j) ∧ (if a = a ∧ j = k then x else am_R M a j) < am_n M); rw [if_neg (fun z => hj z.2)]; exact hR.2.2.2.2.2.2.2.1.2.2.2.2 a j
    · have e9 : am_fs g (am_setR M a k x) ci N a = (am_fs g M ci N a).set k (γ x) := by
        refine am_fs_set ?_ (fun j hj => ?_)
        · rw [hfv]; show va_rf (am_opt g (am_R (am_setR M a k x) a k)) = γ x; rw [show am_R (am_setR M a k x) a k = x from if_pos ⟨rfl, rfl⟩]; exact hvx.symm
        · have q1 : am_R (am_setR M a k x) a j = am_R M a j := if_neg (fun z => hj z.2)
          unfold am_fv; rw [q1]; rfl
      rw [e9]; exact hP1
    · have e9 : am_fs g (am_setR M a k x) ci N a = (am_fs g M ci N a).set k (γ x) := by
        refine am_fs_set ?_ (fun j hj => ?_)
        · rw [hfv]; show va_rf (am_opt g (am_R (am_setR M a k x) a k)) = γ x; rw [show am_R (am_setR M a k x) a k = x from if_pos ⟨rfl, rfl⟩]; exact hvx.symm
        · have q1 : am_R (am_setR M a k x) a j = am_R M a j := if_neg (fun z => hj z.2)
          unfold am_fv; rw [q1]; rfl
      rw [e9]; exact hD1
  · trivial
theorem ok_putIF {idx ci N k np : Nat} {C : String} {T : u_T} (hd : decode cc pc = .ok (.putfield idx, 3)) (hcl : am_cl[ci]? = some (C, T, N)) (hin : ∀ w ∈ u_ws C T N, w ∈ am_words) (hty : ∀ k, k < N → parseFieldDescriptor (T k).2.2.1 = some (am_ty ci k)) (hnm : ∀ a, a < N → ∀ b, b < N → a ≠ b → (T a).2.1 ≠ (T b).2.1) (hk : k < N) (hc20 : ci < 20) (hw : Cond.fieldLink own idx (T k).1 (T k).2.1 (T k).2.2.1 ∈ am_words) (hfin : (T k).2.2.2 = true) (hin2 : ini = true) (hdecl : (T k).1 = own) (hdI : parseFieldDescriptor (T k).2.2.1 = some .int) (hfv : ∀ g M r, am_fv g M ci r k = .int (am_I M r k)) (hn : np = pc + 3) : am_ok tb cc own mL rt ini pc (o_putI ci N k np) := by
  intro X f M hF hpc
  obtain ⟨p, l, e, R, s, m, args, below, meth, c, Q, L, xs, D, A, n0, s0, γ0, N', S⟩ := X
  obtain ⟨hx, hb, hml, hown, hts, hlk, hini, hNc, hSc⟩ := hF
  obtain ⟨z, b, pc', l', st⟩ := f
  dsimp only at hpc
  subst hpc
  unfold o_putI
  dsimp only
  split
  · rename_i x a r
    subst hn
    refine ⟨Nat.le_refl _, Nat.le_refl _, fun hp hle1 hle2 hG γ g cA tys H locs ls hR hl hc hγ h1 h2 h3 h4 h5 h6 => ?_⟩
    have hp : am_K M a = (ci, N) := hp
    obtain ⟨a1, a2⟩ := hR.2.2.2.2.2.2.2.1.own (a := a) (by rw [hp]; show ci < 40; omega)
    have hga := hR.2.2.2.2.2.2.1 a a1
    have he := am_ws_get (g := g) (cA := cA) (M := M) a1 a2
    rw [am_e_obj hp hc20] at he
    simp only [List.map_cons, am_cv, hga]
    refine va_putF (D := D) (cl := am_cl) hx hb hts hin (am_ty ci) hty hnm hown hR.1 hR.2.1 hR.2.2.1 hR.2.2.2.1 (a - 20) he hcl k hk (hts _ hw) (fun _ h => h) hfin (hini hin2) hdecl hdI rfl rfl (by unfold am_fs; rw [List.length_map, List.length_range]; exact hk) hd (fun H1 locs1 hP1 hD1 hS1 => ?_)
    refine hG γ g cA tys H1 locs1 ls (hR.keep (M' := am_setI M a k x) a1 rfl rfl ?_ ?_ ?_ ?_ (am_e_obj (N := N) hp hc20) ?_ ?_ hS1) hl ⟨hc.1, am_tl (am_tl hc.2)⟩ hγ h1 h2 h3 h4 h5 h6
    · intro q hq; funext j; exact if_neg (fun z => hq z.1)
    · exact fun _ _ => rfl
    · exact fun _ _ => rfl
    · exact fun j => hR.2.2.2.2.2.2.2.1.2.2.2.2 a j
    · have e9 : am_fs g (am_setI M a k x) ci N a = (am_fs g M ci N a).set k (Value.int x) := by
        refine am_fs_set ?_ (fun j hj => ?_)
        · rw [hfv]; show Value.int (am_I (am_setI M a k x) a k) = Value.int x; rw [show am_I (am_setI M a k x) a k = x from if_pos ⟨rfl, rfl⟩]
        · have q1 : am_I (am_setI M a k x) a j = am_I M a j := if_neg (fun z => hj z.2)
          unfold am_fv; rw [q1]; rfl
      rw [e9]; exact hP1
    · have e9 : am_fs g (am_setI M a k x) ci N a = (am_fs g M ci N a).set k (Value.int x) := by
        refine am_fs_set ?_ (fun j hj => ?_)
        · rw [hfv]; show Value.int (am_I (am_setI M a k x) a k) = Value.int x; rw [show am_I (am_setI M a k x) a k = x from if_pos ⟨rfl, rfl⟩]
        · have q1 : am_I (am_setI M a k x) a j = am_I M a j := if_neg (fun z => hj z.2)
          unfold am_fv; rw [q1]; rfl
      rw [e9]; exact hD1
  · trivial
theorem ok_putZF {idx ci N k np : Nat} {C : String} {T : u_T} (hd : decode cc pc = .ok (.putfield idx, 3)) (hcl : am_cl[ci]? = some (C, T, N)) (hin : ∀ w ∈ u_ws C T N, w ∈ am_words) (hty : ∀ k, k < N → parseFieldDescriptor (T k).2.2.1 = some (am_ty ci k)) (hnm : ∀ a, a < N → ∀ b, b < N → a ≠ b → (T a).2.1 ≠ (T b).2.1) (hk : k < N) (hc20 : ci < 20) (hw : Cond.fieldLink own idx (T k).1 (T k).2.1 (T k).2.2.1 ∈ am_words) (hfin : (T k).2.2.2 = true) (hin2 : ini = true) (hdecl : (T k).1 = own) (hdI : parseFieldDescriptor (T k).2.2.1 = some .boolean) (hfv : ∀ g M r, am_fv g M ci r k = .int (am_I M r k)) (hn : np = pc + 3) : am_ok tb cc own mL rt ini pc (o_putZ ci N k np) := by
  intro X f M hF hpc
  obtain ⟨p, l, e, R, s, m, args, below, meth, c, Q, L, xs, D, A, n0, s0, γ0, N', S⟩ := X
  obtain ⟨hx, hb, hml, hown, hts, hlk, hini, hNc, hSc⟩ := hF
  obtain ⟨z, b, pc', l', st⟩ := f
  dsimp only at hpc
  subst hpc
  unfold o_putZ
  dsimp only
  split
  · rename_i x a r
    subst hn
    refine ⟨Nat.le_refl _, Nat.le_refl _, fun hp hle1 hle2 hG γ g cA tys H locs ls hR hl hc hγ h1 h2 h3 h4 h5 h6 => ?_⟩
    obtain ⟨hp, hx01⟩ : am_K M a = (ci, N) ∧ (x = 0 ∨ x = 1) := hp
    obtain ⟨a1, a2⟩ := hR.2.2.2.2.2.2.2.1.own (a := a) (by rw [hp]; show ci < 40; omega)
    have hga := hR.2.2.2.2.2.2.1 a a1
    have he := am_ws_get (g := g) (cA := cA) (M := M) a1 a2
    rw [am_e_obj hp hc20] at he
    simp only [List.map_cons, am_cv, hga]
    refine va_putF (D := D) (cl := am_cl) hx hb hts hin (am_ty ci) hty hnm hown hR.1 hR.2.1 hR.2.2.1 hR.2.2.2.1 (a - 20) he hcl k hk (hts _ hw) (fun _ h => h) hfin (hini hin2) hdecl hdI (by rcases hx01 with z | z <;> rw [z] <;> rfl) (by rcases hx01 with z | z <;> rw [z] <;> rfl) (by unfold am_fs; rw [List.length_map, List.length_range]; exact hk) hd (fun H1 locs1 hP1 hD1 hS1 => ?_)
    refine hG γ g cA tys H1 locs1 ls (hR.keep (M' := am_setI M a k x) a1 rfl rfl ?_ ?_ ?_ ?_ (am_e_obj (N := N) hp hc20) ?_ ?_ hS1) hl ⟨hc.1, am_tl (am_tl hc.2)⟩ hγ h1 h2 h3 h4 h5 h6
    · intro q hq; funext j; exact if_neg (fun z => hq z.1)
    · exact fun _ _ => rfl
    · exact fun _ _ => rfl
    · exact fun j => hR.2.2.2.2.2.2.2.1.2.2.2.2 a j
    · have e9 : am_fs g (am_setI M a k x) ci N a = (am_fs g M ci N a).set k (Value.int x) := by
        refine am_fs_set ?_ (fun j hj => ?_)
        · rw [hfv]; show Value.int (am_I (am_setI M a k x) a k) = Value.int x; rw [show am_I (am_setI M a k x) a k = x from if_pos ⟨rfl, rfl⟩]
        · have q1 : am_I (am_setI M a k x) a j = am_I M a j := if_neg (fun z => hj z.2)
          unfold am_fv; rw [q1]; rfl
      rw [e9]; exact hP1
    · have e9 : am_fs g (am_setI M a k x) ci N a = (am_fs g M ci N a).set k (Value.int x) := by
        refine am_fs_set ?_ (fun j hj => ?_)
        · rw [hfv]; show Value.int (am_I (am_setI M a k x) a k) = Value.int x; rw [show am_I (am_setI M a k x) a k = x from if_pos ⟨rfl, rfl⟩]
        · have q1 : am_I (am_setI M a k x) a j = am_I M a j := if_neg (fun z => hj z.2)
          unfold am_fv; rw [q1]; rfl
      rw [e9]; exact hD1
  · trivial
theorem ok_putJF {idx ci N k np : Nat} {C : String} {T : u_T} (hd : decode cc pc = .ok (.putfield idx, 3)) (hcl : am_cl[ci]? = some (C, T, N)) (hin : ∀ w ∈ u_ws C T N, w ∈ am_words) (hty : ∀ k, k < N → parseFieldDescriptor (T k).2.2.1 = some (am_ty ci k)) (hnm : ∀ a, a < N → ∀ b, b < N → a ≠ b → (T a).2.1 ≠ (T b).2.1) (hk : k < N) (hc20 : ci < 20) (hw : Cond.fieldLink own idx (T k).1 (T k).2.1 (T k).2.2.1 ∈ am_words) (hfin : (T k).2.2.2 = true) (hin2 : ini = true) (hdecl : (T k).1 = own) (hdI : parseFieldDescriptor (T k).2.2.1 = some .long) (hfv : ∀ g M r, am_fv g M ci r k = .long (am_J M r k)) (hn : np = pc + 3) : am_ok tb cc own mL rt ini pc (o_putJ ci N k np) := by
  intro X f M hF hpc
  obtain ⟨p, l, e, R, s, m, args, below, meth, c, Q, L, xs, D, A, n0, s0, γ0, N', S⟩ := X
  obtain ⟨hx, hb, hml, hown, hts, hlk, hini, hNc, hSc⟩ := hF
  obtain ⟨z, b, pc', l', st⟩ := f
  dsimp only at hpc
  subst hpc
  unfold o_putJ
  dsimp only
  split
  · rename_i x a r
    subst hn
    refine ⟨Nat.le_refl _, Nat.le_refl _, fun hp hle1 hle2 hG γ g cA tys H locs ls hR hl hc hγ h1 h2 h3 h4 h5 h6 => ?_⟩
    have hp : am_K M a = (ci, N) := hp
    obtain ⟨a1, a2⟩ := hR.2.2.2.2.2.2.2.1.own (a := a) (by rw [hp]; show ci < 40; omega)
    have hga := hR.2.2.2.2.2.2.1 a a1
    have he := am_ws_get (g := g) (cA := cA) (M := M) a1 a2
    rw [am_e_obj hp hc20] at he
    simp only [List.map_cons, am_cv, hga]
    refine va_putF (D := D) (cl := am_cl) hx hb hts hin (am_ty ci) hty hnm hown hR.1 hR.2.1 hR.2.2.1 hR.2.2.2.1 (a - 20) he hcl k hk (hts _ hw) (fun _ h => h) hfin (hini hin2) hdecl hdI rfl rfl (by unfold am_fs; rw [List.length_map, List.length_range]; exact hk) hd (fun H1 locs1 hP1 hD1 hS1 => ?_)
    refine hG γ g cA tys H1 locs1 ls (hR.keep (M' := am_setJ M a k x) a1 rfl rfl ?_ ?_ ?_ ?_ (am_e_obj (N := N) hp hc20) ?_ ?_ hS1) hl ⟨hc.1, am_tl (am_tl hc.2)⟩ hγ h1 h2 h3 h4 h5 h6
    · exact fun _ _ => rfl
    · intro q hq; funext j; exact if_neg (fun z => hq z.1)
    · exact fun _ _ => rfl
    · exact fun j => hR.2.2.2.2.2.2.2.1.2.2.2.2 a j
    · have e9 : am_fs g (am_setJ M a k x) ci N a = (am_fs g M ci N a).set k (Value.long x) := by
        refine am_fs_set ?_ (fun j hj => ?_)
        · rw [hfv]; show Value.long (am_J (am_setJ M a k x) a k) = Value.long x; rw [show am_J (am_setJ M a k x) a k = x from if_pos ⟨rfl, rfl⟩]
        · have q1 : am_J (am_setJ M a k x) a j = am_J M a j := if_neg (fun z => hj z.2)
          unfold am_fv; rw [q1]; rfl
      rw [e9]; exact hP1
    · have e9 : am_fs g (am_setJ M a k x) ci N a = (am_fs g M ci N a).set k (Value.long x) := by
        refine am_fs_set ?_ (fun j hj => ?_)
        · rw [hfv]; show Value.long (am_J (am_setJ M a k x) a k) = Value.long x; rw [show am_J (am_setJ M a k x) a k = x from if_pos ⟨rfl, rfl⟩]
        · have q1 : am_J (am_setJ M a k x) a j = am_J M a j := if_neg (fun z => hj z.2)
          unfold am_fv; rw [q1]; rfl
      rw [e9]; exact hD1
  · trivial
theorem ok_putRF {idx ci N k np : Nat} {C : String} {T : u_T} (hd : decode cc pc = .ok (.putfield idx, 3)) (hcl : am_cl[ci]? = some (C, T, N)) (hin : ∀ w ∈ u_ws C T N, w ∈ am_words) (hty : ∀ k, k < N → parseFieldDescriptor (T k).2.2.1 = some (am_ty ci k)) (hnm : ∀ a, a < N → ∀ b, b < N → a ≠ b → (T a).2.1 ≠ (T b).2.1) (hk : k < N) (hc20 : ci < 20) (hw : Cond.fieldLink own idx (T k).1 (T k).2.1 (T k).2.2.1 ∈ am_words) (hfin : (T k).2.2.2 = true) (hin2 : ini = true) (hdecl : (T k).1 = own) {ty : FieldType} (hdI : parseFieldDescriptor (T k).2.2.1 = some ty) (hrt : (∃ n, ty = .object n) ∨ ∃ t, ty = .array t) (hfv : ∀ g M r, am_fv g M ci r k = va_rf (am_opt g (am_R M r k))) (hn : np = pc + 3) : am_ok tb cc own mL rt ini pc (o_putR ci N k np) := by
  intro X f M hF hpc
  obtain ⟨p, l, e, R, s, m, args, below, meth, c, Q, L, xs, D, A, n0, s0, γ0, N', S⟩ := X
  obtain ⟨hx, hb, hml, hown, hts, hlk, hini, hNc, hSc⟩ := hF
  obtain ⟨z, b, pc', l', st⟩ := f
  dsimp only at hpc
  subst hpc
  unfold o_putR
  dsimp only
  split
  · rename_i x a r
    subst hn
    refine ⟨Nat.le_refl _, Nat.le_refl _, fun hp hle1 hle2 hG γ g cA tys H locs ls hR hl hc hγ h1 h2 h3 h4 h5 h6 => ?_⟩
    obtain ⟨hp, hx20⟩ : am_K M a = (ci, N) ∧ (x = 0 ∨ 20 ≤ x) := hp
    have hxn : x < am_n M := (am_hd hc.2).1
    have hvx : γ x = va_rf (am_opt g x) := am_γR hR.2.2.2.2.2.1 hR.2.2.2.2.2.2.1 (by rcases hx20 with z | z; exact Or.inl z; exact Or.inr ⟨z, hxn⟩)
    have hvr : γ x = .null ∨ ∃ q, γ x = .ref q := am_γrf hR.2.2.2.2.2.1 hR.2.2.2.2.2.2.1 x
    obtain ⟨a1, a2⟩ := hR.2.2.2.2.2.2.2.1.own (a := a) (by rw [hp]; show ci < 40; omega)
    have hga := hR.2.2.2.2.2.2.1 a a1
    have he := am_ws_get (g := g) (cA := cA) (M := M) a1 a2
    rw [am_e_obj hp hc20] at he
    simp only [List.map_cons, am_cv, hga]
    refine va_putF (D := D) (cl := am_cl) hx hb hts hin (am_ty ci) hty hnm hown hR.1 hR.2.1 hR.2.2.1 hR.2.2.2.1 (a - 20) he hcl k hk (hts _ hw) (fun _ h => h) hfin (hini hin2) hdecl hdI (by rcases hrt with ⟨n, rfl⟩ | ⟨t, rfl⟩ <;> rcases hvr with z | ⟨q, z⟩ <;> rw [z] <;> rfl) (by rcases hrt with ⟨n, rfl⟩ | ⟨t, rfl⟩ <;> rcases hvr with z | ⟨q, z⟩ <;> rw [z] <;> rfl) (by unfold am_fs; rw [List.length_map, List.length_range]; exact hk) hd (fun H1 locs1 hP1 hD1 hS1 => ?_)
    refine hG γ g cA tys H1 locs1 ls (hR.keep (M' := am_setR M a k x) a1 rfl rfl ?_ ?_ ?_ ?_ (am_e_obj (N := N) hp hc20) ?_ ?_ hS1) hl ⟨hc.1, am_tl (am_tl hc.2)⟩ hγ h1 h2 h3 h4 h5 h6
    · exact fun _ _ => rfl
    · exact fun _ _ => rfl
    · intro q hq; funext j; exact if_neg (fun z => hq z.1)
    · intro j; show (if a = a ∧ j = k then x else am_R M a j) = 0 ∨ _; by_cases hj : j = k
      · show _ ∨ (20 ≤ (if a = a ∧ j = k then x else am_R M a j) ∧ (if a = a ∧ j = k then x else am_R M a j) < am_n M); rw [if_pos ⟨rfl, hj⟩]; rcases hx20 with z | z; exact Or.inl z; exact Or.inr ⟨z, hxn⟩
      · show _ ∨ (20 ≤ (if a = a ∧ j = k then x else am_R M a j) ∧ (if a = a ∧ j = k then x else am_R M a j) < am_n M); rw [if_neg (fun z => hj z.2)]; exact hR.2.2.2.2.2.2.2.1.2.2.2.2 a j
    · have e9 : am_fs g (am_setR M a k x) ci N a = (am_fs g M ci N a).set k (γ x) := by
        refine am_fs_set ?_ (fun j hj => ?_)
        · rw [hfv]; show va_rf (am_opt g (am_R (am_setR M a k x) a k)) = γ x; rw [show am_R (am_setR M a k x) a k = x from if_pos ⟨rfl, rfl⟩]; exact hvx.symm
        · have q1 : am_R (am_setR M a k x) a j = am_R M a j := if_neg (fun z => hj z.2)
          unfold am_fv; rw [q1]; rfl
      rw [e9]; exact hP1
    · have e9 : am_fs g (am_setR M a k x) ci N a = (am_fs g M ci N a).set k (γ x) := by
        refine am_fs_set ?_ (fun j hj => ?_)
        · rw [hfv]; show va_rf (am_opt g (am_R (am_setR M a k x) a k)) = γ x; rw [show am_R (am_setR M a k x) a k = x from if_pos ⟨rfl, rfl⟩]; exact hvx.symm
        · have q1 : am_R (am_setR M a k x) a j = am_R M a j := if_neg (fun z => hj z.2)
          unfold am_fv; rw [q1]; rfl
      rw [e9]; exact hD1
  · trivial
end AM7
