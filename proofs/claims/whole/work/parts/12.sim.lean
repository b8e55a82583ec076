/-! A RUN OF THE ABSTRACT MACHINE IS ONE OF THE MACHINE -/
section AM11
def am_moR (f : am_F) (M : am_M) : am_Rs → Prop
  | .inl (_, f', M') => f'.1 = f.1 ∧ f'.2.1 = f.2.1 ∧ am_n M ≤ am_n M' ∧ am_s M ≤ am_s M'
  | .inr (.inl (_, _, f1, f2)) => f1.1 = f.1 ∧ f2.1 = f.1
  | .inr (.inr (.inl (_, cs, d))) => (∀ q ∈ cs, q.2.1 = f.1) ∧ d.1 = f.1
  | .inr (.inr (.inr (.inl (_, _, _, f')))) => f'.1 = f.1
  | _ => True
def am_mo (op : am_Op) : Prop := ∀ f M, am_moR f M (op f M)
theorem am_moB {f : am_F} {M : am_M} {b : Bool} {x y : am_Rs} (hx : am_moR f M x) (hy : am_moR f M y) : am_moR f M (bif b then x else y) := by
  cases b
  · exact hy
  · exact hx
theorem mo_push {v : Value} {np : Nat} : am_mo (o_push v np) := by
  intro f M
  obtain ⟨z, b, pc, l, st⟩ := f
  unfold o_push
  exact ⟨rfl, rfl, Nat.le_refl _, Nat.le_refl _⟩
theorem mo_iload {i np : Nat} : am_mo (o_iload i np) := by
  intro f M
  obtain ⟨z, b, pc, l, st⟩ := f
  unfold o_iload
  split
  · exact ⟨rfl, rfl, Nat.le_refl _, Nat.le_refl _⟩
  · trivial
theorem mo_lload {i np : Nat} : am_mo (o_lload i np) := by
  intro f M
  obtain ⟨z, b, pc, l, st⟩ := f
  unfold o_lload
  split
  · exact ⟨rfl, rfl, Nat.le_refl _, Nat.le_refl _⟩
  · trivial
theorem mo_aload {i np : Nat} : am_mo (o_aload i np) := by
  intro f M
  obtain ⟨z, b, pc, l, st⟩ := f
  unfold o_aload
  split
  · exact ⟨rfl, rfl, Nat.le_refl _, Nat.le_refl _⟩
  · trivial
theorem mo_istore {i np : Nat} : am_mo (o_istore i np) := by
  intro f M
  obtain ⟨z, b, pc, l, st⟩ := f
  unfold o_istore
  split
  · exact ⟨rfl, rfl, Nat.le_refl _, Nat.le_refl _⟩
  · trivial
theorem mo_astore {i np : Nat} : am_mo (o_astore i np) := by
  intro f M
  obtain ⟨z, b, pc, l, st⟩ := f
  unfold o_astore
  split
  · exact ⟨rfl, rfl, Nat.le_refl _, Nat.le_refl _⟩
  · trivial
theorem mo_lstore {i np : Nat} : am_mo (o_lstore i np) := by
  intro f M
  obtain ⟨z, b, pc, l, st⟩ := f
  unfold o_lstore
  split
  · exact ⟨rfl, rfl, Nat.le_refl _, Nat.le_refl _⟩
  · trivial
theorem mo_iinc {i : Nat} {c : Int32} {np : Nat} : am_mo (o_iinc i c np) := by
  intro f M
  obtain ⟨z, b, pc, l, st⟩ := f
  unfold o_iinc
  split
  · exact ⟨rfl, rfl, Nat.le_refl _, Nat.le_refl _⟩
  · trivial
theorem mo_bin {g : Int32 → Int32 → Int32} {np : Nat} : am_mo (o_bin g np) := by
  intro f M
  obtain ⟨z, b, pc, l, st⟩ := f
  unfold o_bin
  split
  · exact ⟨rfl, rfl, Nat.le_refl _, Nat.le_refl _⟩
  · trivial
theorem mo_binS {g : Int32 → Int32 → Int32} {np : Nat} : am_mo (o_binS g np) := by
  intro f M
  obtain ⟨z, b, pc, l, st⟩ := f
  unfold o_binS
  split
  · exact ⟨rfl, rfl, Nat.le_refl _, Nat.le_refl _⟩
  · trivial
theorem mo_lbin {g : Int64 → Int64 → Int64} {np : Nat} : am_mo (o_lbin g np) := by
  intro f M
  obtain ⟨z, b, pc, l, st⟩ := f
  unfold o_lbin
  split
  · exact ⟨rfl, rfl, Nat.le_refl _, Nat.le_refl _⟩
  · trivial
theorem mo_lbinS {g : Int64 → Int64 → Int64} {np : Nat} : am_mo (o_lbinS g np) := by
  intro f M
  obtain ⟨z, b, pc, l, st⟩ := f
  unfold o_lbinS
  split
  · exact ⟨rfl, rfl, Nat.le_refl _, Nat.le_refl _⟩
  · trivial
theorem mo_un {g : Int32 → Int32} {np : Nat} : am_mo (o_un g np) := by
  intro f M
  obtain ⟨z, b, pc, l, st⟩ := f
  unfold o_un
  split
  · exact ⟨rfl, rfl, Nat.le_refl _, Nat.le_refl _⟩
  · trivial
theorem mo_lneg {np : Nat} : am_mo (o_lneg np) := by
  intro f M
  obtain ⟨z, b, pc, l, st⟩ := f
  unfold o_lneg
  split
  · exact ⟨rfl, rfl, Nat.le_refl _, Nat.le_refl _⟩
  · trivial
theorem mo_i2l {np : Nat} : am_mo (o_i2l np) := by
  intro f M
  obtain ⟨z, b, pc, l, st⟩ := f
  unfold o_i2l
  split
  · exact ⟨rfl, rfl, Nat.le_refl _, Nat.le_refl _⟩
  · trivial
theorem mo_l2i {np : Nat} : am_mo (o_l2i np) := by
  intro f M
  obtain ⟨z, b, pc, l, st⟩ := f
  unfold o_l2i
  split
  · exact ⟨rfl, rfl, Nat.le_refl _, Nat.le_refl _⟩
  · trivial
theorem mo_lcmp {np : Nat} : am_mo (o_lcmp np) := by
  intro f M
  obtain ⟨z, b, pc, l, st⟩ := f
  unfold o_lcmp
  split
  · exact ⟨rfl, rfl, Nat.le_refl _, Nat.le_refl _⟩
  · trivial
theorem mo_if {c : Int32 → Prop} {tg np : Nat} : am_mo (o_if c tg np) := by
  intro f M
  obtain ⟨z, b, pc, l, st⟩ := f
  unfold o_if
  split
  · exact ⟨rfl, rfl⟩
  · trivial
theorem mo_icmp {c : Int32 → Int32 → Prop} {tg np : Nat} : am_mo (o_icmp c tg np) := by
  intro f M
  obtain ⟨z, b, pc, l, st⟩ := f
  unfold o_icmp
  split
  · exact ⟨rfl, rfl⟩
  · trivial
theorem mo_null {tg np : Nat} : am_mo (o_null tg np) := by
  intro f M
  obtain ⟨z, b, pc, l, st⟩ := f
  unfold o_null
  split
  · exact ⟨rfl, rfl⟩
  · trivial
theorem mo_same {tg np : Nat} : am_mo (o_same tg np) := by
  intro f M
  obtain ⟨z, b, pc, l, st⟩ := f
  unfold o_same
  split
  · exact ⟨rfl, rfl⟩
  · trivial
theorem mo_goto {tg : Nat} : am_mo (o_goto tg) := by
  intro f M
  obtain ⟨z, b, pc, l, st⟩ := f
  unfold o_goto
  exact ⟨rfl, rfl, Nat.le_refl _, Nat.le_refl _⟩
theorem mo_sw {cs : List (Int32 × Nat)} {d : Nat} : am_mo (o_sw cs d) := by
  intro f M
  obtain ⟨z, b, pc, l, st⟩ := f
  unfold o_sw
  split
  · exact ⟨fun q hq => by obtain ⟨a, -, rfl⟩ := List.mem_map.mp hq; rfl, rfl⟩
  · trivial
theorem mo_getI {c N k np : Nat} : am_mo (o_getI c N k np) := by
  intro f M
  obtain ⟨z, b, pc, l, st⟩ := f
  unfold o_getI
  split
  · exact ⟨rfl, rfl, Nat.le_refl _, Nat.le_refl _⟩
  · trivial
theorem mo_getJ {c N k np : Nat} : am_mo (o_getJ c N k np) := by
  intro f M
  obtain ⟨z, b, pc, l, st⟩ := f
  unfold o_getJ
  split
  · exact ⟨rfl, rfl, Nat.le_refl _, Nat.le_refl _⟩
  · trivial
theorem mo_getR {c N k np : Nat} : am_mo (o_getR c N k np) := by
  intro f M
  obtain ⟨z, b, pc, l, st⟩ := f
  unfold o_getR
  split
  · exact ⟨rfl, rfl, Nat.le_refl _, Nat.le_refl _⟩
  · trivial
theorem mo_putI {c N k np : Nat} : am_mo (o_putI c N k np) := by
  intro f M
  obtain ⟨z, b, pc, l, st⟩ := f
  unfold o_putI
  split
  · exact ⟨rfl, rfl, Nat.le_refl _, Nat.le_refl _⟩
  · trivial
theorem mo_putZ {c N k np : Nat} : am_mo (o_putZ c N k np) := by
  intro f M
  obtain ⟨z, b, pc, l, st⟩ := f
  unfold o_putZ
  split
  · exact ⟨rfl, rfl, Nat.le_refl _, Nat.le_refl _⟩
  · trivial
theorem mo_putJ {c N k np : Nat} : am_mo (o_putJ c N k np) := by
  intro f M
  obtain ⟨z, b, pc, l, st⟩ := f
  unfold o_putJ
  split
  · exact ⟨rfl, rfl, Nat.le_refl _, Nat.le_refl _⟩
  · trivial
theorem mo_putR {c N k np : Nat} : am_mo (o_putR c N k np) := by
  intro f M
  obtain ⟨z, b, pc, l, st⟩ := f
  unfold o_putR
  split
  · exact ⟨rfl, rfl, Nat.le_refl _, Nat.le_refl _⟩
  · trivial
theorem mo_iald {t np : Nat} : am_mo (o_iald t np) := by
  intro f M
  obtain ⟨z, b, pc, l, st⟩ := f
  unfold o_iald
  split
  · exact ⟨rfl, rfl, Nat.le_refl _, Nat.le_refl _⟩
  · trivial
theorem mo_lald {t np : Nat} : am_mo (o_lald t np) := by
  intro f M
  obtain ⟨z, b, pc, l, st⟩ := f
  unfold o_lald
  split
  · exact ⟨rfl, rfl, Nat.le_refl _, Nat.le_refl _⟩
  · trivial
theorem mo_aald {t np : Nat} : am_mo (o_aald t np) := by
  intro f M
  obtain ⟨z, b, pc, l, st⟩ := f
  unfold o_aald
  split
  · exact ⟨rfl, rfl, Nat.le_refl _, Nat.le_refl _⟩
  · trivial
theorem mo_iast {np : Nat} : am_mo (o_iast np) := by
  intro f M
  obtain ⟨z, b, pc, l, st⟩ := f
  unfold o_iast
  split
  · exact ⟨rfl, rfl, Nat.le_refl _, Nat.le_refl _⟩
  · trivial
theorem mo_zast {np : Nat} : am_mo (o_zast np) := by
  intro f M
  obtain ⟨z, b, pc, l, st⟩ := f
  unfold o_zast
  split
  · exact ⟨rfl, rfl, Nat.le_refl _, Nat.le_refl _⟩
  · trivial
theorem mo_cast {np : Nat} : am_mo (o_cast np) := by
  intro f M
  obtain ⟨z, b, pc, l, st⟩ := f
  unfold o_cast
  split
  · exact ⟨rfl, rfl, Nat.le_refl _, Nat.le_refl _⟩
  · trivial
theorem mo_last {np : Nat} : am_mo (o_last np) := by
  intro f M
  obtain ⟨z, b, pc, l, st⟩ := f
  unfold o_last
  split
  · exact ⟨rfl, rfl, Nat.le_refl _, Nat.le_refl _⟩
  · trivial
theorem mo_aast {c N np : Nat} : am_mo (o_aast c N np) := by
  intro f M
  obtain ⟨z, b, pc, l, st⟩ := f
  unfold o_aast
  split
  · exact ⟨rfl, rfl, Nat.le_refl _, Nat.le_refl _⟩
  · trivial
theorem mo_alen {t np : Nat} : am_mo (o_alen t np) := by
  intro f M
  obtain ⟨z, b, pc, l, st⟩ := f
  unfold o_alen
  split
  · exact ⟨rfl, rfl, Nat.le_refl _, Nat.le_refl _⟩
  · trivial
theorem mo_newa {t np : Nat} : am_mo (o_newa t np) := by
  intro f M
  obtain ⟨z, b, pc, l, st⟩ := f
  unfold o_newa
  split
  · exact ⟨rfl, rfl, Nat.le_succ _, Nat.le_add_right _ _⟩
  · trivial
theorem mo_new {c N np : Nat} : am_mo (o_new c N np) := by
  intro f M
  obtain ⟨z, b, pc, l, st⟩ := f
  unfold o_new
  exact ⟨rfl, rfl, Nat.le_succ _, Nat.le_add_right _ _⟩
theorem mo_dup {np : Nat} : am_mo (o_dup np) := by
  intro f M
  obtain ⟨z, b, pc, l, st⟩ := f
  unfold o_dup
  split
  · exact ⟨rfl, rfl, Nat.le_refl _, Nat.le_refl _⟩
  · exact ⟨rfl, rfl, Nat.le_refl _, Nat.le_refl _⟩
  · trivial
theorem mo_dup2 {np : Nat} : am_mo (o_dup2 np) := by
  intro f M
  obtain ⟨z, b, pc, l, st⟩ := f
  unfold o_dup2
  split
  · exact ⟨rfl, rfl, Nat.le_refl _, Nat.le_refl _⟩
  · trivial
theorem mo_pop {np : Nat} : am_mo (o_pop np) := by
  intro f M
  obtain ⟨z, b, pc, l, st⟩ := f
  unfold o_pop
  split
  · exact ⟨rfl, rfl, Nat.le_refl _, Nat.le_refl _⟩
  · trivial
theorem mo_cs {z mL b k np : Nat} : am_mo (o_cs z mL b k np) := by
  intro f M
  obtain ⟨z, b, pc, l, st⟩ := f
  unfold o_cs
  split
  · exact am_moB rfl trivial
  · trivial
theorem mo_cv {c N z mL b k np : Nat} : am_mo (o_cv c N z mL b k np) := by
  intro f M
  obtain ⟨z, b, pc, l, st⟩ := f
  unfold o_cv
  split
  · exact am_moB rfl trivial
  · trivial
theorem mo_cvp {c N z mL b k np : Nat} : am_mo (o_cvp c N z mL b k np) := by
  intro f M
  obtain ⟨z, b, pc, l, st⟩ := f
  unfold o_cvp
  split
  · exact am_moB rfl trivial
  · trivial
theorem mo_csp {z mL b k np : Nat} : am_mo (o_csp z mL b k np) := by
  intro f M
  obtain ⟨z, b, pc, l, st⟩ := f
  unfold o_csp
  split
  · exact am_moB rfl trivial
  · trivial
theorem mo_cvr {c N z mL k np : Nat} : am_mo (o_cvr c N z mL k np) := by
  intro f M
  obtain ⟨z, b, pc, l, st⟩ := f
  unfold o_cvr
  split
  · exact am_moB rfl trivial
  · trivial
theorem mo_oinit {np : Nat} : am_mo (o_oinit np) := by
  intro f M
  obtain ⟨z, b, pc, l, st⟩ := f
  unfold o_oinit
  split
  · exact am_moB ⟨rfl, rfl, Nat.le_refl _, Nat.le_refl _⟩ trivial
  · trivial
theorem mo_acopy {np : Nat} : am_mo (o_acopy np) := by
  intro f M
  obtain ⟨z, b, pc, l, st⟩ := f
  unfold o_acopy
  split
  · exact am_moB ⟨rfl, rfl, Nat.le_refl _, Nat.le_refl _⟩ trivial
  · trivial
theorem mo_strV {np : Nat} : am_mo (o_strV np) := by
  intro f M
  obtain ⟨z, b, pc, l, st⟩ := f
  unfold o_strV
  split
  · exact ⟨rfl, rfl, Nat.le_refl _, Nat.le_refl _⟩
  · trivial
theorem mo_strC {np : Nat} : am_mo (o_strC np) := by
  intro f M
  obtain ⟨z, b, pc, l, st⟩ := f
  unfold o_strC
  split
  · exact ⟨rfl, rfl, Nat.le_refl _, Nat.le_refl _⟩
  · trivial
theorem mo_ret : am_mo (o_ret ) := by
  intro f M
  obtain ⟨z, b, pc, l, st⟩ := f
  unfold o_ret
  split
  · trivial
  · trivial
theorem mo_iret : am_mo (o_iret ) := by
  intro f M
  obtain ⟨z, b, pc, l, st⟩ := f
  unfold o_iret
  split
  · trivial
  · trivial
theorem mo_nret {ty : FieldType} : am_mo (o_nret ty) := by
  intro f M
  obtain ⟨z, b, pc, l, st⟩ := f
  unfold o_nret
  split
  · trivial
  · trivial
theorem mo_lret : am_mo (o_lret ) := by
  intro f M
  obtain ⟨z, b, pc, l, st⟩ := f
  unfold o_lret
  split
  · trivial
  · trivial
theorem mo_aret : am_mo (o_aret ) := by
  intro f M
  obtain ⟨z, b, pc, l, st⟩ := f
  unfold o_aret
  split
  · trivial
  · trivial
theorem mo_mbin {g : Int32 → Int32 → Int32} {np : Nat} : am_mo (o_mbin g np) := by
  intro f M
  obtain ⟨z, b, pc, l, st⟩ := f
  unfold o_mbin
  split
  · exact am_moB ⟨rfl, rfl, Nat.le_refl _, Nat.le_refl _⟩ trivial
  · trivial
theorem mo_mabs {np : Nat} : am_mo (o_mabs np) := by
  intro f M
  obtain ⟨z, b, pc, l, st⟩ := f
  unfold o_mabs
  split
  · exact am_moB ⟨rfl, rfl, Nat.le_refl _, Nat.le_refl _⟩ trivial
  · trivial
theorem mo_mminL {np : Nat} : am_mo (o_mminL np) := by
  intro f M
  obtain ⟨z, b, pc, l, st⟩ := f
  unfold o_mminL
  split
  · exact am_moB ⟨rfl, rfl, Nat.le_refl _, Nat.le_refl _⟩ trivial
  · trivial
theorem am_swf_1 {x : Int32} {z : Nat} {d : am_F} : ∀ cs : List (Int32 × am_F), (∀ q ∈ cs, q.2.1 = z) → d.1 = z → (am_swf x cs d).1 = z
  | [], _, hd => hd
  | (k, f) :: r, h, hd => by
    unfold am_swf
    by_cases hx : x = k
    · rw [if_pos hx]; exact h (k, f) List.mem_cons_self
    · rw [if_neg hx]; exact am_swf_1 r (fun q hq => h q (List.mem_cons_of_mem _ hq)) hd
theorem am_run_mo {C : Nat → Nat → am_Op} (hmo : ∀ z pc, am_mo (C z pc)) : ∀ (n : Nat) (f : am_F) (M : am_M) (r : Option Value × am_M), am_run C n f M = some r → am_n M ≤ am_n r.2 ∧ am_s M ≤ am_s r.2
  | 0, _, _, _, h => by cases h
  | n + 1, f, M, r, h => by
    have ih := am_run_mo hmo n
    have h : am_rst (am_run C n) M (C f.1 f.2.2.1 f M) = some r := h
    have hm := hmo f.1 f.2.2.1 f M
    revert h hm
    generalize C f.1 f.2.2.1 f M = w
    intro h hm
    match w, h, hm with
    | .inl (p, f', M'), h, hm =>
      simp only [am_rst] at h
      by_cases hp : am_sp p
      · rw [am_ite_t hp] at h
        have := ih _ _ _ h
        exact ⟨Nat.le_trans hm.2.2.1 this.1, Nat.le_trans hm.2.2.2 this.2⟩
      · rw [am_ite_f hp] at h; cases h
    | .inr (.inl (p, c, f1, f2)), h, hm =>
      simp only [am_rst] at h
      by_cases hp : am_sp p
      · rw [am_ite_t hp] at h
        by_cases hc : c
        · rw [am_ite_t hc] at h; exact ih _ _ _ h
        · rw [am_ite_f hc] at h; exact ih _ _ _ h
      · rw [am_ite_f hp] at h; cases h
    | .inr (.inr (.inl (x, cs, d))), h, hm => exact ih _ _ _ h
    | .inr (.inr (.inr (.inl (p, as, f0, f1)))), h, hm =>
      simp only [am_rst] at h
      by_cases hp : am_sp p
      · rw [am_ite_t hp] at h
        cases h0 : am_run C n f0 M with
        | none => rw [h0] at h; cases h
        | some q =>
          rw [h0] at h
          have a := ih _ _ _ h0
          have b := ih _ _ _ h
          exact ⟨Nat.le_trans a.1 b.1, Nat.le_trans a.2 b.2⟩
      · rw [am_ite_f hp] at h; cases h
    | .inr (.inr (.inr (.inr (.inl (p, v))))), h, hm =>
      simp only [am_rst] at h
      by_cases hp : am_sp p
      · rw [am_ite_t hp] at h; cases h; exact ⟨Nat.le_refl _, Nat.le_refl _⟩
      · rw [am_ite_f hp] at h; cases h
    | .inr (.inr (.inr (.inr (.inr _)))), h, hm => cases h
/-- the arguments, at the entry -/
theorem am_ar_sl (γ : Nat → Value) (hγ : ∀ r, γ r = .null ∨ ∃ a, γ r = .ref a) : ∀ as : List Value, (lg_sl (as.map (am_cv γ))).length = (am_ar as).length
  | [] => rfl
  | v :: r => by
    have ih := am_ar_sl γ hγ r
    have h1 : lg_sl ((v :: r).map (am_cv γ)) = (if (am_cv γ v).category = 2 then [.val (am_cv γ v), .second] else [.val (am_cv γ v)]) ++ lg_sl (r.map (am_cv γ)) := by simp [lg_sl]
    rw [h1, List.length_append, ih]
    cases v with
    | long x => simp [am_cv, Value.category, am_ar]; omega
    | double x => simp [am_cv, Value.category, am_ar]; omega
    | ref a => rcases hγ a with e | ⟨q, e⟩ <;> (simp [am_cv, e, Value.category, am_ar]; omega)
    | int x => simp [am_cv, Value.category, am_ar]; omega
    | float x => simp [am_cv, Value.category, am_ar]; omega
    | null => simp [am_cv, Value.category, am_ar]; omega
    | retAddr x => rcases hγ 16 with e | ⟨q, e⟩ <;> (simp [am_cv, e, Value.category, am_ar]; omega)
theorem am_lg_pad : ∀ (n : Nat) (l : List Value) (i : Nat), am_lg (am_pad n l) i ≠ .null → am_lg (am_pad n l) i = am_lg l i
  | 0, _, _, h => absurd rfl h
  | n + 1, [], 0, h => absurd rfl h
  | n + 1, [], i + 1, h => by
    have := am_lg_pad n [] i h
    exact this
  | n + 1, v :: r, 0, _ => rfl
  | n + 1, v :: r, i + 1, h => am_lg_pad n r i h
theorem am_pad_len : ∀ (n : Nat) (l : List Value), (am_pad n l).length = n
  | 0, _ => rfl
  | n + 1, [] => by simp [am_pad, am_pad_len n []]
  | n + 1, v :: r => by simp [am_pad, am_pad_len n r]
theorem am_pad_vo {k : Nat} : ∀ (n : Nat) (l : List Value), (∀ v ∈ l, am_vo k v) → ∀ v ∈ am_pad n l, am_vo k v
  | 0, _, _ => fun _ h => by cases h
  | n + 1, [], h => am_cn1 trivial (am_pad_vo n [] h)
  | n + 1, v :: r, h => am_cn1 (am_hd h) (am_pad_vo n r (am_tl h))
theorem am_ar_vo {k : Nat} : ∀ (l : List Value), (∀ v ∈ l, am_vo k v) → ∀ v ∈ am_ar l, am_vo k v
  | [], _ => fun _ h => by cases h
  | v :: r, h => by
    have ih := am_ar_vo r (am_tl h)
    have h0 := am_hd h
    cases v with
    | long x => exact am_cn1 trivial (am_cn1 trivial ih)
    | double x => exact am_cn1 trivial (am_cn1 trivial ih)
    | _ => exact am_cn1 h0 ih
theorem am_ar_at {γ : Nat → Value} (hγ : ∀ r, γ r = .null ∨ ∃ a, γ r = .ref a) {ls : Array Slot} : ∀ (as : List Value) (k : Nat), (∀ q ∈ lv_args k (as.map (am_cv γ)), ls[q.1]? = some (.val q.2)) → ∀ i, am_lg (am_ar as) i ≠ .null → ls[k + i]? = some (.val (am_cv γ (am_lg (am_ar as) i)))
  | [], _, _, i, h => absurd rfl h
  | v :: r, k, hq, i, h => by
    have h0 := hq (k, am_cv γ v) List.mem_cons_self
    have hr : ∀ q ∈ lv_args (if (am_cv γ v).category = 2 then k + 2 else k + 1) (r.map (am_cv γ)), ls[q.1]? = some (.val q.2) := fun q hm => hq q (List.mem_cons_of_mem _ hm)
    have two : ∀ w, v = w → (w.category = 2) → am_ar (w :: r) = w :: .null :: am_ar r → ls[k + i]? = some (.val (am_cv γ (am_lg (am_ar (v :: r)) i))) := by
      intro w hw hc he
      subst hw
      rw [he] at h ⊢
      have hc2 : (am_cv γ v).category = 2 := by rw [am_cv_cat hγ]; exact hc
      rw [if_pos hc2] at hr
      match i, h with
      | 0, _ => exact h0
      | 1, h => exact absurd rfl h
      | i + 2, h =>
        have := am_ar_at hγ r (k + 2) hr i h
        rw [show k + 2 + i = k + (i + 2) by omega] at this
        exact this
    have one : (v.category ≠ 2) → am_ar (v :: r) = v :: am_ar r → ls[k + i]? = some (.val (am_cv γ (am_lg (am_ar (v :: r)) i))) := by
      intro hc he
      rw [he] at h ⊢
      have hc2 : ¬ (am_cv γ v).category = 2 := by rw [am_cv_cat hγ]; exact hc
      rw [if_neg hc2] at hr
      match i, h with
      | 0, _ => exact h0
      | i + 1, h =>
        have := am_ar_at hγ r (k + 1) hr i h
        rw [show k + 1 + i = k + (i + 1) by omega] at this
        exact this
    cases v with
    | long x => exact two _ rfl rfl rfl
    | double x => exact two _ rfl rfl rfl
    | int x => exact one (by simp [Value.category]) rfl
    | float x => exact one (by simp [Value.category]) rfl
    | null => exact one (by simp [Value.category]) rfl
    | ref x => exact one (by simp [Value.category]) rfl
    | retAddr x => exact one (by simp [Value.category]) rfl
/-- the end of a method's walk -/
theorem am_ends {p : Program} {l : Launch} {e : Env} {R : Room} {s : State} {m : MethodId} {args : Array Value} {below : List Frame} {meth : Method} {c : Code} {L : Nat} {xs : Nat → Int32} {D : va_G} {A A' : Nat → Prop} {n0 s0 N S : Nat} {γ0 : Nat → Value} {cc : ByteArray} {rt : Option FieldType} {v : Option Value} {M' : am_M}
    (hx : p.tables.exec = Jvm.exec) (hb : c.code = cc) (hr : meth.sig.returnType = rt) (hlk : meth.locks = false) (hAA : ∀ q, A q ↔ A' q) : am_En (p, l, e, R, s, m, args, below, meth, c, MQ below (am_Qc L xs D γ0 A' n0 v M') args s (am_n M' - n0) (am_s M' - s0) A', L, xs, D, A, n0, s0, γ0, N, S) cc rt v M' := by
  have hAA : A = A' := by funext q; exact propext (hAA q)
  subst hAA
  intro γ g cA tys H locs ls pc hR hγ hvo hrd
  obtain ⟨r1, r2, r3, r4, r5, r6, r7, r8, r9⟩ := hR
  have fin : ∀ (o : Option Value), o = v.map (am_cv γ) → ∀ t : State, t.heap = H → s.WarmedH t.vm → am_Qc L xs D γ0 A n0 v M' args s (.returned o) t := by
    intro o ho t ht hW
    exact ⟨⟨γ, g, cA, tys, by rw [ho], hγ, va_K.moved hW.alike r1, by rw [ht]; exact r2, r3, r7, r8, r9, hvo⟩, r4.F ht⟩
  match v, hrd with
  | none, hrd => exact W.vret hx hb (by rw [hr]; exact hrd.1) (fin _ rfl) r4.2.2 hrd.2 hlk
  | some (.int x), hrd =>
    obtain ⟨ty, e1, e2, e3⟩ := hrd
    exact W.zret hx hb (by rw [hr]; exact e1) e2 (fin _ rfl) r4.2.2 e3 hlk
  | some (.long x), hrd => exact W.lret hx hb (by rw [hr]; exact hrd.1) (fin _ rfl) r4.2.2 hrd.2 hlk
  | some (.ref x), hrd =>
    obtain ⟨ty, e1, e2, e3⟩ := hrd
    exact W.aret (v := γ x) hx hb (by rw [hr]; exact e1) e2 (am_γrf r6 r7 x) (fin _ rfl) r4.2.2 e3 hlk
theorem am_sim {tb : am_Tb} {C : Nat → Nat → am_Op} (hok : ∀ z pc, am_ok tb (tb.2.1 z) (tb.1 z).cls (tb.2.2.1 z) (tb.2.2.2.1 z) (tb.2.2.2.2 z) pc (C z pc)) (hmo : ∀ z pc, am_mo (C z pc)) (hpl : ∀ z, plainName (tb.1 z).cls = true) (hin : ∀ z, tb.2.2.2.2 z = true → (tb.1 z).name = "<init>") :
    ∀ (n : Nat) (f : am_F) (M : am_M) (r : Option Value × am_M), am_run C n f M = some r → ∀ X : am_Cx, am_Fx X (tb.2.1 f.1) (tb.1 f.1).cls (tb.2.2.1 f.1) (tb.2.2.2.2 f.1) → am_n r.2 ≤ am_mN X → am_s r.2 ≤ am_mS X → am_En X (tb.2.1 f.1) (tb.2.2.2.1 f.1) r.1 r.2 → am_Go X f M
  | 0, _, _, _, h => by cases h
  | n + 1, f, M, r, h => by
    have ih := am_sim hok hmo hpl hin n
    intro X hF hN hS hE
    have h : am_rst (am_run C n) M (C f.1 f.2.2.1 f M) = some r := h
    have hm := hmo f.1 f.2.2.1 f M
    have ho := hok f.1 f.2.2.1 X f M hF rfl
    revert h hm ho
    generalize C f.1 f.2.2.1 f M = w
    intro h hm ho
    match w, h, hm, ho with
    | .inl (p, f', M'), h, hm, ho =>
      simp only [am_rst] at h
      by_cases hp : am_sp p
      · rw [am_ite_t hp] at h
        have hb := am_run_mo hmo n _ _ _ h
        refine ho.2.2 hp (Nat.le_trans hb.1 hN) (Nat.le_trans hb.2 hS) (ih _ _ _ h X ?_ hN hS ?_)
        · rw [hm.1]; exact hF
        · rw [hm.1]; exact hE
      · rw [am_ite_f hp] at h; cases h
    | .inr (.inl (p, c, f1, f2)), h, hm, ho =>
      simp only [am_rst] at h
      by_cases hp : am_sp p
      · rw [am_ite_t hp] at h
        refine ho hp (fun hc => ?_) (fun hc => ?_)
        · rw [am_ite_t hc] at h
          exact ih _ _ _ h X (by rw [hm.1]; exact hF) hN hS (by rw [hm.1]; exact hE)
        · rw [am_ite_f hc] at h
          exact ih _ _ _ h X (by rw [hm.2]; exact hF) hN hS (by rw [hm.2]; exact hE)
      · rw [am_ite_f hp] at h; cases h
    | .inr (.inr (.inl (x, cs, d))), h, hm, ho =>
      have e1 : (am_swf x cs d).1 = f.1 := am_swf_1 cs hm.1 hm.2
      exact ho (ih _ _ _ h X (by rw [e1]; exact hF) hN hS (by rw [e1]; exact hE))
    | .inr (.inr (.inr (.inl (p, as, f0, f1)))), h, hm, ho =>
      simp only [am_rst] at h
      by_cases hp : am_sp p
      · rw [am_ite_t hp] at h
        cases h0 : am_run C n f0 M with
        | none => rw [h0] at h; cases h
        | some q =>
          rw [h0] at h
          obtain ⟨v, M1⟩ := q
          have b0 := am_run_mo hmo n _ _ _ h0
          have b1 := am_run_mo hmo n _ _ _ h
          have hm : f1.1 = f.1 := hm
          obtain ⟨hf0, hlen, ho⟩ := ho
          refine ho hp v M1 ?_ (Nat.le_trans b1.1 hN) (Nat.le_trans b1.2 hS) b0.1 b0.2 (ih _ _ _ h X (by rw [show (am_push (v, M1).1 f1).1 = f.1 from hm]; exact hF) hN hS (by rw [show (am_push (v, M1).1 f1).1 = f.1 from hm]; exact hE))
          obtain ⟨p', l, e', R', s', m', args', below', meth', c', Q', L, xs, D, A', n0', s0', γ0', N', S'⟩ := X
          clear hF hN hS hE ho ih
          have ih := am_sim hok hmo hpl hin n
          generalize hz : f0.1 = z at hf0 hlen ⊢
          generalize hbud : f0.2.1 = b at hf0 ⊢
          subst hf0
          intro γ g cA tys sz
          refine Met.ofW (cc := tb.2.1 z) (maxL := tb.2.2.1 z) (ret := tb.2.2.2.1 z) (hpl z) rfl ?_
          intro p e s m args below meth c s₁ B hml hv
          obtain ⟨rfl, hsz, hRel, hvs⟩ := hv
          have hts : ∀ w ∈ am_words, w.before (as.map (am_cv γ)).toArray s = true := fun w hw => atoms_spec (ws := am_wz tb z) B.pre w (List.mem_cons_of_mem _ hw)
          have hγ := am_γrf hRel.2.2.2.2.2.1 hRel.2.2.2.2.2.2.1
          have hl := lv_entry (as.map (am_cv γ)) (n := tb.2.2.1 z) (by rw [am_ar_sl γ hγ]; exact hlen)
          rw [lg_entry_eq]
          generalize (lg_sl (as.map (am_cv γ)) ++ List.replicate (tb.2.2.1 z - (lg_sl (as.map (am_cv γ))).length) Slot.unset).toArray = ls at hl ⊢
          have key := ih _ _ _ h0 (p, l, e, (headSpec (am_wz tb z) { frames := b + 1, cells := am_n M1 - am_n M, slots := am_s M1 - am_s M, locals := 60 * (b + 1) }).room, s, m, (as.map (am_cv γ)).toArray, below, meth, c, MQ below (am_Qc L xs D γ (va_A (am_ws g cA M) sz) (am_n M) v M1) (as.map (am_cv γ)).toArray s (am_n M1 - am_n M) (am_s M1 - am_s M) (va_A (am_ws g cA M) sz), L, xs, D, va_A (am_ws g cA M) sz, am_n M, am_s M, γ, am_n M1, am_s M1)
            ⟨B.exec, B.bytes, hml, findClass_of_methodNamed B.named, hts, B.notSynchronized, fun hi => by rw [(name_of_methodNamed B.named B.method).1]; exact hin z hi, Nat.le_refl _, Nat.le_refl _⟩ (Nat.le_refl _) (Nat.le_refl _) (am_ends B.exec B.bytes B.returns B.notSynchronized (fun _ => Iff.rfl))
          have k9 := key γ g cA tys s.heap [] ls hRel ⟨hl.1.trans hml.symm, hl.2.1, by rw [am_pad_len]; exact hml.symm, fun i hi => by
              have e1 := am_lg_pad _ _ i hi
              rw [e1] at hi ⊢
              have := am_ar_at hγ as 0 hl.2.2 i hi
              rw [Nat.zero_add] at this
              exact this⟩ ⟨am_pad_vo _ _ (am_ar_vo _ hvs), fun _ h => by cases h⟩ (fun _ _ => rfl) (Nat.le_refl _) (Nat.le_refl _) b0.1 b0.2 (Nat.le_refl _) (Nat.le_refl _)
          rw [Nat.sub_self, Nat.sub_self] at k9
          exact k9
      · rw [am_ite_f hp] at h; cases h
    | .inr (.inr (.inr (.inr (.inl (p, v))))), h, hm, ho =>
      simp only [am_rst] at h
      by_cases hp : am_sp p
      · rw [am_ite_t hp] at h
        cases h
        exact ho hp hE
      · rw [am_ite_f hp] at h; cases h
    | .inr (.inr (.inr (.inr (.inr _)))), h, hm, ho => cases h
end AM11
