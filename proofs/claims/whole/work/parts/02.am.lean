/-! AN ABSTRACT MACHINE for the bytecode that this claim uses: memory as functions, calls as results, side conditions as propositions. Its runs are shown to be runs of the machine (part 05); all that is said of the methods is said of its runs. -/
section AM1
/-- kinds (class or array, length), ints, longs, references, the next reference, slots in use -/
abbrev am_M : Type := (Nat → Nat × Nat) × (Nat → Nat → Int32) × (Nat → Nat → Int64) × (Nat → Nat → Nat) × Nat × Nat
/-- a frame: method, budget of frames, pc, locals, stack -/
abbrev am_F : Type := Nat × Nat × Nat × List Value × List Value
def am_K (M : am_M) : Nat → Nat × Nat := M.1
def am_I (M : am_M) : Nat → Nat → Int32 := M.2.1
def am_J (M : am_M) : Nat → Nat → Int64 := M.2.2.1
def am_R (M : am_M) : Nat → Nat → Nat := M.2.2.2.1
def am_n (M : am_M) : Nat := M.2.2.2.2.1
def am_s (M : am_M) : Nat := M.2.2.2.2.2
def am_up {α : Type} (f : Nat → Nat → α) (a k : Nat) (x : α) : Nat → Nat → α := fun b j => if b = a ∧ j = k then x else f b j
def am_row {α : Type} (f : Nat → Nat → α) (a : Nat) (g : Nat → α) : Nat → Nat → α := fun b j => if b = a then g j else f b j
def am_setI (M : am_M) (a k : Nat) (x : Int32) : am_M := match M with | (K, I, J, R, n, s) => (K, am_up I a k x, J, R, n, s)
def am_setJ (M : am_M) (a k : Nat) (x : Int64) : am_M := match M with | (K, I, J, R, n, s) => (K, I, am_up J a k x, R, n, s)
def am_setR (M : am_M) (a k : Nat) (x : Nat) : am_M := match M with | (K, I, J, R, n, s) => (K, I, J, am_up R a k x, n, s)
def am_rowI (M : am_M) (a : Nat) (g : Nat → Int32) : am_M := match M with | (K, I, J, R, n, s) => (K, am_row I a g, J, R, n, s)
def am_new (M : am_M) (t len : Nat) : am_M := match M with
  | (K, I, J, R, n, s) => (fun b => if b = n then (t, len) else K b, am_row I n (fun _ => 0), am_row J n (fun _ => 0), am_row R n (fun _ => 0), n + 1, s + len)
/-- what an instruction does: goes on (a side condition first); branches; switches; calls (callee's frame, own frame behind it); returns; nothing -/
abbrev am_Rs : Type := (Option Prop × am_F × am_M) ⊕ (Option Prop × Prop × am_F × am_F) ⊕ (Int32 × List (Int32 × am_F) × am_F) ⊕ (Option Prop × List Value × am_F × am_F) ⊕ (Option Prop × Option Value) ⊕ Unit
abbrev am_go (f : am_F) (M : am_M) : am_Rs := .inl (none, f, M)
abbrev am_goS (p : Prop) (f : am_F) (M : am_M) : am_Rs := .inl (some p, f, M)
abbrev am_br (c : Prop) (f g : am_F) : am_Rs := .inr (.inl (none, c, f, g))
abbrev am_brS (p c : Prop) (f g : am_F) : am_Rs := .inr (.inl (some p, c, f, g))
abbrev am_sw (x : Int32) (cs : List (Int32 × am_F)) (d : am_F) : am_Rs := .inr (.inr (.inl (x, cs, d)))
abbrev am_ca (p : Option Prop) (as : List Value) (f0 f : am_F) : am_Rs := .inr (.inr (.inr (.inl (p, as, f0, f))))
abbrev am_rt (p : Option Prop) (v : Option Value) : am_Rs := .inr (.inr (.inr (.inr (.inl (p, v)))))
abbrev am_no : am_Rs := .inr (.inr (.inr (.inr (.inr ()))))
abbrev am_Op : Type := am_F → am_M → am_Rs
def am_push (v : Option Value) (f : am_F) : am_F := match f with | (z, b, pc, l, st) => (z, b, pc, l, match v with | some w => w :: st | none => st)
def am_sp : Option Prop → Prop
  | none => True
  | some p => p
def am_sd : Option Prop → Prop → Prop
  | none, q => q
  | some p, q => p ∧ q
def am_swf (x : Int32) : List (Int32 × am_F) → am_F → am_F
  | [], d => d
  | (k, f) :: r, d => if x = k then f else am_swf x r d
noncomputable def am_ite {α : Type} (c : Prop) (a b : α) : α := @ite α c (Classical.propDecidable c) a b
theorem am_ite_t {α : Type} {c : Prop} {a b : α} (h : c) : am_ite c a b = a := @if_pos c (Classical.propDecidable c) h α a b
theorem am_ite_f {α : Type} {c : Prop} {a b : α} (h : ¬ c) : am_ite c a b = b := @if_neg c (Classical.propDecidable c) h α a b
noncomputable def am_rst (rc : am_F → am_M → Option (Option Value × am_M)) (M : am_M) : am_Rs → Option (Option Value × am_M)
  | .inl (p, f, M') => am_ite (am_sp p) (rc f M') none
  | .inr (.inl (p, c, f, g)) => am_ite (am_sp p) (am_ite c (rc f M) (rc g M)) none
  | .inr (.inr (.inl (x, cs, d))) => rc (am_swf x cs d) M
  | .inr (.inr (.inr (.inl (p, _, f0, f)))) => am_ite (am_sp p) (match rc f0 M with | some r => rc (am_push r.1 f) r.2 | none => none) none
  | .inr (.inr (.inr (.inr (.inl (p, v))))) => am_ite (am_sp p) (some (v, M)) none
  | .inr (.inr (.inr (.inr (.inr _)))) => none
noncomputable def am_run (C : Nat → Nat → am_Op) : Nat → am_F → am_M → Option (Option Value × am_M)
  | 0, _, _ => none
  | n + 1, f, M => am_rst (am_run C n) M (C f.1 f.2.2.1 f M)
/-- it comes to an end, with K -/
def am_T0 (C : Nat → Nat → am_Op) (f : am_F) (M : am_M) (K : Option Value → am_M → Prop) : Prop := ∃ (n : Nat) (r : Option Value × am_M), am_run C n f M = some r ∧ K r.1 r.2
theorem am_Tx : ∃ g : (Nat → Nat → am_Op) → am_F → am_M → (Option Value → am_M → Prop) → Prop, g = am_T0 := ⟨_, rfl⟩
/-- (a name that nothing unfolds) -/
noncomputable def am_T : (Nat → Nat → am_Op) → am_F → am_M → (Option Value → am_M → Prop) → Prop := Classical.choose am_Tx
theorem am_T_iff {C : Nat → Nat → am_Op} {f : am_F} {M : am_M} {K : Option Value → am_M → Prop} : am_T C f M K ↔ ∃ (n : Nat) (r : Option Value × am_M), am_run C n f M = some r ∧ K r.1 r.2 := by
  rw [show am_T = am_T0 from Classical.choose_spec am_Tx]
  exact Iff.rfl
def am_wsw (rc : am_F → Prop) (x : Int32) : List (Int32 × am_F) → am_F → Prop
  | [], d => rc d
  | (k, f) :: r, d => (x = k → rc f) ∧ (x ≠ k → am_wsw rc x r d)
noncomputable def am_wst (C : Nat → Nat → am_Op) (inl : Nat → Bool) (rc : am_F → am_M → (Option Value → am_M → Prop) → Prop) (M : am_M) (K : Option Value → am_M → Prop) : am_Rs → Prop
  | .inl (p, f, M') => am_sd p (rc f M' K)
  | .inr (.inl (p, c, f, g)) => am_sd p ((c → rc f M K) ∧ (¬ c → rc g M K))
  | .inr (.inr (.inl (x, cs, d))) => am_wsw (fun f => rc f M K) x cs d
  | .inr (.inr (.inr (.inl (p, _, f0, f)))) => am_sd p (bif inl f0.1 then rc f0 M (fun v M' => rc (am_push v f) M' K) else am_T C f0 M (fun v M' => rc (am_push v f) M' K))
  | .inr (.inr (.inr (.inr (.inl (p, v))))) => am_sd p (K v M)
  | .inr (.inr (.inr (.inr (.inr _)))) => False
/-- the condition under which a run of some n instructions, up to the cuts, comes to K -/
noncomputable def am_wp (C : Nat → Nat → am_Op) (cut : Nat → Nat → Bool) (inl : Nat → Bool) : Nat → am_F → am_M → (Option Value → am_M → Prop) → Prop
  | 0, f, M, K => am_T C f M K
  | n + 1, f, M, K => am_wst C inl (fun f M K => bif cut f.1 f.2.2.1 then am_T C f M K else am_wp C cut inl n f M K) M K (C f.1 f.2.2.1 f M)
theorem am_run_more (C : Nat → Nat → am_Op) : ∀ (n : Nat) (f : am_F) (M : am_M) (r : Option Value × am_M), am_run C n f M = some r → am_run C (n + 1) f M = some r
  | 0, _, _, _, h => by cases h
  | n + 1, f, M, r, h => by
    have ih := am_run_more C n
    show am_rst (am_run C (n + 1)) M (C f.1 f.2.2.1 f M) = some r
    have h : am_rst (am_run C n) M (C f.1 f.2.2.1 f M) = some r := h
    revert h
    generalize C f.1 f.2.2.1 f M = w
    intro h
    match w, h with
    | .inl (p, f', M'), h =>
      simp only [am_rst] at h ⊢
      by_cases hp : am_sp p
      · rw [am_ite_t hp] at h ⊢; exact ih _ _ _ h
      · rw [am_ite_f hp] at h; cases h
    | .inr (.inl (p, c, f1, f2)), h =>
      simp only [am_rst] at h ⊢
      by_cases hp0 : am_sp p
      · rw [am_ite_t hp0] at h ⊢
        by_cases hp : c
        · rw [am_ite_t hp] at h ⊢; exact ih _ _ _ h
        · rw [am_ite_f hp] at h ⊢; exact ih _ _ _ h
      · rw [am_ite_f hp0] at h; cases h
    | .inr (.inr (.inl (x, cs, d))), h => exact ih _ _ _ h
    | .inr (.inr (.inr (.inl (p, as, f0, f1)))), h =>
      simp only [am_rst] at h ⊢
      by_cases hp : am_sp p
      · rw [am_ite_t hp] at h ⊢
        cases h0 : am_run C n f0 M with
        | none => rw [h0] at h; cases h
        | some q => rw [h0] at h; rw [ih _ _ _ h0]; exact ih _ _ _ h
      · rw [am_ite_f hp] at h; cases h
    | .inr (.inr (.inr (.inr (.inl (p, v))))), h => exact h
    | .inr (.inr (.inr (.inr (.inr _)))), h => exact h
theorem am_run_le {C : Nat → Nat → am_Op} {n k : Nat} (h : n ≤ k) {f : am_F} {M : am_M} {r : Option Value × am_M} (hr : am_run C n f M = some r) : am_run C k f M = some r := by
  induction h with
  | refl => exact hr
  | step _ ih => exact am_run_more C _ _ _ _ ih
theorem am_T_mono {C : Nat → Nat → am_Op} {f : am_F} {M : am_M} {K K' : Option Value → am_M → Prop} (h : am_T C f M K) (hk : ∀ v M', K v M' → K' v M') : am_T C f M K' := by
  obtain ⟨n, r, h1, h2⟩ := am_T_iff.mp h
  exact am_T_iff.mpr ⟨n, r, h1, hk _ _ h2⟩
theorem am_wst_T {C : Nat → Nat → am_Op} {inl : Nat → Bool} {rc : am_F → am_M → (Option Value → am_M → Prop) → Prop} (hrc : ∀ f M K, rc f M K → am_T C f M K) {f : am_F} {M : am_M} {K : Option Value → am_M → Prop} : ∀ w : am_Rs, C f.1 f.2.2.1 f M = w → am_wst C inl rc M K w → am_T C f M K
  | .inl (p, f', M'), e, h => by
    have h1 : am_sp p ∧ rc f' M' K := by cases p with
      | none => exact ⟨trivial, h⟩
      | some p => exact h
    obtain ⟨n, r, hr, hk⟩   := am_T_iff.mp (hrc _ _ _ h1.2)
    exact am_T_iff.mpr ⟨n + 1, r, by simp only [am_run, e, am_rst]; rw [am_ite_t h1.1]; exact hr, hk⟩
  | .inr (.inl (p, c, f1, f2)), e, h => by
    have h1 : am_sp p ∧ ((c → rc f1 M K) ∧ (¬ c → rc f2 M K)) := by cases p with
      | none => exact ⟨trivial, h⟩
      | some p => exact h
    obtain ⟨h0, h⟩ := h1
    by_cases hc : c
    · obtain ⟨n, r, hr, hk⟩ := am_T_iff.mp (hrc _ _ _ (h.1 hc))
      exact am_T_iff.mpr ⟨n + 1, r, by simp only [am_run, e, am_rst]; rw [am_ite_t h0, am_ite_t hc]; exact hr, hk⟩
    · obtain ⟨n, r, hr, hk⟩ := am_T_iff.mp (hrc _ _ _ (h.2 hc))
      exact am_T_iff.mpr ⟨n + 1, r, by simp only [am_run, e, am_rst]; rw [am_ite_t h0, am_ite_f hc]; exact hr, hk⟩
  | .inr (.inr (.inl (x, cs, d))), e, h => by
    have h1 : ∀ cs, am_wsw (fun f => rc f M K) x cs d → rc (am_swf x cs d) M K := by
      intro cs
      induction cs with
      | nil => exact fun h => h
      | cons q r ih =>
        intro h
        obtain ⟨k, f1⟩ := q
        by_cases hx : x = k
        · rw [show am_swf x ((k, f1) :: r) d = f1 by simp [am_swf, hx]]; exact h.1 hx
        · rw [show am_swf x ((k, f1) :: r) d = am_swf x r d by simp [am_swf, hx]]; exact ih (h.2 hx)
    obtain ⟨n, r, hr, hk⟩ := am_T_iff.mp (hrc _ _ _ (h1 cs h))
    exact am_T_iff.mpr ⟨n + 1, r, by simp only [am_run, e, am_rst]; exact hr, hk⟩
  | .inr (.inr (.inr (.inl (p, as, f0, f1)))), e, h => by
    have h1 : am_sp p ∧ am_T C f0 M (fun v M' => rc (am_push v f1) M' K) := by
      have key : (bif inl f0.1 then rc f0 M (fun v M' => rc (am_push v f1) M' K) else am_T C f0 M (fun v M' => rc (am_push v f1) M' K)) → am_T C f0 M (fun v M' => rc (am_push v f1) M' K) := by
        cases inl f0.1 with
        | true => exact fun q => hrc _ _ _ q
        | false => exact fun q => q
      cases p with
      | none => exact ⟨trivial, key h⟩
      | some p => exact ⟨h.1, key h.2⟩
    obtain ⟨hp, h1⟩ := h1
    obtain ⟨n, r, hr, hk⟩ := am_T_iff.mp h1
    obtain ⟨n2, r2, hr2, hk2⟩ := am_T_iff.mp (hrc _ _ _ hk)
    refine am_T_iff.mpr ⟨max n n2 + 1, r2, ?_, hk2⟩
    simp only [am_run, e, am_rst]
    rw [am_ite_t hp, am_run_le (Nat.le_max_left n n2) hr]
    exact am_run_le (Nat.le_max_right n n2) hr2
  | .inr (.inr (.inr (.inr (.inl (p, v))))), e, h => by
    have h1 : am_sp p ∧ K v M := by cases p with
      | none => exact ⟨trivial, h⟩
      | some p => exact h
    exact am_T_iff.mpr ⟨1, (v, M), by simp only [am_run, e, am_rst]; rw [am_ite_t h1.1], h1.2⟩
  | .inr (.inr (.inr (.inr (.inr _)))), _, h => h.elim
theorem am_wp_T {C : Nat → Nat → am_Op} {cut : Nat → Nat → Bool} {inl : Nat → Bool} : ∀ (n : Nat) (f : am_F) (M : am_M) (K : Option Value → am_M → Prop), am_wp C cut inl n f M K → am_T C f M K
  | 0, _, _, _, h => h
  | n + 1, f, M, K, h => by
    refine am_wst_T (rc := fun f M K => bif cut f.1 f.2.2.1 then am_T C f M K else am_wp C cut inl n f M K) (fun f M K q => ?_) _ rfl h
    revert q
    cases cut f.1 f.2.2.1 with
    | true => exact fun q => q
    | false => exact fun q => am_wp_T n f M K q
end AM1
