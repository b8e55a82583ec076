/-! the weakest condition once more: frames, numbers and memory are worked out at every step -/
section AM18
def am_lit (n : Nat) (k : Nat → Prop) : Prop := match n with
  | 0 => k 0
  | m + 1 => k (m + 1)
theorem am_lit_eq (n : Nat) (k : Nat → Prop) : am_lit n k = k n := by cases n <;> rfl
/-- a list's spine, worked out -/
def am_spn : List Value → (List Value → Prop) → Prop
  | [], k => k []
  | v :: r, k => am_spn r fun r => k (v :: r)
theorem am_spn_eq : ∀ (l : List Value) (k : List Value → Prop), am_spn l k = k l
  | [], _ => rfl
  | v :: r, k => by
    show am_spn r (fun r => k (v :: r)) = _
    rw [am_spn_eq r]
/-- a frame and a memory, worked out -/
def am_nrm (f : am_F) (M : am_M) (k : Nat → Nat → Nat → List Value → List Value → am_M → Prop) : Prop := match f, M with
  | (z, b, pc, l, st), (Kk, I, J, R, n, s) => am_lit z fun z => am_lit pc fun pc => am_spn l fun l => am_spn st fun st => k z b pc l st (Kk, I, J, R, n, s)
theorem am_nrm_eq (f : am_F) (M : am_M) (k : Nat → Nat → Nat → List Value → List Value → am_M → Prop) : am_nrm f M k = k f.1 f.2.1 f.2.2.1 f.2.2.2.1 f.2.2.2.2 M := by
  obtain ⟨z, b, pc, l, st⟩ := f
  obtain ⟨Kk, I, J, R, n, s⟩ := M
  simp only [am_nrm, am_lit_eq, am_spn_eq]
noncomputable def am_wsu (C : Nat → Nat → am_Op) (inl : Nat → Bool) (rc : am_F → am_M → (Option Value → am_M → Prop) → Prop) (M : am_M) (K : Option Value → am_M → Prop) : am_Rs → Prop
  | .inl (p, f, M') => am_sd p (rc f M' K)
  | .inr (.inl (p, c, f, g)) => am_sd p ((c → rc f M K) ∧ (¬ c → rc g M K))
  | .inr (.inr (.inl (x, cs, d))) => am_wsw (fun f => rc f M K) x cs d
  | .inr (.inr (.inr (.inl (p, _, (z, f0), f)))) => am_sd p (bif inl z then rc (z, f0) M (fun v M' => rc (am_push v f) M' K) else am_T C (z, f0) M (fun v M' => rc (am_push v f) M' K))
  | .inr (.inr (.inr (.inr (.inl (p, v))))) => am_sd p (K v M)
  | .inr (.inr (.inr (.inr (.inr _)))) => False
noncomputable def am_wq (C : Nat → Nat → am_Op) (cut : Nat → Nat → Bool) (inl : Nat → Bool) : Nat → am_F → am_M → (Option Value → am_M → Prop) → Prop
  | 0, f, M, K => am_T C f M K
  | n + 1, f, M, K => am_nrm f M fun z b pc l st M => am_wsu C inl (fun f M K => am_nrm f M fun z b pc l st M => bif cut z pc then am_T C (z, b, pc, l, st) M K else am_wq C cut inl n (z, b, pc, l, st) M K) M K (C z pc (z, b, pc, l, st) M)
theorem am_wsu_eq (C : Nat → Nat → am_Op) (inl : Nat → Bool) (rc : am_F → am_M → (Option Value → am_M → Prop) → Prop) (M : am_M) (K : Option Value → am_M → Prop) (w : am_Rs) : am_wsu C inl rc M K w = am_wst C inl rc M K w := by
  match w with
  | .inl (p, f, M') => rfl
  | .inr (.inl (p, c, f, g)) => rfl
  | .inr (.inr (.inl (x, cs, d))) => rfl
  | .inr (.inr (.inr (.inl (p, a, (z, f0), f)))) => rfl
  | .inr (.inr (.inr (.inr (.inl (p, v))))) => rfl
  | .inr (.inr (.inr (.inr (.inr _)))) => rfl
theorem am_wq_T {C : Nat → Nat → am_Op} {cut : Nat → Nat → Bool} {inl : Nat → Bool} : ∀ (n : Nat) (f : am_F) (M : am_M) (K : Option Value → am_M → Prop), am_wq C cut inl n f M K → am_T C f M K
  | 0, _, _, _, h => h
  | n + 1, f, M, K, h => by
    have h : am_nrm f M (fun z b pc l st M => am_wsu C inl (fun f M K => am_nrm f M fun z b pc l st M => bif cut z pc then am_T C (z, b, pc, l, st) M K else am_wq C cut inl n (z, b, pc, l, st) M K) M K (C z pc (z, b, pc, l, st) M)) := h
    rw [am_nrm_eq, am_wsu_eq] at h
    refine am_wst_T (rc := fun f M K => am_nrm f M fun z b pc l st M => bif cut z pc then am_T C (z, b, pc, l, st) M K else am_wq C cut inl n (z, b, pc, l, st) M K) (fun f M K q => ?_) _ rfl h
    rw [am_nrm_eq] at q
    revert q
    cases cut f.1 f.2.2.1 with
    | true => exact fun q => q
    | false => exact fun q => am_wq_T n f M K q
end AM18
