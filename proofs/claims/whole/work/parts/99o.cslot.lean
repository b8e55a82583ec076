/-! constructors: a slot -/
section T99o
variable {k : Nat → Nat × Nat} {I : Nat → Nat → Int32} {J : Nat → Nat → Int64} {T : Nat → Nat → Nat} {n s r : Nat} {K : Option Value → am_M → Prop}
theorem i_X4a (r0 : ¬ r = 0) (hr : k r = (4, 4)) (hK : am_T am_C (39, 1, 14, [.ref r], []) (k, am_up (am_up I r 0 0) r 1 0, J, T, n, s) K) : am_T am_C (39, 1, 0, [.ref r], []) (k, I, J, T, n, s) K := by
  refine am_wq_T (cut := fun z pc => (Nat.beq z 39 && Nat.beq pc 14)) (inl := fun _ => false) 120 _ _ _ ?_
  exact And.intro r0 (And.intro hr (And.intro hr hK))
theorem i_X4c (hn : 20 ≤ n) (hr : k r = (4, 4)) (hK : am_T am_C (33, 0, 0, [.ref n], []) (am_new (k, I, J, T, n, s) 3 3) (fun v M => v = none ∧ ∀ k' I' J' T' n' s', M = (k', I', J', T', n', s') → k' r = (4, 4) ∧ K none (k', I', J', am_up T' r 3 n, n', s'))) : am_T am_C (39, 1, 25, [.ref r], []) (k, I, J, T, n, s) K := by
  refine am_wq_T (cut := fun z pc => (Nat.beq z 39 && Nat.beq pc 2)) (inl := fun z => !(Nat.beq z 33)) 120 _ _ _ ?_
  refine And.intro (if_pos rfl) (am_T_mono hK fun v M h => ?_)
  obtain ⟨k', I', J', T', n', s'⟩ := M
  obtain ⟨rfl, h⟩ := h
  obtain ⟨h1, h2⟩ := h _ _ _ _ _ _ rfl
  exact And.intro ⟨h1, .inr hn⟩ h2
end T99o
