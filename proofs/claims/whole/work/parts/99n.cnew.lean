/-! constructors: the dealer -/
section T99n
variable {k : Nat → Nat × Nat} {I : Nat → Nat → Int32} {J : Nat → Nat → Int64} {T : Nat → Nat → Nat} {n s r : Nat} {K : Option Value → am_M → Prop}
/-- a new row, told by facts -/
theorem i_new {y : Nat × Nat} {len : Nat} {P : am_M → Prop} (h : ∀ k' I' J' T', k' n = y → (∀ a, a ≠ n → k' a = k a ∧ I' a = I a ∧ J' a = J a ∧ T' a = T a) → (∀ q, I' n q = 0) → (∀ q, J' n q = 0) → P (k', I', J', T', n + 1, s + len)) : P ((fun b => if b = n then y else k b), am_row I n (fun _ => 0), am_row J n (fun _ => 0), am_row T n (fun _ => 0), n + 1, s + len) :=
  h _ _ _ _ (if_pos rfl) (fun a ha => ⟨if_neg ha, funext fun _ => if_neg ha, funext fun _ => if_neg ha, funext fun _ => if_neg ha⟩) (fun _ => if_pos rfl) (fun _ => if_pos rfl)
/-- the same, over am_new -/
theorem i_newM {t len : Nat} {P : am_M → Prop} (h : ∀ k' I' J' T', k' n = (t, len) → (∀ a, a ≠ n → k' a = k a ∧ I' a = I a ∧ J' a = J a ∧ T' a = T a) → (∀ q, I' n q = 0) → (∀ q, J' n q = 0) → P (k', I', J', T', n + 1, s + len)) : P (am_new (k, I, J, T, n, s) t len) := i_new (y := (t, len)) h
end T99n
