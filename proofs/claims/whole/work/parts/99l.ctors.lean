/-! constructors, over raw memories -/
section T99l
variable {k : Nat → Nat × Nat} {I : Nat → Nat → Int32} {J : Nat → Nat → Int64} {T : Nat → Nat → Nat} {n s r : Nat} {K : Option Value → am_M → Prop}
theorem i_X1 (r0 : ¬ r = 0) (hr : k r = (1, 5)) (hK : ∀ I', (∀ a, a ≠ r → I' a = I a) → (∀ q, q < 5 → I' r q = 0) → K none (k, I', J, T, n, s)) : am_T am_C (6, 0, 0, [.ref r], []) (k, I, J, T, n, s) K := by
  have kk := hK (am_up (am_up (am_up (am_up (am_up I r 0 0) r 1 0) r 2 0) r 3 0) r 4 0) (fun a ha => by rw [up_off ha, up_off ha, up_off ha, up_off ha, up_off ha]) (fun q hq => by
    rcases (by omega : q = 0 ∨ q = 1 ∨ q = 2 ∨ q = 3 ∨ q = 4) with e | e | e | e | e
    · subst e; rw [up_ne (by omega), up_ne (by omega), up_ne (by omega), up_ne (by omega), up_eq]
    · subst e; rw [up_ne (by omega), up_ne (by omega), up_ne (by omega), up_eq]
    · subst e; rw [up_ne (by omega), up_ne (by omega), up_eq]
    · subst e; rw [up_ne (by omega), up_eq]
    · subst e; rw [up_eq])
  refine am_wq_T (cut := fun z pc => (Nat.beq z 6 && Nat.beq pc 2)) (inl := fun _ => false) 120 _ _ _ ?_
  exact And.intro r0 (And.intro hr (And.intro hr (And.intro hr (And.intro hr (And.intro hr kk)))))
theorem i_X3 (r0 : ¬ r = 0) (hr : k r = (3, 3)) (hn : 20 ≤ n) (hrn : r < n) (hK : ∀ k' I' J' T', (∀ a, a ≠ n → k' a = k a) → k' n = (20, 24) → (∀ a, a ≠ n → a ≠ r → I' a = I a ∧ T' a = T a) → (∀ a, a ≠ n → J' a = J a) → I' r 0 = -1 → I' r 1 = 0 → T' r 2 = n → (∀ q, I' n q = 0) → K none (k', I', J', T', n + 1, s + 24)) : am_T am_C (33, 0, 0, [.ref r], []) (k, I, J, T, n, s) K := by
  have kk := hK (fun b => if b = n then (20, 24) else k b) (am_row (am_up (am_up I r 0 (-1)) r 1 0) n (fun _ => 0)) (am_row J n (fun _ => 0)) (am_up (am_row T n (fun _ => 0)) r 2 n) (fun a ha => if_neg ha) (if_pos rfl) (fun a a1 a2 => ⟨by rw [row_off a1, up_off a2, up_off a2], by
    rw [upT_off a2]
    exact funext fun _ => if_neg a1⟩) (fun a a1 => funext fun _ => if_neg a1) (by rw [row_off (by omega), up_ne (by omega), up_eq]) (by rw [row_off (by omega), up_eq]) (by rw [upT_eq]) (fun q => by rw [row_eq])
  have z1 : ¬ (24 : Int32) < 0 := by decide
  have z2 : (24 : Int32).toNatClampNeg ≤ 100000 := by decide
  have hr2 : (if r = n then ((20, 24) : Nat × Nat) else k r) = (3, 3) := by rw [if_neg (by omega)]; exact hr
  refine am_wq_T (cut := fun z pc => (Nat.beq z 33 && Nat.beq pc 2)) (inl := fun _ => false) 120 _ _ _ ?_
  exact And.intro r0 (And.intro hr (And.intro hr (And.intro ⟨z1, z2⟩ (And.intro ⟨hr2, .inr hn⟩ kk))))
end T99l
