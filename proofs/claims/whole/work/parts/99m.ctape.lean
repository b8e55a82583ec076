/-! constructors: the tape -/
section T99m
variable {k : Nat → Nat × Nat} {I : Nat → Nat → Int32} {J : Nat → Nat → Int64} {T : Nat → Nat → Nat} {n s r : Nat} {K : Option Value → am_M → Prop}
theorem i_X5 (r0 : ¬ r = 0) (hr : k r = (5, 11)) (hn : 20 ≤ n) (hrn : r < n) (hK : ∀ k' I' J' T', (∀ a, a ≠ n → a ≠ n + 1 → k' a = k a) → k' n = (20, 96) → k' (n + 1) = (20, 96) → (∀ a, a < n → a ≠ r → I' a = I a ∧ T' a = T a) → (∀ a, a < n → J' a = J a) → I' r 1 = 0 → T' r 0 = n → T' r 9 = n + 1 → K none (k', I', J', T', n + 1 + 1, s + 96 + 96)) : am_T am_C (40, 0, 0, [.ref r], []) (k, I, J, T, n, s) K := by
  obtain ⟨I1, e1⟩ : ∃ I1, I1 = am_up (am_up (am_up (am_up (am_up (am_up (am_up (am_up (am_row I n (fun _ => 0)) r 1 0) r 2 0) r 3 0) r 4 (-1)) r 5 0) r 6 0) r 7 0) r 8 0 := ⟨_, rfl⟩
  have a1 : ∀ a, a < n → a ≠ r → I1 a = I a := fun a h1 h2 => by
    rw [e1, up_off h2, up_off h2, up_off h2, up_off h2, up_off h2, up_off h2, up_off h2, up_off h2, row_off (by omega)]
  have a2 : I1 r 1 = 0 := by
    rw [e1, up_ne (by omega), up_ne (by omega), up_ne (by omega), up_ne (by omega), up_ne (by omega), up_ne (by omega), up_ne (by omega), up_eq]
  have kk := hK (fun b => if b = n + 1 then (20, 96) else if b = n then (20, 96) else k b) (am_up (am_row I1 (n + 1) (fun _ => 0)) r 10 0) (am_row (am_row J n (fun _ => 0)) (n + 1) (fun _ => 0)) (am_up (am_row (am_up (am_row T n (fun _ => 0)) r 0 n) (n + 1) (fun _ => 0)) r 9 (n + 1)) (fun a h1 h2 => (if_neg h2).trans (if_neg h1)) ((if_neg (by omega)).trans (if_pos rfl)) (if_pos rfl) (fun a h1 h2 => ⟨by rw [up_off h2, row_off (by omega)]; exact a1 a h1 h2, by
    rw [upT_off h2]
    refine (show am_row (am_up (am_row T n (fun _ => 0)) r 0 n) (n + 1) (fun _ => 0) a = am_up (am_row T n (fun _ => 0)) r 0 n a from funext fun _ => if_neg (by omega)).trans ?_
    rw [upT_off h2]
    exact funext fun _ => if_neg (by omega)⟩) (fun a h1 => (funext fun _ => if_neg (show ¬ a = n + 1 by omega) : am_row (am_row J n (fun _ => 0)) (n + 1) (fun _ => 0) a = am_row J n (fun _ => 0) a).trans (funext fun _ => if_neg (show ¬ a = n by omega))) (by rw [up_ne (by omega), row_off (by omega)]; exact a2) (by
    rw [upT_ne (by omega)]
    exact (if_neg (show ¬ r = n + 1 by omega)).trans (upT_eq ..)) (by rw [upT_eq])
  rw [e1] at kk
  have z1 : ¬ (96 : Int32) < 0 := by decide
  have z2 : (96 : Int32).toNatClampNeg ≤ 100000 := by decide
  have h2 : (if r = n then ((20, 96) : Nat × Nat) else k r) = (5, 11) := by rw [if_neg (by omega)]; exact hr
  have h3 : (if r = n + 1 then ((20, 96) : Nat × Nat) else if r = n then ((20, 96) : Nat × Nat) else k r) = (5, 11) := by rw [if_neg (by omega)]; exact h2
  have q2 : 20 ≤ n + 1 := by omega
  refine am_wq_T (cut := fun z pc => (Nat.beq z 40 && Nat.beq pc 2)) (inl := fun _ => false) 120 _ _ _ ?_
  exact And.intro r0 (And.intro ⟨z1, z2⟩ (And.intro ⟨h2, .inr hn⟩ (And.intro h2 (And.intro h2 (And.intro h2 (And.intro h2 (And.intro h2 (And.intro h2 (And.intro h2 (And.intro h2 (And.intro ⟨z1, z2⟩ (And.intro ⟨h3, .inr q2⟩ (And.intro h3 kk)))))))))))))
end T99m
