/-! constructors, told by the memory that they leave -/
section T99p
variable {k : Nat → Nat × Nat} {I : Nat → Nat → Int32} {J : Nat → Nat → Int64} {T : Nat → Nat → Nat} {n s r : Nat} {K : Option Value → am_M → Prop}
abbrev q_k (f : Nat → Nat × Nat) (x : Nat) (y : Nat × Nat) : Nat → Nat × Nat := fun b => if b = x then y else f b
abbrev q_I (f : Nat → Nat → Int32) (x : Nat) : Nat → Nat → Int32 := am_row f x (fun _ => 0)
abbrev q_J (f : Nat → Nat → Int64) (x : Nat) : Nat → Nat → Int64 := am_row f x (fun _ => 0)
abbrev q_T (f : Nat → Nat → Nat) (x : Nat) : Nat → Nat → Nat := am_row f x (fun _ => 0)
theorem qk_ne {f : Nat → Nat × Nat} {x b : Nat} {y : Nat × Nat} (h : b ≠ x) : q_k f x y b = f b := if_neg h
theorem qk_eq {f : Nat → Nat × Nat} {x : Nat} {y : Nat × Nat} : q_k f x y x = y := if_pos rfl
theorem qT_ne {f : Nat → Nat → Nat} {x b j : Nat} (h : b ≠ x) : q_T f x b j = f b j := if_neg h
def q1I (I : Nat → Nat → Int32) (r : Nat) : Nat → Nat → Int32 := am_up (am_up (am_up (am_up (am_up I r 0 0) r 1 0) r 2 0) r 3 0) r 4 0
theorem f_X1 (r0 : ¬ r = 0) (hr : k r = (1, 5)) (hK : K none (k, q1I I r, J, T, n, s)) : am_T am_C (6, 0, 0, [.ref r], []) (k, I, J, T, n, s) K := by
  have kk : K none (k, am_up (am_up (am_up (am_up (am_up I r 0 0) r 1 0) r 2 0) r 3 0) r 4 0, J, T, n, s) := hK
  refine am_wq_T (cut := fun z pc => (Nat.beq z 6 && Nat.beq pc 2)) (inl := fun _ => false) 120 _ _ _ ?_
  exact And.intro r0 (And.intro hr (And.intro hr (And.intro hr (And.intro hr (And.intro hr kk)))))
def q3I (I : Nat → Nat → Int32) (r n : Nat) : Nat → Nat → Int32 := q_I (am_up (am_up I r 0 (-1)) r 1 0) n
def q3T (T : Nat → Nat → Nat) (r n : Nat) : Nat → Nat → Nat := am_up (q_T T n) r 2 n
theorem f_X3 (r0 : ¬ r = 0) (hr : k r = (3, 3)) (hn : 20 ≤ n) (hrn : r < n) (hK : K none (q_k k n (20, 24), q3I I r n, q_J J n, q3T T r n, n + 1, s + 24)) : am_T am_C (33, 0, 0, [.ref r], []) (k, I, J, T, n, s) K := by
  have kk : K none (q_k k n (20, 24), q_I (am_up (am_up I r 0 (-1)) r 1 0) n, q_J J n, am_up (q_T T n) r 2 n, n + 1, s + 24) := hK
  have z1 : ¬ (24 : Int32) < 0 := by decide
  have z2 : (24 : Int32).toNatClampNeg ≤ 100000 := by decide
  have hr2 : q_k k n (20, 24) r = (3, 3) := (qk_ne (by omega)).trans hr
  refine am_wq_T (cut := fun z pc => (Nat.beq z 33 && Nat.beq pc 2)) (inl := fun _ => false) 120 _ _ _ ?_
  exact And.intro r0 (And.intro hr (And.intro hr (And.intro ⟨z1, z2⟩ (And.intro ⟨hr2, .inr hn⟩ kk))))
def q4k (k : Nat → Nat × Nat) (n : Nat) : Nat → Nat × Nat := q_k (q_k (q_k k n (1, 5)) (n + 1) (3, 3)) (n + 1 + 1) (20, 24)
def q4I (I : Nat → Nat → Int32) (r n : Nat) : Nat → Nat → Int32 := q3I (q_I (q1I (q_I (am_up (am_up I r 0 0) r 1 0) n) n) (n + 1)) (n + 1) (n + 1 + 1)
def q4J (J : Nat → Nat → Int64) (n : Nat) : Nat → Nat → Int64 := q_J (q_J (q_J J n) (n + 1)) (n + 1 + 1)
def q4T (T : Nat → Nat → Nat) (r n : Nat) : Nat → Nat → Nat := am_up (q3T (q_T (am_up (q_T T n) r 2 n) (n + 1)) (n + 1) (n + 1 + 1)) r 3 (n + 1)
theorem f_X4 (r0 : ¬ r = 0) (hr : k r = (4, 4)) (hn : 20 ≤ n) (hrn : r < n) (hK : K none (q4k k n, q4I I r n, q4J J n, q4T T r n, n + 1 + 1 + 1, s + 5 + 3 + 24)) : am_T am_C (39, 1, 0, [.ref r], []) (k, I, J, T, n, s) K := by
  have h1 : q_k k n (1, 5) r = (4, 4) := (qk_ne (by omega)).trans hr
  have h2 : q_k (q_k k n (1, 5)) (n + 1) (3, 3) r = (4, 4) := (qk_ne (by omega)).trans h1
  have h3 : q_k (q_k (q_k k n (1, 5)) (n + 1) (3, 3)) (n + 1 + 1) (20, 24) r = (4, 4) := (qk_ne (by omega)).trans h2
  have n0 : ¬ n = 0 := by omega
  have n1 : ¬ n + 1 = 0 := by omega
  have n2 : 20 ≤ n + 1 := by omega
  have n3 : 20 ≤ n + 1 + 1 := by omega
  have n4 : n + 1 < n + 1 + 1 := by omega
  refine am_wq_T (cut := fun z pc => (Nat.beq z 39 && Nat.beq pc 2)) (inl := fun z => !((Nat.beq z 6 || Nat.beq z 33))) 120 _ _ _ ?_
  refine And.intro r0 (And.intro hr (And.intro hr (And.intro (if_pos rfl) (f_X1 n0 (if_pos rfl) ?_))))
  refine And.intro ⟨h1, .inr hn⟩ (And.intro (if_pos rfl) (f_X3 n1 (if_pos rfl) n3 n4 ?_))
  exact And.intro ⟨h3, .inr n2⟩ hK
def q5k (k : Nat → Nat × Nat) (n : Nat) : Nat → Nat × Nat := q_k (q_k k n (20, 96)) (n + 1) (20, 96)
def q5I (I : Nat → Nat → Int32) (r n : Nat) : Nat → Nat → Int32 := am_up (q_I (am_up (am_up (am_up (am_up (am_up (am_up (am_up (am_up (q_I I n) r 1 0) r 2 0) r 3 0) r 4 (-1)) r 5 0) r 6 0) r 7 0) r 8 0) (n + 1)) r 10 0
def q5J (J : Nat → Nat → Int64) (n : Nat) : Nat → Nat → Int64 := q_J (q_J J n) (n + 1)
def q5T (T : Nat → Nat → Nat) (r n : Nat) : Nat → Nat → Nat := am_up (q_T (am_up (q_T T n) r 0 n) (n + 1)) r 9 (n + 1)
theorem f_X5 (r0 : ¬ r = 0) (hr : k r = (5, 11)) (hn : 20 ≤ n) (hrn : r < n) (hK : K none (q5k k n, q5I I r n, q5J J n, q5T T r n, n + 1 + 1, s + 96 + 96)) : am_T am_C (40, 0, 0, [.ref r], []) (k, I, J, T, n, s) K := by
  have kk : K none (q_k (q_k k n (20, 96)) (n + 1) (20, 96), am_up (q_I (am_up (am_up (am_up (am_up (am_up (am_up (am_up (am_up (q_I I n) r 1 0) r 2 0) r 3 0) r 4 (-1)) r 5 0) r 6 0) r 7 0) r 8 0) (n + 1)) r 10 0, q_J (q_J J n) (n + 1), am_up (q_T (am_up (q_T T n) r 0 n) (n + 1)) r 9 (n + 1), n + 1 + 1, s + 96 + 96) := hK
  have z1 : ¬ (96 : Int32) < 0 := by decide
  have z2 : (96 : Int32).toNatClampNeg ≤ 100000 := by decide
  have h2 : q_k k n (20, 96) r = (5, 11) := (qk_ne (by omega)).trans hr
  have h3 : q_k (q_k k n (20, 96)) (n + 1) (20, 96) r = (5, 11) := (qk_ne (by omega)).trans h2
  have q2 : 20 ≤ n + 1 := by omega
  refine am_wq_T (cut := fun z pc => (Nat.beq z 40 && Nat.beq pc 2)) (inl := fun _ => false) 120 _ _ _ ?_
  exact And.intro r0 (And.intro ⟨z1, z2⟩ (And.intro ⟨h2, .inr hn⟩ (And.intro h2 (And.intro h2 (And.intro h2 (And.intro h2 (And.intro h2 (And.intro h2 (And.intro h2 (And.intro h2 (And.intro ⟨z1, z2⟩ (And.intro ⟨h3, .inr q2⟩ (And.intro h3 kk)))))))))))))
/-- j holes more -/
def h_k : Nat → (Nat → Nat × Nat) → Nat → Nat → Nat × Nat
  | 0, k, _ => k
  | j + 1, k, n => h_k j (q_k k n (1, 5)) (n + 1)
def h_I : Nat → (Nat → Nat → Int32) → Nat → Nat → Nat → Int32
  | 0, I, _ => I
  | j + 1, I, n => h_I j (q1I (q_I I n) n) (n + 1)
def h_J : Nat → (Nat → Nat → Int64) → Nat → Nat → Nat → Int64
  | 0, J, _ => J
  | j + 1, J, n => h_J j (q_J J n) (n + 1)
def h_T : Nat → (Nat → Nat → Nat) → Nat → Nat → Nat → Nat → Nat → Nat
  | 0, T, _, _, _ => T
  | j + 1, T, a, i, n => h_T j (am_up (q_T T n) a i n) a (i + 1) (n + 1)
theorem f_X2l {r : Nat} (h20 : 20 ≤ r) : ∀ (j i a : Nat) (k : Nat → Nat × Nat) (I : Nat → Nat → Int32) (J : Nat → Nat → Int64) (T : Nat → Nat → Nat) (n s : Nat), i + j = 10 → r < n → 20 ≤ a → a < n → r ≠ a → k r = (2, 14) → k a = (31, 10) → T r 0 = a → K none (h_k j k n, h_I j I n, h_J j J n, h_T j T a i n, n + j, s + 5 * j) → am_T am_C (13, 1, 106, [.ref r, .int (nI i)], []) (k, I, J, T, n, s) K
  | 0, i, a, k, I, J, T, n, s, e, _, _, _, _, _, _, _, hK => by
    have c : (10 : Int32) ≤ nI i := by rw [show i = 10 by omega]; decide
    have kk : K none (k, I, J, T, n, s) := hK
    refine am_wq_T (cut := fun z pc => (Nat.beq z 13 && Nat.beq pc 2)) (inl := fun _ => false) 120 _ _ _ ?_
    exact And.intro (fun _ => kk) (fun h => absurd c h)
  | j + 1, i, a, k, I, J, T, n, s, e, hrn, ha20, han, hra, hr, ha, hT, hK => by
    subst hT
    have c : ¬ (10 : Int32) ≤ nI i := Int32.not_le.mpr (show nI i < nI 10 from nI_lt (by omega) (by omega))
    have w : K none (h_k j (q_k k n (1, 5)) (n + 1), h_I j (q1I (q_I I n) n) (n + 1), h_J j (q_J J n) (n + 1), h_T j (am_up (q_T T n) (T r 0) i n) (T r 0) (i + 1) (n + 1), n + 1 + j, s + 5 + 5 * j) := by
      rw [show n + 1 + j = n + (j + 1) by omega, show s + 5 + 5 * j = s + 5 * (j + 1) by omega]
      exact hK
    have a1 : q_k k n (1, 5) (T r 0) = (31, 10) := (qk_ne (by omega)).trans ha
    have kk := f_X2l h20 j (i + 1) (T r 0) (q_k k n (1, 5)) (q1I (q_I I n) n) (q_J J n) (am_up (q_T T n) (T r 0) i n) (n + 1) (s + 5) (by omega) (by omega) ha20 (by omega) hra ((qk_ne (by omega)).trans hr) a1 (by rw [upT_ne (by omega), qT_ne (by omega)]) w
    rw [nI_succ] at kk
    have kk2 : am_T am_C (13, 1, 106, [.ref r, .int (nI i + 1)], []) (q_k k n (1, 5), q1I (q_I I n) n, q_J J n, am_up (q_T T n) (T r 0) (nI i).toNatClampNeg n, n + 1, s + 5) K := by
      rw [nI_clamp (by omega)]
      exact kk
    have va : (q_k k n (1, 5) (T r 0)).1 = 31 ∧ vp_in (nI i) (q_k k n (1, 5) (T r 0)).2 ∧ q_k k n (1, 5) n = (1, 5) := by
      rw [a1]
      exact ⟨rfl, vpl (by omega) (by decide), qk_eq⟩
    have n0 : ¬ n = 0 := by omega
    refine am_wq_T (cut := fun z pc => (Nat.beq z 13 && Nat.beq pc 106)) (inl := fun z => !(Nat.beq z 6)) 120 _ _ _ ?_
    exact And.intro (fun z => absurd z c) (fun _ => And.intro hr (And.intro (if_pos rfl) (f_X1 n0 (if_pos rfl) (And.intro va kk2))))
end T99p
