/-! constructors: lands (printed by wip/gen/gen99q.py) -/
section T99q
variable {k : Nat → Nat × Nat} {I : Nat → Nat → Int32} {J : Nat → Nat → Int64} {T : Nat → Nat → Nat} {s : Nat} {K : Option Value → am_M → Prop}
def p21_k (k : Nat → Nat × Nat) : Nat → Nat × Nat := (q_k (q_k (q_k (q_k (q_k k 22 (31, 10)) 23 (20, 6)) 24 (20, 6)) 25 (36, 14)) 26 (20, 3))
def p21_I (I : Nat → Nat → Int32) : Nat → Nat → Int32 := (am_up (am_up (am_up (am_up (am_up (am_up (am_up (am_up (am_up (q_I (am_up (q_I (am_up (q_I (q_I (am_up (q_I I 22) 21 1 0) 23) 24) 21 4 0) 25) 21 6 0) 26) 26 0 (-1)) 26 1 (-1)) 26 2 (-1)) 21 8 10) 21 9 120) 21 10 0) 21 11 0) 21 12 0) 21 13 1)
def p21_J (J : Nat → Nat → Int64) : Nat → Nat → Int64 := (q_J (q_J (q_J (q_J (q_J J 22) 23) 24) 25) 26)
def p21_T (T : Nat → Nat → Nat) : Nat → Nat → Nat := (am_up (q_T (am_up (q_T (am_up (q_T (am_up (q_T (am_up (q_T T 22) 21 0 22) 23) 21 2 23) 24) 21 3 24) 25) 21 5 25) 26) 21 7 26)
def g21_k (k : Nat → Nat × Nat) : Nat → Nat × Nat := h_k 10 (p21_k k) 27
def g21_I (I : Nat → Nat → Int32) : Nat → Nat → Int32 := h_I 10 (p21_I I) 27
def g21_J (J : Nat → Nat → Int64) : Nat → Nat → Int64 := h_J 10 (p21_J J) 27
def g21_T (T : Nat → Nat → Nat) : Nat → Nat → Nat := h_T 10 (p21_T T) 22 0 27
set_option maxRecDepth 8000 in
theorem f_X2_21 (hr : k 21 = (2, 14)) (hK : K none (g21_k k, g21_I I, g21_J J, g21_T T, 37, s + 10 + 6 + 6 + 14 + 3 + 5 * 10)) : am_T am_C (13, 1, 0, [.ref 21, .null], []) (k, I, J, T, 22, s) K := by
  have kk : am_T am_C (13, 1, 106, [.ref 21, .int (nI 0)], []) (p21_k k, p21_I I, p21_J J, p21_T T, 27, s + 10 + 6 + 6 + 14 + 3) K := f_X2l (of_decide_eq_true rfl) 10 0 22 (p21_k k) (p21_I I) (p21_J J) (p21_T T) 27 (s + 10 + 6 + 6 + 14 + 3) rfl (of_decide_eq_true rfl) (of_decide_eq_true rfl) (of_decide_eq_true rfl) (of_decide_eq_true rfl) hr rfl rfl hK
  refine am_wq_T (cut := fun z pc => (Nat.beq z 13 && Nat.beq pc 106)) (inl := fun _ => false) 120 _ _ _ ?_
  exact And.intro (of_decide_eq_true rfl) (And.intro ⟨of_decide_eq_true rfl, of_decide_eq_true rfl⟩ (And.intro ⟨hr, .inr (of_decide_eq_true rfl)⟩ (And.intro hr (And.intro ⟨of_decide_eq_true rfl, of_decide_eq_true rfl⟩ (And.intro ⟨hr, .inr (of_decide_eq_true rfl)⟩ (And.intro ⟨of_decide_eq_true rfl, of_decide_eq_true rfl⟩ (And.intro ⟨hr, .inr (of_decide_eq_true rfl)⟩ (And.intro hr (And.intro ⟨of_decide_eq_true rfl, of_decide_eq_true rfl⟩ (And.intro ⟨hr, .inr (of_decide_eq_true rfl)⟩ (And.intro hr (And.intro ⟨of_decide_eq_true rfl, of_decide_eq_true rfl⟩ (And.intro ⟨rfl, vpd rfl⟩ (And.intro ⟨rfl, vpd rfl⟩ (And.intro ⟨rfl, vpd rfl⟩ (And.intro ⟨hr, .inr (of_decide_eq_true rfl)⟩ (And.intro hr (And.intro hr (And.intro hr (And.intro hr (And.intro hr (And.intro hr kk))))))))))))))))))))))
def p37_k (k : Nat → Nat × Nat) : Nat → Nat × Nat := (q_k (q_k (q_k (q_k (q_k k 38 (31, 10)) 39 (20, 6)) 40 (20, 6)) 41 (36, 14)) 42 (20, 3))
def p37_I (I : Nat → Nat → Int32) : Nat → Nat → Int32 := (am_up (am_up (am_up (am_up (am_up (am_up (am_up (am_up (am_up (q_I (am_up (q_I (am_up (q_I (q_I (am_up (q_I I 38) 37 1 0) 39) 40) 37 4 0) 41) 37 6 0) 42) 42 0 (-1)) 42 1 (-1)) 42 2 (-1)) 37 8 10) 37 9 120) 37 10 0) 37 11 0) 37 12 0) 37 13 1)
def p37_J (J : Nat → Nat → Int64) : Nat → Nat → Int64 := (q_J (q_J (q_J (q_J (q_J J 38) 39) 40) 41) 42)
def p37_T (T : Nat → Nat → Nat) : Nat → Nat → Nat := (am_up (q_T (am_up (q_T (am_up (q_T (am_up (q_T (am_up (q_T T 38) 37 0 38) 39) 37 2 39) 40) 37 3 40) 41) 37 5 41) 42) 37 7 42)
def g37_k (k : Nat → Nat × Nat) : Nat → Nat × Nat := h_k 10 (p37_k k) 43
def g37_I (I : Nat → Nat → Int32) : Nat → Nat → Int32 := h_I 10 (p37_I I) 43
def g37_J (J : Nat → Nat → Int64) : Nat → Nat → Int64 := h_J 10 (p37_J J) 43
def g37_T (T : Nat → Nat → Nat) : Nat → Nat → Nat := h_T 10 (p37_T T) 38 0 43
set_option maxRecDepth 8000 in
theorem f_X2_37 (hr : k 37 = (2, 14)) (hK : K none (g37_k k, g37_I I, g37_J J, g37_T T, 53, s + 10 + 6 + 6 + 14 + 3 + 5 * 10)) : am_T am_C (13, 1, 0, [.ref 37, .null], []) (k, I, J, T, 38, s) K := by
  have kk : am_T am_C (13, 1, 106, [.ref 37, .int (nI 0)], []) (p37_k k, p37_I I, p37_J J, p37_T T, 43, s + 10 + 6 + 6 + 14 + 3) K := f_X2l (of_decide_eq_true rfl) 10 0 38 (p37_k k) (p37_I I) (p37_J J) (p37_T T) 43 (s + 10 + 6 + 6 + 14 + 3) rfl (of_decide_eq_true rfl) (of_decide_eq_true rfl) (of_decide_eq_true rfl) (of_decide_eq_true rfl) hr rfl rfl hK
  refine am_wq_T (cut := fun z pc => (Nat.beq z 13 && Nat.beq pc 106)) (inl := fun _ => false) 120 _ _ _ ?_
  exact And.intro (of_decide_eq_true rfl) (And.intro ⟨of_decide_eq_true rfl, of_decide_eq_true rfl⟩ (And.intro ⟨hr, .inr (of_decide_eq_true rfl)⟩ (And.intro hr (And.intro ⟨of_decide_eq_true rfl, of_decide_eq_true rfl⟩ (And.intro ⟨hr, .inr (of_decide_eq_true rfl)⟩ (And.intro ⟨of_decide_eq_true rfl, of_decide_eq_true rfl⟩ (And.intro ⟨hr, .inr (of_decide_eq_true rfl)⟩ (And.intro hr (And.intro ⟨of_decide_eq_true rfl, of_decide_eq_true rfl⟩ (And.intro ⟨hr, .inr (of_decide_eq_true rfl)⟩ (And.intro hr (And.intro ⟨of_decide_eq_true rfl, of_decide_eq_true rfl⟩ (And.intro ⟨rfl, vpd rfl⟩ (And.intro ⟨rfl, vpd rfl⟩ (And.intro ⟨rfl, vpd rfl⟩ (And.intro ⟨hr, .inr (of_decide_eq_true rfl)⟩ (And.intro hr (And.intro hr (And.intro hr (And.intro hr (And.intro hr (And.intro hr kk))))))))))))))))))))))
def p53_k (k : Nat → Nat × Nat) : Nat → Nat × Nat := (q_k (q_k (q_k (q_k (q_k k 54 (31, 10)) 55 (20, 6)) 56 (20, 6)) 57 (36, 14)) 58 (20, 3))
def p53_I (I : Nat → Nat → Int32) : Nat → Nat → Int32 := (am_up (am_up (am_up (am_up (am_up (am_up (am_up (am_up (am_up (q_I (am_up (q_I (am_up (q_I (q_I (am_up (q_I I 54) 53 1 0) 55) 56) 53 4 0) 57) 53 6 0) 58) 58 0 (-1)) 58 1 (-1)) 58 2 (-1)) 53 8 10) 53 9 120) 53 10 0) 53 11 0) 53 12 0) 53 13 1)
def p53_J (J : Nat → Nat → Int64) : Nat → Nat → Int64 := (q_J (q_J (q_J (q_J (q_J J 54) 55) 56) 57) 58)
def p53_T (T : Nat → Nat → Nat) : Nat → Nat → Nat := (am_up (q_T (am_up (q_T (am_up (q_T (am_up (q_T (am_up (q_T T 54) 53 0 54) 55) 53 2 55) 56) 53 3 56) 57) 53 5 57) 58) 53 7 58)
def g53_k (k : Nat → Nat × Nat) : Nat → Nat × Nat := h_k 10 (p53_k k) 59
def g53_I (I : Nat → Nat → Int32) : Nat → Nat → Int32 := h_I 10 (p53_I I) 59
def g53_J (J : Nat → Nat → Int64) : Nat → Nat → Int64 := h_J 10 (p53_J J) 59
def g53_T (T : Nat → Nat → Nat) : Nat → Nat → Nat := h_T 10 (p53_T T) 54 0 59
set_option maxRecDepth 8000 in
theorem f_X2_53 (hr : k 53 = (2, 14)) (hK : K none (g53_k k, g53_I I, g53_J J, g53_T T, 69, s + 10 + 6 + 6 + 14 + 3 + 5 * 10)) : am_T am_C (13, 1, 0, [.ref 53, .null], []) (k, I, J, T, 54, s) K := by
  have kk : am_T am_C (13, 1, 106, [.ref 53, .int (nI 0)], []) (p53_k k, p53_I I, p53_J J, p53_T T, 59, s + 10 + 6 + 6 + 14 + 3) K := f_X2l (of_decide_eq_true rfl) 10 0 54 (p53_k k) (p53_I I) (p53_J J) (p53_T T) 59 (s + 10 + 6 + 6 + 14 + 3) rfl (of_decide_eq_true rfl) (of_decide_eq_true rfl) (of_decide_eq_true rfl) (of_decide_eq_true rfl) hr rfl rfl hK
  refine am_wq_T (cut := fun z pc => (Nat.beq z 13 && Nat.beq pc 106)) (inl := fun _ => false) 120 _ _ _ ?_
  exact And.intro (of_decide_eq_true rfl) (And.intro ⟨of_decide_eq_true rfl, of_decide_eq_true rfl⟩ (And.intro ⟨hr, .inr (of_decide_eq_true rfl)⟩ (And.intro hr (And.intro ⟨of_decide_eq_true rfl, of_decide_eq_true rfl⟩ (And.intro ⟨hr, .inr (of_decide_eq_true rfl)⟩ (And.intro ⟨of_decide_eq_true rfl, of_decide_eq_true rfl⟩ (And.intro ⟨hr, .inr (of_decide_eq_true rfl)⟩ (And.intro hr (And.intro ⟨of_decide_eq_true rfl, of_decide_eq_true rfl⟩ (And.intro ⟨hr, .inr (of_decide_eq_true rfl)⟩ (And.intro hr (And.intro ⟨of_decide_eq_true rfl, of_decide_eq_true rfl⟩ (And.intro ⟨rfl, vpd rfl⟩ (And.intro ⟨rfl, vpd rfl⟩ (And.intro ⟨rfl, vpd rfl⟩ (And.intro ⟨hr, .inr (of_decide_eq_true rfl)⟩ (And.intro hr (And.intro hr (And.intro hr (And.intro hr (And.intro hr (And.intro hr kk))))))))))))))))))))))
def g69_k (k : Nat → Nat × Nat) : Nat → Nat × Nat := (q_k (q_k k 70 (24, 64)) 71 (24, 6))
def g69_I (I : Nat → Nat → Int32) : Nat → Nat → Int32 := (am_up (q_I (q_I I 70) 71) 69 2 0)
def g69_J (J : Nat → Nat → Int64) : Nat → Nat → Int64 := (am_up (q_J (q_J J 70) 71) 69 3 0)
def g69_T (T : Nat → Nat → Nat) : Nat → Nat → Nat := (am_up (q_T (am_up (q_T T 70) 69 0 70) 71) 69 1 71)
theorem f_X0 (hr : k 69 = (0, 4)) (hK : K none (g69_k k, g69_I I, g69_J J, g69_T T, 72, s + 64 + 6)) : am_T am_C (0, 0, 0, [.ref 69], []) (k, I, J, T, 70, s) K := by
  have kk : K none ((q_k (q_k k 70 (24, 64)) 71 (24, 6)), (am_up (q_I (q_I I 70) 71) 69 2 0), (am_up (q_J (q_J J 70) 71) 69 3 0), (am_up (q_T (am_up (q_T T 70) 69 0 70) 71) 69 1 71), 72, s + 64 + 6) := hK
  refine am_wq_T (cut := fun z pc => (Nat.beq z 0 && Nat.beq pc 2)) (inl := fun _ => false) 120 _ _ _ ?_
  exact And.intro (of_decide_eq_true rfl) (And.intro ⟨of_decide_eq_true rfl, of_decide_eq_true rfl⟩ (And.intro ⟨hr, .inr (of_decide_eq_true rfl)⟩ (And.intro ⟨of_decide_eq_true rfl, of_decide_eq_true rfl⟩ (And.intro ⟨hr, .inr (of_decide_eq_true rfl)⟩ (And.intro hr (And.intro hr kk))))))
def g20_k (k : Nat → Nat × Nat) : Nat → Nat × Nat := (q_k (q_k (q_k (q_k (q5k (q_k (g69_k (q_k (g53_k (q_k (g37_k (q_k (g21_k (q_k k 21 (2, 14))) 37 (2, 14))) 53 (2, 14))) 69 (0, 4))) 72 (5, 11)) 73) 75 (33, 4)) 76 (34, 5)) 77 (20, 60)) 78 (20, 10))
def g20_I (I : Nat → Nat → Int32) : Nat → Nat → Int32 := (q_I (am_up (q_I (q_I (q_I (q5I (q_I (g69_I (q_I (am_up (g53_I (q_I (g37_I (q_I (g21_I (q_I I 21)) 37)) 53)) 20 3 0) 69)) 72) 72 73) 75) 76) 77) 20 9 0) 78)
def g20_J (J : Nat → Nat → Int64) : Nat → Nat → Int64 := (q_J (q_J (q_J (q_J (q5J (q_J (g69_J (q_J (g53_J (q_J (g37_J (q_J (g21_J (q_J J 21)) 37)) 53)) 69)) 72) 73) 75) 76) 77) 78)
def g20_T (T : Nat → Nat → Nat) : Nat → Nat → Nat := (am_up (q_T (am_up (q_T (am_up (q_T (am_up (q_T (am_up (q5T (q_T (am_up (g69_T (q_T (am_up (g53_T (q_T (am_up (g37_T (q_T (am_up (g21_T (q_T T 21)) 20 0 21) 37)) 20 1 37) 53)) 20 2 53) 69)) 20 4 69) 72) 72 73) 20 5 72) 75) 20 6 75) 76) 20 7 76) 77) 20 8 77) 78) 20 10 78)
set_option maxRecDepth 20000 in
theorem f_X7a (hr : k 20 = (7, 11)) (hK : am_T am_C (61, 2, 103, [.ref 20, .int (nI 0)], []) (g20_k k, g20_I I, g20_J J, g20_T T, 79, s + 14 + 10 + 6 + 6 + 14 + 3 + 5 * 10 + 14 + 10 + 6 + 6 + 14 + 3 + 5 * 10 + 14 + 10 + 6 + 6 + 14 + 3 + 5 * 10 + 4 + 64 + 6 + 11 + 96 + 96 + 4 + 5 + 60 + 10) K) : am_T am_C (61, 2, 0, [.ref 20, .null], []) (k, I, J, T, 21, s) K := by
  refine am_wq_T (cut := fun z pc => (Nat.beq z 61 && Nat.beq pc 103)) (inl := fun z => !((Nat.beq z 13 || (Nat.beq z 0 || Nat.beq z 40)))) 120 _ _ _ ?_
  refine And.intro (of_decide_eq_true rfl) (And.intro rfl (f_X2_21 rfl ?_))
  refine And.intro ⟨hr, .inr (of_decide_eq_true rfl)⟩ (And.intro rfl (f_X2_37 rfl ?_))
  refine And.intro ⟨hr, .inr (of_decide_eq_true rfl)⟩ (And.intro rfl (f_X2_53 rfl ?_))
  refine And.intro ⟨hr, .inr (of_decide_eq_true rfl)⟩ (And.intro ⟨hr, .inl rfl⟩ (And.intro rfl (f_X0 rfl ?_)))
  refine And.intro ⟨hr, .inr (of_decide_eq_true rfl)⟩ (And.intro rfl (f_X5 (of_decide_eq_true rfl) rfl (of_decide_eq_true rfl) (of_decide_eq_true rfl) ?_))
  exact And.intro ⟨hr, .inr (of_decide_eq_true rfl)⟩ (And.intro ⟨of_decide_eq_true rfl, of_decide_eq_true rfl⟩ (And.intro ⟨hr, .inr (of_decide_eq_true rfl)⟩ (And.intro ⟨of_decide_eq_true rfl, of_decide_eq_true rfl⟩ (And.intro ⟨hr, .inr (of_decide_eq_true rfl)⟩ (And.intro ⟨of_decide_eq_true rfl, of_decide_eq_true rfl⟩ (And.intro ⟨hr, .inr (of_decide_eq_true rfl)⟩ (And.intro hr (And.intro ⟨of_decide_eq_true rfl, of_decide_eq_true rfl⟩ (And.intro ⟨hr, .inr (of_decide_eq_true rfl)⟩ hK)))))))))
def sx_k : Nat → (Nat → Nat × Nat) → Nat → Nat → Nat × Nat
  | 0, k, _ => k
  | j + 1, k, n => sx_k j (q_k (q_k k n (3, 3)) (n + 1) (20, 24)) (n + 1 + 1)
def sx_I : Nat → (Nat → Nat → Int32) → Nat → Nat → Nat → Int32
  | 0, I, _ => I
  | j + 1, I, n => sx_I j (q3I (q_I I n) n (n + 1)) (n + 1 + 1)
def sx_J : Nat → (Nat → Nat → Int64) → Nat → Nat → Nat → Int64
  | 0, J, _ => J
  | j + 1, J, n => sx_J j (q_J (q_J J n) (n + 1)) (n + 1 + 1)
def sx_T : Nat → (Nat → Nat → Nat) → Nat → Nat → Nat → Nat → Nat → Nat
  | 0, T, _, _, _ => T
  | j + 1, T, a, i, n => sx_T j (am_up (q3T (q_T T n) n (n + 1)) a i n) a (i + 1) (n + 1 + 1)
theorem f_X7s : ∀ (j i a : Nat) (k : Nat → Nat × Nat) (I : Nat → Nat → Int32) (J : Nat → Nat → Int64) (T : Nat → Nat → Nat) (n s : Nat), i + j = 4 → 20 < n → 20 < a → a < n → k 20 = (7, 11) → k a = (33, 4) → T 20 6 = a → am_T am_C (61, 2, 129, [.ref 20, .int (nI 0)], []) (sx_k j k n, sx_I j I n, sx_J j J n, sx_T j T a i n, n + 2 * j, s + 27 * j) K → am_T am_C (61, 2, 103, [.ref 20, .int (nI i)], []) (k, I, J, T, n, s) K
  | 0, i, a, k, I, J, T, n, s, e, _, _, _, _, _, _, hK => by
    have c : (4 : Int32) ≤ nI i := by rw [show i = 4 by omega]; decide
    have kk : am_T am_C (61, 2, 129, [.ref 20, .int (nI 0)], []) (k, I, J, T, n, s) K := hK
    refine am_wq_T (cut := fun z pc => (Nat.beq z 61 && Nat.beq pc 129)) (inl := fun _ => false) 120 _ _ _ ?_
    exact And.intro (fun _ => kk) (fun h => absurd c h)
  | j + 1, i, a, k, I, J, T, n, s, e, h20, ha20, han, hr, ha, hT, hK => by
    subst hT
    have c : ¬ (4 : Int32) ≤ nI i := Int32.not_le.mpr (show nI i < nI 4 from nI_lt (by omega) (by omega))
    have w : am_T am_C (61, 2, 129, [.ref 20, .int (nI 0)], []) (sx_k j (q_k (q_k k n (3, 3)) (n + 1) (20, 24)) (n + 1 + 1), sx_I j (q3I (q_I I n) n (n + 1)) (n + 1 + 1), sx_J j (q_J (q_J J n) (n + 1)) (n + 1 + 1), sx_T j (am_up (q3T (q_T T n) n (n + 1)) (T 20 6) i n) (T 20 6) (i + 1) (n + 1 + 1), n + 1 + 1 + 2 * j, s + 3 + 24 + 27 * j) K := by
      rw [show n + 1 + 1 + 2 * j = n + 2 * (j + 1) by omega, show s + 3 + 24 + 27 * j = s + 27 * (j + 1) by omega]
      exact hK
    have a1 : (q_k (q_k k n (3, 3)) (n + 1) (20, 24)) (T 20 6) = (33, 4) := ((qk_ne (by omega)).trans ((qk_ne (by omega)).trans ha))
    have a2 : (q_k (q_k k n (3, 3)) (n + 1) (20, 24)) n = (3, 3) := ((qk_ne (by omega)).trans qk_eq)
    have kk := f_X7s j (i + 1) (T 20 6) (q_k (q_k k n (3, 3)) (n + 1) (20, 24)) (q3I (q_I I n) n (n + 1)) (q_J (q_J J n) (n + 1)) (am_up (q3T (q_T T n) n (n + 1)) (T 20 6) i n) (n + 1 + 1) (s + 3 + 24) (by omega) (by omega) ha20 (by omega) ((qk_ne (by omega)).trans ((qk_ne (by omega)).trans hr)) a1 (by rw [upT_ne (by omega), show q3T (q_T T n) n (n + 1) 20 6 = T 20 6 from (upT_ne (by omega)).trans ((qT_ne (by omega)).trans (qT_ne (by omega)))]) w
    rw [nI_succ] at kk
    have kk2 : am_T am_C (61, 2, 103, [.ref 20, .int (nI i + 1)], []) ((q_k (q_k k n (3, 3)) (n + 1) (20, 24)), (q3I (q_I I n) n (n + 1)), (q_J (q_J J n) (n + 1)), am_up (q3T (q_T T n) n (n + 1)) (T 20 6) (nI i).toNatClampNeg n, n + 1 + 1, s + 3 + 24) K := by
      rw [nI_clamp (by omega)]
      exact kk
    have va : ((q_k (q_k k n (3, 3)) (n + 1) (20, 24)) (T 20 6)).1 = 33 ∧ vp_in (nI i) ((q_k (q_k k n (3, 3)) (n + 1) (20, 24)) (T 20 6)).2 ∧ (q_k (q_k k n (3, 3)) (n + 1) (20, 24)) n = (3, 3) := by
      rw [a1]
      exact ⟨rfl, vpl (by omega) (by decide), a2⟩
    have n0 : ¬ n = 0 := by omega
    have n1 : 20 ≤ n + 1 := by omega
    have n2 : n < n + 1 := by omega
    refine am_wq_T (cut := fun z pc => (Nat.beq z 61 && Nat.beq pc 103)) (inl := fun z => !(Nat.beq z 33)) 120 _ _ _ ?_
    exact And.intro (fun z => absurd z c) (fun _ => And.intro hr (And.intro (if_pos rfl) (f_X3 n0 (if_pos rfl) n1 n2 (And.intro va kk2))))
def tx_k : Nat → (Nat → Nat × Nat) → Nat → Nat → Nat × Nat
  | 0, k, _ => k
  | j + 1, k, n => tx_k j (q4k (q_k k n (4, 4)) (n + 1)) (n + 1 + 1 + 1 + 1)
def tx_I : Nat → (Nat → Nat → Int32) → Nat → Nat → Nat → Int32
  | 0, I, _ => I
  | j + 1, I, n => tx_I j (q4I (q_I I n) n (n + 1)) (n + 1 + 1 + 1 + 1)
def tx_J : Nat → (Nat → Nat → Int64) → Nat → Nat → Nat → Int64
  | 0, J, _ => J
  | j + 1, J, n => tx_J j (q4J (q_J J n) (n + 1)) (n + 1 + 1 + 1 + 1)
def tx_T : Nat → (Nat → Nat → Nat) → Nat → Nat → Nat → Nat → Nat → Nat
  | 0, T, _, _, _ => T
  | j + 1, T, a, i, n => tx_T j (am_up (q4T (q_T T n) n (n + 1)) a i n) a (i + 1) (n + 1 + 1 + 1 + 1)
theorem f_X7t : ∀ (j i a : Nat) (k : Nat → Nat × Nat) (I : Nat → Nat → Int32) (J : Nat → Nat → Int64) (T : Nat → Nat → Nat) (n s : Nat), i + j = 5 → 20 < n → 20 < a → a < n → k 20 = (7, 11) → k a = (34, 5) → T 20 7 = a → K none (tx_k j k n, tx_I j I n, tx_J j J n, tx_T j T a i n, n + 4 * j, s + 36 * j) → am_T am_C (61, 2, 129, [.ref 20, .int (nI i)], []) (k, I, J, T, n, s) K
  | 0, i, a, k, I, J, T, n, s, e, _, _, _, _, _, _, hK => by
    have c : (5 : Int32) ≤ nI i := by rw [show i = 5 by omega]; decide
    have kk : K none (k, I, J, T, n, s) := hK
    refine am_wq_T (cut := fun z pc => (Nat.beq z 61 && Nat.beq pc 2)) (inl := fun _ => false) 120 _ _ _ ?_
    exact And.intro (fun _ => kk) (fun h => absurd c h)
  | j + 1, i, a, k, I, J, T, n, s, e, h20, ha20, han, hr, ha, hT, hK => by
    subst hT
    have c : ¬ (5 : Int32) ≤ nI i := Int32.not_le.mpr (show nI i < nI 5 from nI_lt (by omega) (by omega))
    have w : K none (tx_k j (q4k (q_k k n (4, 4)) (n + 1)) (n + 1 + 1 + 1 + 1), tx_I j (q4I (q_I I n) n (n + 1)) (n + 1 + 1 + 1 + 1), tx_J j (q4J (q_J J n) (n + 1)) (n + 1 + 1 + 1 + 1), tx_T j (am_up (q4T (q_T T n) n (n + 1)) (T 20 7) i n) (T 20 7) (i + 1) (n + 1 + 1 + 1 + 1), n + 1 + 1 + 1 + 1 + 4 * j, s + 4 + 5 + 3 + 24 + 36 * j) := by
      rw [show n + 1 + 1 + 1 + 1 + 4 * j = n + 4 * (j + 1) by omega, show s + 4 + 5 + 3 + 24 + 36 * j = s + 36 * (j + 1) by omega]
      exact hK
    have a1 : (q4k (q_k k n (4, 4)) (n + 1)) (T 20 7) = (34, 5) := ((qk_ne (by omega)).trans ((qk_ne (by omega)).trans ((qk_ne (by omega)).trans ((qk_ne (by omega)).trans ha))))
    have a2 : (q4k (q_k k n (4, 4)) (n + 1)) n = (4, 4) := ((qk_ne (by omega)).trans ((qk_ne (by omega)).trans ((qk_ne (by omega)).trans qk_eq)))
    have kk := f_X7t j (i + 1) (T 20 7) (q4k (q_k k n (4, 4)) (n + 1)) (q4I (q_I I n) n (n + 1)) (q4J (q_J J n) (n + 1)) (am_up (q4T (q_T T n) n (n + 1)) (T 20 7) i n) (n + 1 + 1 + 1 + 1) (s + 4 + 5 + 3 + 24) (by omega) (by omega) ha20 (by omega) ((qk_ne (by omega)).trans ((qk_ne (by omega)).trans ((qk_ne (by omega)).trans ((qk_ne (by omega)).trans hr)))) a1 (by rw [upT_ne (by omega), show q4T (q_T T n) n (n + 1) 20 7 = T 20 7 from (upT_ne (by omega)).trans ((upT_ne (by omega)).trans ((qT_ne (by omega)).trans ((qT_ne (by omega)).trans ((upT_ne (by omega)).trans ((qT_ne (by omega)).trans (qT_ne (by omega)))))))]) w
    rw [nI_succ] at kk
    have kk2 : am_T am_C (61, 2, 129, [.ref 20, .int (nI i + 1)], []) ((q4k (q_k k n (4, 4)) (n + 1)), (q4I (q_I I n) n (n + 1)), (q4J (q_J J n) (n + 1)), am_up (q4T (q_T T n) n (n + 1)) (T 20 7) (nI i).toNatClampNeg n, n + 1 + 1 + 1 + 1, s + 4 + 5 + 3 + 24) K := by
      rw [nI_clamp (by omega)]
      exact kk
    have va : ((q4k (q_k k n (4, 4)) (n + 1)) (T 20 7)).1 = 34 ∧ vp_in (nI i) ((q4k (q_k k n (4, 4)) (n + 1)) (T 20 7)).2 ∧ (q4k (q_k k n (4, 4)) (n + 1)) n = (4, 4) := by
      rw [a1]
      exact ⟨rfl, vpl (by omega) (by decide), a2⟩
    have n0 : ¬ n = 0 := by omega
    have n1 : 20 ≤ n + 1 := by omega
    have n2 : n < n + 1 := by omega
    refine am_wq_T (cut := fun z pc => (Nat.beq z 61 && Nat.beq pc 129)) (inl := fun z => !(Nat.beq z 39)) 120 _ _ _ ?_
    exact And.intro (fun z => absurd z c) (fun _ => And.intro hr (And.intro (if_pos rfl) (f_X4 n0 (if_pos rfl) n1 n2 (And.intro va kk2))))
def w20_k (k : Nat → Nat × Nat) : Nat → Nat × Nat := sx_k 4 (g20_k k) 79
def v20_k (k : Nat → Nat × Nat) : Nat → Nat × Nat := tx_k 5 (w20_k k) 87
def w20_I (I : Nat → Nat → Int32) : Nat → Nat → Int32 := sx_I 4 (g20_I I) 79
def v20_I (I : Nat → Nat → Int32) : Nat → Nat → Int32 := tx_I 5 (w20_I I) 87
def w20_J (J : Nat → Nat → Int64) : Nat → Nat → Int64 := sx_J 4 (g20_J J) 79
def v20_J (J : Nat → Nat → Int64) : Nat → Nat → Int64 := tx_J 5 (w20_J J) 87
def w20_T (T : Nat → Nat → Nat) : Nat → Nat → Nat := sx_T 4 (g20_T T) 75 0 79
def v20_T (T : Nat → Nat → Nat) : Nat → Nat → Nat := tx_T 5 (w20_T T) 76 0 87
set_option maxRecDepth 20000 in
theorem f_X7 (hr : k 20 = (7, 11)) (hK : K none (v20_k k, v20_I I, v20_J J, v20_T T, 107, s + 14 + 10 + 6 + 6 + 14 + 3 + 5 * 10 + 14 + 10 + 6 + 6 + 14 + 3 + 5 * 10 + 14 + 10 + 6 + 6 + 14 + 3 + 5 * 10 + 4 + 64 + 6 + 11 + 96 + 96 + 4 + 5 + 60 + 10 + 27 * 4 + 36 * 5)) : am_T am_C (61, 2, 0, [.ref 20, .null], []) (k, I, J, T, 21, s) K :=
  f_X7a hr (f_X7s 4 0 75 (g20_k k) (g20_I I) (g20_J J) (g20_T T) 79 (s + 14 + 10 + 6 + 6 + 14 + 3 + 5 * 10 + 14 + 10 + 6 + 6 + 14 + 3 + 5 * 10 + 14 + 10 + 6 + 6 + 14 + 3 + 5 * 10 + 4 + 64 + 6 + 11 + 96 + 96 + 4 + 5 + 60 + 10) rfl (of_decide_eq_true rfl) (of_decide_eq_true rfl) (of_decide_eq_true rfl) hr rfl rfl (f_X7t 5 0 76 (w20_k k) (w20_I I) (w20_J J) (w20_T T) 87 (s + 14 + 10 + 6 + 6 + 14 + 3 + 5 * 10 + 14 + 10 + 6 + 6 + 14 + 3 + 5 * 10 + 14 + 10 + 6 + 6 + 14 + 3 + 5 * 10 + 4 + 64 + 6 + 11 + 96 + 96 + 4 + 5 + 60 + 10 + 27 * 4) rfl (of_decide_eq_true rfl) (of_decide_eq_true rfl) (of_decide_eq_true rfl) hr rfl rfl hK))
end T99q
