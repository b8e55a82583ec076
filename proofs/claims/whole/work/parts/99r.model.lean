/-! constructors: the reference; the law up to its loop (printed by wip/gen/gen99q.py) -/
section T99r
variable {k : Nat → Nat × Nat} {I : Nat → Nat → Int32} {J : Nat → Nat → Int64} {T : Nat → Nat → Nat} {s : Nat} {K : Option Value → am_M → Prop}
def x0_k (k : Nat → Nat × Nat) : Nat → Nat × Nat := (q_k (q_k (q_k k 108 (20, 1448)) 109 (20, 1448)) 110 (20, 1448))
def x0_I (I : Nat → Nat → Int32) : Nat → Nat → Int32 := (q_I (q_I (q_I I 108) 109) 110)
def x0_J (J : Nat → Nat → Int64) : Nat → Nat → Int64 := (q_J (q_J (q_J J 108) 109) 110)
def x0_T (T : Nat → Nat → Nat) : Nat → Nat → Nat := (am_up (q_T (am_up (q_T (am_up (q_T T 108) 107 0 108) 109) 107 1 109) 110) 107 2 110)
set_option maxRecDepth 8000 in
theorem f_X8_0 (hr : k 107 = (8, 38)) (hK : am_T am_C (112, 0, 31, [.ref 107], []) (x0_k k, x0_I I, x0_J J, x0_T T, 111, s + 1448 + 1448 + 1448) K) : am_T am_C (112, 0, 0, [.ref 107], []) (k, I, J, T, 108, s) K := by
  refine am_wq_T (cut := fun z pc => (Nat.beq z 112 && Nat.beq pc 31)) (inl := fun _ => false) 120 _ _ _ ?_
  exact And.intro (of_decide_eq_true rfl) (And.intro ⟨of_decide_eq_true rfl, of_decide_eq_true rfl⟩ (And.intro ⟨hr, .inr (of_decide_eq_true rfl)⟩ (And.intro ⟨of_decide_eq_true rfl, of_decide_eq_true rfl⟩ (And.intro ⟨hr, .inr (of_decide_eq_true rfl)⟩ (And.intro ⟨of_decide_eq_true rfl, of_decide_eq_true rfl⟩ (And.intro ⟨hr, .inr (of_decide_eq_true rfl)⟩ hK))))))
def x1_k (k : Nat → Nat × Nat) : Nat → Nat × Nat := (q_k (q_k (q_k (q_k k 111 (20, 11)) 112 (21, 11)) 113 (20, 7168)) 114 (20, 6))
def x1_I (I : Nat → Nat → Int32) : Nat → Nat → Int32 := (q_I (q_I (q_I (q_I I 111) 112) 113) 114)
def x1_J (J : Nat → Nat → Int64) : Nat → Nat → Int64 := (q_J (q_J (q_J (q_J J 111) 112) 113) 114)
def x1_T (T : Nat → Nat → Nat) : Nat → Nat → Nat := (am_up (q_T (am_up (q_T (am_up (q_T (am_up (q_T T 111) 107 4 111) 112) 107 5 112) 113) 107 6 113) 114) 107 7 114)
set_option maxRecDepth 8000 in
theorem f_X8_1 (hr : k 107 = (8, 38)) (hK : am_T am_C (112, 0, 64, [.ref 107], []) (x1_k k, x1_I I, x1_J J, x1_T T, 115, s + 11 + 11 + 7168 + 6) K) : am_T am_C (112, 0, 31, [.ref 107], []) (k, I, J, T, 111, s) K := by
  refine am_wq_T (cut := fun z pc => (Nat.beq z 112 && Nat.beq pc 64)) (inl := fun _ => false) 120 _ _ _ ?_
  exact And.intro ⟨of_decide_eq_true rfl, of_decide_eq_true rfl⟩ (And.intro ⟨hr, .inr (of_decide_eq_true rfl)⟩ (And.intro ⟨of_decide_eq_true rfl, of_decide_eq_true rfl⟩ (And.intro ⟨hr, .inr (of_decide_eq_true rfl)⟩ (And.intro ⟨of_decide_eq_true rfl, of_decide_eq_true rfl⟩ (And.intro ⟨hr, .inr (of_decide_eq_true rfl)⟩ (And.intro ⟨of_decide_eq_true rfl, of_decide_eq_true rfl⟩ (And.intro ⟨hr, .inr (of_decide_eq_true rfl)⟩ hK)))))))
def x2_k (k : Nat → Nat × Nat) : Nat → Nat × Nat := (q_k (q_k (q_k k 115 (20, 76)) 116 (24, 10)) 117 (20, 96))
def x2_I (I : Nat → Nat → Int32) : Nat → Nat → Int32 := (q_I (q_I (q_I I 115) 116) 117)
def x2_J (J : Nat → Nat → Int64) : Nat → Nat → Int64 := (q_J (q_J (q_J J 115) 116) 117)
def x2_T (T : Nat → Nat → Nat) : Nat → Nat → Nat := (am_up (q_T (am_up (q_T (am_up (q_T T 115) 107 8 115) 116) 107 9 116) 117) 107 10 117)
set_option maxRecDepth 8000 in
theorem f_X8_2 (hr : k 107 = (8, 38)) (hK : am_T am_C (112, 0, 88, [.ref 107], []) (x2_k k, x2_I I, x2_J J, x2_T T, 118, s + 76 + 10 + 96) K) : am_T am_C (112, 0, 64, [.ref 107], []) (k, I, J, T, 115, s) K := by
  refine am_wq_T (cut := fun z pc => (Nat.beq z 112 && Nat.beq pc 88)) (inl := fun _ => false) 120 _ _ _ ?_
  exact And.intro ⟨of_decide_eq_true rfl, of_decide_eq_true rfl⟩ (And.intro ⟨hr, .inr (of_decide_eq_true rfl)⟩ (And.intro ⟨of_decide_eq_true rfl, of_decide_eq_true rfl⟩ (And.intro ⟨hr, .inr (of_decide_eq_true rfl)⟩ (And.intro ⟨of_decide_eq_true rfl, of_decide_eq_true rfl⟩ (And.intro ⟨hr, .inr (of_decide_eq_true rfl)⟩ hK)))))
def x3_k (k : Nat → Nat × Nat) : Nat → Nat × Nat := (q_k k 118 (23, 13))
def x3_I (I : Nat → Nat → Int32) : Nat → Nat → Int32 := (am_up (am_up (am_up (am_up (am_up (am_up (am_up (am_up (am_up (am_up (am_up (am_up (am_up (q_I I 118) 118 0 108) 118 1 97) 118 2 119) 118 3 115) 118 4 101) 118 5 116) 118 6 116) 118 7 108) 118 8 101) 118 9 102) 118 10 105) 118 11 110) 118 12 101)
def x3_J (J : Nat → Nat → Int64) : Nat → Nat → Int64 := (q_J J 118)
def x3_T (T : Nat → Nat → Nat) : Nat → Nat → Nat := (am_up (q_T T 118) 107 18 118)
set_option maxRecDepth 8000 in
theorem f_X8_3 (hr : k 107 = (8, 38)) (hK : am_T am_C (112, 0, 168, [.ref 107], []) (x3_k k, x3_I I, x3_J J, x3_T T, 119, s + 13) K) : am_T am_C (112, 0, 88, [.ref 107], []) (k, I, J, T, 118, s) K := by
  refine am_wq_T (cut := fun z pc => (Nat.beq z 112 && Nat.beq pc 168)) (inl := fun _ => false) 120 _ _ _ ?_
  exact And.intro ⟨of_decide_eq_true rfl, of_decide_eq_true rfl⟩ (And.intro ⟨rfl, vpd rfl, rfl⟩ (And.intro ⟨rfl, vpd rfl, rfl⟩ (And.intro ⟨rfl, vpd rfl, rfl⟩ (And.intro ⟨rfl, vpd rfl, rfl⟩ (And.intro ⟨rfl, vpd rfl, rfl⟩ (And.intro ⟨rfl, vpd rfl, rfl⟩ (And.intro ⟨rfl, vpd rfl, rfl⟩ (And.intro ⟨rfl, vpd rfl, rfl⟩ (And.intro ⟨rfl, vpd rfl, rfl⟩ (And.intro ⟨rfl, vpd rfl, rfl⟩ (And.intro ⟨rfl, vpd rfl, rfl⟩ (And.intro ⟨rfl, vpd rfl, rfl⟩ (And.intro ⟨rfl, vpd rfl, rfl⟩ (And.intro ⟨hr, .inr (of_decide_eq_true rfl)⟩ hK))))))))))))))
def x4_k (k : Nat → Nat × Nat) : Nat → Nat × Nat := (q_k (q_k (q_k (q_k k 119 (20, 4)) 120 (20, 96)) 121 (20, 96)) 122 (21, 10))
def x4_I (I : Nat → Nat → Int32) : Nat → Nat → Int32 := (q_I (q_I (q_I (am_up (am_up (am_up (am_up (q_I I 119) 119 0 0) 119 1 3) 119 2 9) 119 3 13) 120) 121) 122)
def x4_J (J : Nat → Nat → Int64) : Nat → Nat → Int64 := (q_J (q_J (q_J (q_J J 119) 120) 121) 122)
def x4_T (T : Nat → Nat → Nat) : Nat → Nat → Nat := (am_up (q_T (am_up (q_T (am_up (q_T (am_up (q_T T 119) 107 19 119) 120) 107 20 120) 121) 107 23 121) 122) 107 25 122)
set_option maxRecDepth 8000 in
theorem f_X8_4 (hr : k 107 = (8, 38)) (hK : am_T am_C (112, 0, 217, [.ref 107], []) (x4_k k, x4_I I, x4_J J, x4_T T, 123, s + 4 + 96 + 96 + 10) K) : am_T am_C (112, 0, 168, [.ref 107], []) (k, I, J, T, 119, s) K := by
  refine am_wq_T (cut := fun z pc => (Nat.beq z 112 && Nat.beq pc 217)) (inl := fun _ => false) 120 _ _ _ ?_
  exact And.intro ⟨of_decide_eq_true rfl, of_decide_eq_true rfl⟩ (And.intro ⟨rfl, vpd rfl⟩ (And.intro ⟨rfl, vpd rfl⟩ (And.intro ⟨rfl, vpd rfl⟩ (And.intro ⟨rfl, vpd rfl⟩ (And.intro ⟨hr, .inr (of_decide_eq_true rfl)⟩ (And.intro ⟨of_decide_eq_true rfl, of_decide_eq_true rfl⟩ (And.intro ⟨hr, .inr (of_decide_eq_true rfl)⟩ (And.intro ⟨of_decide_eq_true rfl, of_decide_eq_true rfl⟩ (And.intro ⟨hr, .inr (of_decide_eq_true rfl)⟩ (And.intro ⟨of_decide_eq_true rfl, of_decide_eq_true rfl⟩ (And.intro ⟨hr, .inr (of_decide_eq_true rfl)⟩ hK)))))))))))
def x5_k (k : Nat → Nat × Nat) : Nat → Nat × Nat := (q_k (q_k (q_k (q_k k 123 (20, 96)) 124 (20, 4)) 125 (20, 4)) 126 (20, 4))
def x5_I (I : Nat → Nat → Int32) : Nat → Nat → Int32 := (q_I (am_up (am_up (am_up (am_up (q_I (q_I (q_I I 123) 124) 125) 125 0 (-1)) 125 1 (-1)) 125 2 (-1)) 125 3 (-1)) 126)
def x5_J (J : Nat → Nat → Int64) : Nat → Nat → Int64 := (q_J (q_J (q_J (q_J J 123) 124) 125) 126)
def x5_T (T : Nat → Nat → Nat) : Nat → Nat → Nat := (am_up (q_T (am_up (q_T (am_up (q_T (am_up (q_T T 123) 107 26 123) 124) 107 27 124) 125) 107 28 125) 126) 107 29 126)
set_option maxRecDepth 8000 in
theorem f_X8_5 (hr : k 107 = (8, 38)) (hK : am_T am_C (112, 0, 262, [.ref 107], []) (x5_k k, x5_I I, x5_J J, x5_T T, 127, s + 96 + 4 + 4 + 4) K) : am_T am_C (112, 0, 217, [.ref 107], []) (k, I, J, T, 123, s) K := by
  refine am_wq_T (cut := fun z pc => (Nat.beq z 112 && Nat.beq pc 262)) (inl := fun _ => false) 120 _ _ _ ?_
  exact And.intro ⟨of_decide_eq_true rfl, of_decide_eq_true rfl⟩ (And.intro ⟨hr, .inr (of_decide_eq_true rfl)⟩ (And.intro ⟨of_decide_eq_true rfl, of_decide_eq_true rfl⟩ (And.intro ⟨hr, .inr (of_decide_eq_true rfl)⟩ (And.intro ⟨of_decide_eq_true rfl, of_decide_eq_true rfl⟩ (And.intro ⟨rfl, vpd rfl⟩ (And.intro ⟨rfl, vpd rfl⟩ (And.intro ⟨rfl, vpd rfl⟩ (And.intro ⟨rfl, vpd rfl⟩ (And.intro ⟨hr, .inr (of_decide_eq_true rfl)⟩ (And.intro ⟨of_decide_eq_true rfl, of_decide_eq_true rfl⟩ (And.intro ⟨hr, .inr (of_decide_eq_true rfl)⟩ hK)))))))))))
def x6_k (k : Nat → Nat × Nat) : Nat → Nat × Nat := (q_k (q_k (q_k (q_k (q_k k 127 (20, 96)) 128 (20, 5)) 129 (20, 5)) 130 (20, 5)) 131 (20, 120))
def x6_I (I : Nat → Nat → Int32) : Nat → Nat → Int32 := (q_I (q_I (q_I (q_I (q_I I 127) 128) 129) 130) 131)
def x6_J (J : Nat → Nat → Int64) : Nat → Nat → Int64 := (q_J (q_J (q_J (q_J (q_J J 127) 128) 129) 130) 131)
def x6_T (T : Nat → Nat → Nat) : Nat → Nat → Nat := (am_up (q_T (am_up (q_T (am_up (q_T (am_up (q_T (am_up (q_T T 127) 107 30 127) 128) 107 31 128) 129) 107 32 129) 130) 107 33 130) 131) 107 34 131)
set_option maxRecDepth 8000 in
theorem f_X8_6 (hr : k 107 = (8, 38)) (hK : am_T am_C (112, 0, 299, [.ref 107], []) (x6_k k, x6_I I, x6_J J, x6_T T, 132, s + 96 + 5 + 5 + 5 + 120) K) : am_T am_C (112, 0, 262, [.ref 107], []) (k, I, J, T, 127, s) K := by
  refine am_wq_T (cut := fun z pc => (Nat.beq z 112 && Nat.beq pc 299)) (inl := fun _ => false) 120 _ _ _ ?_
  exact And.intro ⟨of_decide_eq_true rfl, of_decide_eq_true rfl⟩ (And.intro ⟨hr, .inr (of_decide_eq_true rfl)⟩ (And.intro ⟨of_decide_eq_true rfl, of_decide_eq_true rfl⟩ (And.intro ⟨hr, .inr (of_decide_eq_true rfl)⟩ (And.intro ⟨of_decide_eq_true rfl, of_decide_eq_true rfl⟩ (And.intro ⟨hr, .inr (of_decide_eq_true rfl)⟩ (And.intro ⟨of_decide_eq_true rfl, of_decide_eq_true rfl⟩ (And.intro ⟨hr, .inr (of_decide_eq_true rfl)⟩ (And.intro ⟨of_decide_eq_true rfl, of_decide_eq_true rfl⟩ (And.intro ⟨hr, .inr (of_decide_eq_true rfl)⟩ hK)))))))))
def x7_k (k : Nat → Nat × Nat) : Nat → Nat × Nat := (q_k (q_k k 132 (20, 24)) 133 (20, 60))
def x7_I (I : Nat → Nat → Int32) : Nat → Nat → Int32 := (am_up (am_up (am_up (q_I (q_I I 132) 133) 108 0 1) 108 3 10) 108 4 120)
def x7_J (J : Nat → Nat → Int64) : Nat → Nat → Int64 := (q_J (q_J J 132) 133)
def x7_T (T : Nat → Nat → Nat) : Nat → Nat → Nat := (am_up (q_T (am_up (q_T T 132) 107 35 132) 133) 107 36 133)
set_option maxRecDepth 8000 in
theorem f_X8_7 (hr : k 107 = (8, 38)) (h8 : k 108 = (20, 1448)) (hT : T 107 0 = 108) (hK : K none (x7_k k, x7_I I, x7_J J, x7_T T, 134, s + 24 + 60)) : am_T am_C (112, 0, 299, [.ref 107], []) (k, I, J, T, 132, s) K := by
  have e : (am_up (q_T (am_up (q_T T 132) 107 35 132) 133) 107 36 133) 107 0 = 108 := hT
  have hv : ((q_k (q_k k 132 (20, 24)) 133 (20, 60)) ((am_up (q_T (am_up (q_T T 132) 107 35 132) 133) 107 36 133) 107 0)).1 = 20 := by rw [e]; exact congrArg Prod.fst h8
  have hw : ((q_k (q_k k 132 (20, 24)) 133 (20, 60)) ((am_up (q_T (am_up (q_T T 132) 107 35 132) 133) 107 36 133) 107 0)).2 = 1448 := by rw [e]; exact congrArg Prod.snd h8
  have w0 : vp_in 0 ((q_k (q_k k 132 (20, 24)) 133 (20, 60)) ((am_up (q_T (am_up (q_T T 132) 107 35 132) 133) 107 36 133) 107 0)).2 := by rw [hw]; exact vpd rfl
  have w3 : vp_in 3 ((q_k (q_k k 132 (20, 24)) 133 (20, 60)) ((am_up (q_T (am_up (q_T T 132) 107 35 132) 133) 107 36 133) 107 0)).2 := by rw [hw]; exact vpd rfl
  have w4 : vp_in 4 ((q_k (q_k k 132 (20, 24)) 133 (20, 60)) ((am_up (q_T (am_up (q_T T 132) 107 35 132) 133) 107 36 133) 107 0)).2 := by rw [hw]; exact vpd rfl
  have kk : K none ((q_k (q_k k 132 (20, 24)) 133 (20, 60)), (am_up (am_up (am_up (q_I (q_I I 132) 133) ((am_up (q_T (am_up (q_T T 132) 107 35 132) 133) 107 36 133) 107 0) 0 1) ((am_up (q_T (am_up (q_T T 132) 107 35 132) 133) 107 36 133) 107 0) 3 10) ((am_up (q_T (am_up (q_T T 132) 107 35 132) 133) 107 36 133) 107 0) 4 120), (q_J (q_J J 132) 133), (am_up (q_T (am_up (q_T T 132) 107 35 132) 133) 107 36 133), 134, s + 24 + 60) := by rw [e]; exact hK
  refine am_wq_T (cut := fun z pc => (Nat.beq z 112 && Nat.beq pc 1)) (inl := fun _ => false) 120 _ _ _ ?_
  exact And.intro ⟨of_decide_eq_true rfl, of_decide_eq_true rfl⟩ (And.intro ⟨hr, .inr (of_decide_eq_true rfl)⟩ (And.intro ⟨of_decide_eq_true rfl, of_decide_eq_true rfl⟩ (And.intro ⟨hr, .inr (of_decide_eq_true rfl)⟩ (And.intro hr (And.intro ⟨hv, w0⟩ (And.intro hr (And.intro ⟨hv, w3⟩ (And.intro hr (And.intro ⟨hv, w4⟩ kk)))))))))
def g107_k (k : Nat → Nat × Nat) : Nat → Nat × Nat := (x7_k (x6_k (x5_k (x4_k (x3_k (x2_k (x1_k (x0_k k))))))))
def g107_I (I : Nat → Nat → Int32) : Nat → Nat → Int32 := (x7_I (x6_I (x5_I (x4_I (x3_I (x2_I (x1_I (x0_I I))))))))
def g107_J (J : Nat → Nat → Int64) : Nat → Nat → Int64 := (x7_J (x6_J (x5_J (x4_J (x3_J (x2_J (x1_J (x0_J J))))))))
def g107_T (T : Nat → Nat → Nat) : Nat → Nat → Nat := (x7_T (x6_T (x5_T (x4_T (x3_T (x2_T (x1_T (x0_T T))))))))
set_option maxRecDepth 20000 in
theorem f_X8 (hr : k 107 = (8, 38)) (hK : K none (g107_k k, g107_I I, g107_J J, g107_T T, 134, s + 1448 + 1448 + 1448 + 11 + 11 + 7168 + 6 + 76 + 10 + 96 + 13 + 4 + 96 + 96 + 10 + 96 + 4 + 4 + 4 + 96 + 5 + 5 + 5 + 120 + 24 + 60)) : am_T am_C (112, 0, 0, [.ref 107], []) (k, I, J, T, 108, s) K :=
  f_X8_0 hr (f_X8_1 hr (f_X8_2 hr (f_X8_3 hr (f_X8_4 hr (f_X8_5 hr (f_X8_6 hr (f_X8_7 hr rfl rfl hK)))))))
def w0_k (L : Nat) : Nat → Nat × Nat := g107_k (q_k (v20_k (q_k (am_fK L) 20 (7, 11))) 107 (8, 38))
def w0_I (xs : Nat → Int32) : Nat → Nat → Int32 := g107_I (q_I (v20_I (q_I (am_fI xs) 20)) 107)
def w0_J : Nat → Nat → Int64 := g107_J (q_J (v20_J (q_J am_fJ 20)) 107)
def w0_T : Nat → Nat → Nat := g107_T (q_T (v20_T (q_T (fun _ _ => 0) 20)) 107)
def w0_s : Nat := 0 + 11 + 14 + 10 + 6 + 6 + 14 + 3 + 5 * 10 + 14 + 10 + 6 + 6 + 14 + 3 + 5 * 10 + 14 + 10 + 6 + 6 + 14 + 3 + 5 * 10 + 4 + 64 + 6 + 11 + 96 + 96 + 4 + 5 + 60 + 10 + 27 * 4 + 36 * 5 + 38 + 1448 + 1448 + 1448 + 11 + 11 + 7168 + 6 + 76 + 10 + 96 + 13 + 4 + 96 + 96 + 10 + 96 + 4 + 4 + 4 + 96 + 5 + 5 + 5 + 120 + 24 + 60
theorem law_up {L : Nat} {xs : Nat → Int32} (hK : am_T am_C (220, 203, 18, [.ref 13, .ref 20, .ref 107, .int (nI 0)], []) (w0_k L, w0_I xs, w0_J, w0_T, 134, w0_s) K) : am_T am_C am_law0 (am_M0 L xs) K := by
  refine am_wq_T (cut := fun z pc => (Nat.beq z 220 && Nat.beq pc 18)) (inl := fun z => !((Nat.beq z 61 || Nat.beq z 112))) 120 _ _ _ ?_
  refine And.intro rfl (f_X7 rfl ?_)
  refine And.intro rfl (f_X8 rfl ?_)
  exact hK
end T99r
