/-! text: the class -/
section T99f
variable {kt : Nat → Nat × Nat} {I I' I0 : Nat → Nat → Int32} {J J' : Nat → Nat → Int64} {T T' : Nat → Nat → Nat} {n s : Nat} {K : Option Value → am_M → Prop} {m x t tc key : Nat} {B : Nat → Int32} {len : Nat}
theorem c_addText (h6 : I 21 6 = nI tc) (ht : tc < 14) (hk : am_k kt t = (6, 4)) (i0 : I t 0 = nI key) (hk3 : key < 3) (h1 : K (some (.int (nI tc))) (am_mk kt (am_up (am_up I 26 key (nI tc)) 21 6 (nI (tc + 1))) J (am_up T 25 tc t) n s)) : am_T am_C (32, 0, 0, [.ref 21, .ref t, .null], []) (am_mk kt I J T n s) K := by
  have c1 : ¬ nI 14 ≤ I 21 6 := by rw [h6]; exact nI_ge ht (by decide)
  have c2 : ¬ I t 0 < 0 := by rw [i0]; exact nI_pos (by omega)
  have c3 : I t 0 < 3 := by rw [i0]; exact nI_lt (b := 3) hk3 (by decide)
  have v14 : vp_in (I 21 6) 14 := by rw [h6]; exact vpl ht (by decide)
  have v3 : vp_in (I t 0) 3 := by rw [i0]; exact vpl hk3 (by decide)
  have ct : (I 21 6).toNatClampNeg = tc := by rw [h6]; exact nI_clamp (by omega)
  have rest : am_T am_C (32, 0, 36, [.ref 21, .ref t, .int (I 21 6)], []) (am_mk kt I J (am_up T 25 tc t) n s) K := by
    have kk : K (some (.int (I 21 6))) (am_mk kt (am_up (am_up I 26 (I t 0).toNatClampNeg (I 21 6)) 21 6 (I 21 6 + 1)) J (am_up T 25 tc t) n s) := by
      rw [i0, h6, nI_clamp (by omega), ← nI_succ]
      exact h1
    refine am_wq_T (cut := fun z pc => (Nat.beq z 32 && Nat.beq pc 28)) (inl := fun _ => false) 120 _ _ _ ?_
    exact And.intro rfl (And.intro hk (And.intro ⟨rfl, v3⟩ (And.intro rfl kk)))
  refine am_wq_T (cut := fun z pc => (Nat.beq z 32 && Nat.beq pc 36)) (inl := fun _ => false) 120 _ _ _ ?_
  refine And.intro rfl (And.intro (fun z => absurd z c1) (fun _ => And.intro hk (And.intro (fun z => absurd z c2) (fun _ => And.intro hk (And.intro (fun _ => And.intro rfl (And.intro ⟨rfl, v14, hk⟩ ?_)) (fun z => absurd c3 z))))))
  show am_T am_C (32, 0, 36, [.ref 21, .ref t, .int (I 21 6)], []) (am_k kt, I, J, am_up (am_r T) 25 (I 21 6).toNatClampNeg t, n, s) K
  rw [ct, rT_up rfl]
  exact rest
theorem c_xt31 (h6 : I 21 6 = nI tc) (ht : tc ≤ 14) (hk : am_k kt t = (6, 4)) (i0 : I t 0 = nI key) (hk3 : key < 3) (hf : tc = 14 → K (some (.int (-1000000003))) (am_mk kt I J T n s)) (h1 : tc < 14 → K (some (.int (nI tc))) (am_mk kt (am_up (am_up I 26 key (nI tc)) 21 6 (nI (tc + 1))) J (am_up T 25 tc t) n s)) : am_T am_C (88, 202, 31, [.ref 20, .ref t], []) (am_mk kt I J T n s) K := by
  by_cases q : tc = 14
  · have c1 : ¬ I 21 6 < Int32.ofNat 14 := by rw [h6, q]; decide
    have kk := hf q
    refine am_wq_T (cut := fun z pc => (Nat.beq z 88 && Nat.beq pc 46)) (inl := fun z => !(Nat.beq z 32)) 120 _ _ _ ?_
    exact And.intro rfl (And.intro rfl (And.intro (fun z => absurd z c1) (fun _ => kk)))
  · have c1 : I 21 6 < Int32.ofNat 14 := by rw [h6]; exact nI_lt (b := 14) (by omega) (by decide)
    have kk := c_addText (J := J) (T := T) (n := n) (s := s) (K := K) h6 (by omega) hk i0 hk3 (h1 (by omega))
    refine am_wq_T (cut := fun z pc => (Nat.beq z 88 && Nat.beq pc 45)) (inl := fun z => !(Nat.beq z 32)) 120 _ _ _ ?_
    exact And.intro rfl (And.intro rfl (And.intro (fun _ => And.intro rfl (And.intro rfl (c_addText h6 (by omega) hk i0 hk3 (h1 (by omega))))) (fun z => absurd c1 z)))
theorem c_text (hn : 134 ≤ n) (h6 : I 21 6 = nI tc) (ht : tc ≤ 14) (hT : tpB I B len) (hF : nmF I) (hY : ∀ j, j < 3 → ∀ i, i < lnK j → I (7 + j) i = kyW j i) (hm : ∀ key r, txK B len key r → r.2.2.2.1.length < 96) (h0 : ∀ a I', txF B len a → ch (fun r => r = 72 ∨ r = 74) I I' → I' 72 1 = 0 → K (some (.int (-100 - nI a))) (am_mk kt I' J T n s)) (hK : ∀ key r m I' J' T', txK B len key r → m = r.2.2.2.1.length → (∀ q, q < n → q ≠ 72 → q ≠ 74 → I' q = I q) → (∀ q, q < n → J' q = J q ∧ T' q = T q) → I' 72 1 = 0 → I' n 0 = nI key → I' n 1 = nI r.2.2.2.2 → T' n 2 = n + 1 → T' n 3 = n + 2 → (∀ k, k < m → I' (n + 1) k = r.2.2.2.1.getD k 0) → (tc = 14 → K (some (.int (-1000000003))) (am_mk (kU3 kt n m) I' J' T' (n + 3) (s + 4 + m + m))) ∧ (tc < 14 → K (some (.int (nI tc))) (am_mk (kU3 kt n m) (am_up (am_up I' 26 key (nI tc)) 21 6 (nI (tc + 1))) J' (am_up T' 25 tc n) (n + 3) (s + 4 + m + m)))) : am_T am_C (88, 202, 0, [.ref 20, .null], []) (am_mk kt I J T n s) K := by
  refine am_wq_T (cut := fun z pc => (Nat.beq z 88 && Nat.beq pc 31)) (inl := fun z => !(Nat.beq z 42)) 120 _ _ _ ?_
  refine And.intro rfl (And.intro rfl (c_read hT hF hY (fun a I1 hx hc h2 => ?_) (fun key r I1 hx hc h5 h6' h10 hco => ?_)))
  · have e : am_up I1 72 1 0 72 2 = nI a := by rw [up_ne (by omega)]; exact h2
    have kk := h0 a (am_up I1 72 1 0) hx (ch_tr (S := fun r => r = 72 ∨ r = 74) hc (ch_up (P := fun r => r = 72 ∨ r = 74) (.inl rfl)) fun r q => q.elim id id) (up_eq ..)
    rw [← e] at kk
    exact And.intro rfl (And.intro rfl (And.intro (fun _ => And.intro rfl (And.intro rfl kk)) (fun z => absurd rfl z)))
  · have n0 : ¬ n = 0 := by omega
    refine c_mk73 hn (hm key r hx) h5 h6' h10 fun I2 J2 T2 o i0 i1 t2 t3 co => ?_
    have kn : am_k (kU3 kt n r.2.2.2.1.length) n = (6, 4) := by
      unfold kU3
      rw [kU_ne (by omega), kU_ne (by omega), kU_eq hn]
    have c72 : ∀ q, q < n → q ≠ 72 → q ≠ 74 → am_up I2 72 1 0 q = I q := fun q a b c => by
      rw [up_off b, (o q a).1]
      exact hc q (by omega)
    have kk := hK key r r.2.2.2.1.length (am_up I2 72 1 0) J2 T2 hx rfl c72 (fun q a => (o q a).2) (up_eq ..) (by rw [up_ne (by omega)]; exact i0) (by rw [up_ne (by omega)]; exact i1) t2 t3 (fun k hk => by rw [up_ne (by omega), co k hk]; exact hco k hk)
    have main : am_T am_C (88, 202, 31, [.ref 20, .ref n], []) (am_mk (kU3 kt n r.2.2.2.1.length) (am_up I2 72 1 0) J2 T2 (n + 1 + 1 + 1) (s + 4 + r.2.2.2.1.length + r.2.2.2.1.length)) K :=
      c_xt31 (by rw [c72 21 (by omega) (by omega) (by omega)]; exact h6) ht kn (by rw [up_ne (by omega)]; exact i0) hx.1 kk.1 kk.2
    exact And.intro rfl (And.intro rfl (And.intro (fun z => absurd z n0) (fun _ => main)))
end T99f
