/-! a land becomes as another one -/
section T59
variable {kt : Nat → Nat × Nat} {I I' : Nat → Nat → Int32} {J J' : Nat → Nat → Int64} {T T' : Nat → Nat → Nat} {n s : Nat} {L : Nat} {xs : Nat → Int32} {K : Option Value → am_M → Prop} {N N' : Nat → Int32} {hc wc tc h w : Nat}
/-- references that have changed lie in the rows P -/
def chT (P : Nat → Prop) (T T' : Nat → Nat → Nat) : Prop := ∀ r, ¬ P r → T' r = T r
theorem upT_eq (T : Nat → Nat → Nat) (a k x : Nat) : am_up T a k x a k = x := if_pos ⟨rfl, rfl⟩
theorem upT_ne {T : Nat → Nat → Nat} {a k b j x : Nat} (h : ¬ (b = a ∧ j = k)) : am_up T a k x b j = T b j := if_neg h
theorem upT_off {T : Nat → Nat → Nat} {a k b x : Nat} (h : b ≠ a) : am_up T a k x b = T b := funext fun _ => if_neg fun q => h q.1
theorem rT_up {c k x : Nat} (hc : am_nth [] am_RO c = []) : am_up (am_r T) c k x = am_r (am_up T c k x) := by
  funext a j
  show (if a = c ∧ j = k then x else am_r T a j) = am_od (if a = c ∧ j = k then x else T a j) (am_nth none (am_nth [] am_RO a) j)
  by_cases q : a = c ∧ j = k
  · rw [if_pos q, if_pos q, q.1, hc]; rfl
  · rw [if_neg q, if_neg q]; rfl
theorem Txt_T {r t : Nat} (hT : ∀ r k, 134 ≤ r → T' r k = T r k) (q : sg_Txt kt I T n r t N) : sg_Txt kt I T' n r t N := by
  obtain ⟨key, len, cs, h0, h1, h2, h3, h4, h5, h6, h7, h8, h9, h10, h11, h12, h13, h14, h15, h16⟩ := q
  exact ⟨key, len, cs, h0, h1, h2, h3, h4, h5, by rw [hT r 2 h0]; exact h6, by rw [hT r 3 h0]; exact h7, h8, h9, h10, h11, h12, h13, h14, h15, h16⟩
theorem LR_T {b : Nat} (hT : ∀ r k, r = b + 4 ∨ 134 ≤ r → T' r k = T r k) (q : sg_LR kt I T n b N hc wc tc) : sg_LR kt I T' n b N hc wc tc := by
  obtain ⟨h0, h1, h2, h3, h4, h5, h6, h7, h8, h9, h10, h11, h12, h13, h14, h15, h16, h17, h18⟩ := q
  exact ⟨h0, h1, h2, h3, h4, h5, h6, h7, h8, h9, h10, h11, h12, h13, h14, h15, h16, fun t ht => by rw [hT _ _ (.inl rfl)]; exact Txt_T (fun r k hr => hT r k (.inr hr)) (h17 t ht), h18⟩
theorem sim_T (hT : ∀ r k, r ≠ 41 → T' r k = T r k) (q : sg_Sim L xs kt I J T n) : sg_Sim L xs kt I J T' n := by
  obtain ⟨f, l, ⟨k0, k1, k2⟩, t, sh, sl, w⟩ := q
  obtain ⟨hc, wc, tc, a, b⟩ := l
  refine ⟨f, ⟨hc, wc, tc, LR_T (fun r k hr => hT r k (by omega)) a, b⟩, ⟨k0, k1, fun hk => ?_⟩, t, sh, sl, w⟩
  obtain ⟨hc, wc, tc, a, b⟩ := k2 hk
  exact ⟨hc, wc, tc, LR_T (fun r k hr => hT r k (by omega)) a, b⟩
theorem c_hbecome {x y : Nat} (hxy : x ≠ y) (hx : am_k kt x = (1, 5)) (hy : am_k kt y = (1, 5)) (hK : ∀ I', ch (fun r => r = x) I I' → (∀ k, k < 5 → I' x k = I y k) → K none (am_mk kt I' J T n s)) : am_T am_C (8, 1, 0, [.ref x, .ref y], []) (am_mk kt I J T n s) K := by
  obtain ⟨I5, e5⟩ : ∃ I5, I5 = am_up (am_up (am_up (am_up (am_up I x 0 (I y 0)) x 1 (I y 1)) x 2 (I y 2)) x 3 (I y 3)) x 4 0 := ⟨_, rfl⟩
  have y4 : I5 y 4 = I y 4 := by rw [e5, up_off (Ne.symm hxy), up_off (Ne.symm hxy), up_off (Ne.symm hxy), up_off (Ne.symm hxy), up_off (Ne.symm hxy)]
  have key := hK (am_up I5 x 4 (I5 y 4)) (fun r hr => by rw [up_off hr, e5, up_off hr, up_off hr, up_off hr, up_off hr, up_off hr]) (fun k hk => by
    have : k = 0 ∨ k = 1 ∨ k = 2 ∨ k = 3 ∨ k = 4 := by omega
    rcases this with rfl | rfl | rfl | rfl | rfl
    · rw [up_ne (by omega), e5, up_ne (by omega), up_ne (by omega), up_ne (by omega), up_ne (by omega), up_eq]
    · rw [up_ne (by omega), e5, up_ne (by omega), up_ne (by omega), up_ne (by omega), up_eq]
    · rw [up_ne (by omega), e5, up_ne (by omega), up_ne (by omega), up_eq]
    · rw [up_ne (by omega), e5, up_ne (by omega), up_eq]
    · rw [up_eq, y4])
  rw [e5] at key
  refine am_wq_T (cut := fun _ _ => false) (inl := fun _ => true) 120 _ _ _ ?_
  exact And.intro hy (And.intro hy (And.intro hy (And.intro hy (And.intro hx (And.intro hx (And.intro hx (And.intro hx (And.intro hx (And.intro hx (And.intro hy (And.intro hx key)))))))))))
theorem kL53 {h : Nat} (hh : h < 10) : am_k kt (59 + h) = (1, 5) := by
  match h, hh with
  | 0, _ => rfl
  | 1, _ => rfl
  | 2, _ => rfl
  | 3, _ => rfl
  | 4, _ => rfl
  | 5, _ => rfl
  | 6, _ => rfl
  | 7, _ => rfl
  | 8, _ => rfl
  | 9, _ => rfl
theorem rL53 {i : Nat} (h : i < 10) : am_R (am_k kt, I, J, am_r T, n, s) (am_R (am_k kt, I, J, am_r T, n, s) 53 0) (nI i).toNatClampNeg = 59 + i := by
  rw [nI_clamp (by omega)]
  match i, h with
  | 0, _ => rfl
  | 1, _ => rfl
  | 2, _ => rfl
  | 3, _ => rfl
  | 4, _ => rfl
  | 5, _ => rfl
  | 6, _ => rfl
  | 7, _ => rfl
  | 8, _ => rfl
  | 9, _ => rfl
theorem c_becH37_21 {I0 : Nat → Nat → Int32} (hcn : I0 21 1 = nI hc) (h10 : hc ≤ 10) : ∀ (j h : Nat) (I : Nat → Nat → Int32), h + j = hc → ch (fun r => 37 ≤ r ∧ r < 37 + 16) I0 I → (∀ x k, x < h → k < 5 → I (43 + x) k = I0 (27 + x) k) → (∀ r k, (r < 43 ∨ 43 + 10 ≤ r) → I r k = I0 r k) → (∀ I', ch (fun r => 37 ≤ r ∧ r < 37 + 16) I0 I' → (∀ x k, x < hc → k < 5 → I' (43 + x) k = I0 (27 + x) k) → (∀ r k, (r < 43 ∨ 43 + 10 ≤ r) → I' r k = I0 r k) → am_T am_C (14, 2, 31, [.ref 37, .ref 21, .int (nI hc)], []) (am_mk kt I' J T n s) K) → am_T am_C (14, 2, 2, [.ref 37, .ref 21, .int (nI h)], []) (am_mk kt I J T n s) K
  | 0, h, I, hh, hI, hx, ho, hK => by
    have : h = hc := by omega
    subst this
    have c1 : I 21 1 ≤ nI h := by rw [hI 21 (by omega), hcn]; exact nI_le (Nat.le_refl _) (by omega)
    have key := hK I hI hx ho
    refine am_wq_T (cut := fun z pc => ((Nat.beq z 14 && Nat.beq pc 2) || (Nat.beq z 14 && Nat.beq pc 31))) (inl := fun _ => false) 120 _ _ _ ?_
    exact And.intro rfl (And.intro (fun _ => key) (fun q => absurd c1 q))
  | j + 1, h, I, hh, hI, hx, ho, hK => by
    have c1 : ¬ I 21 1 ≤ nI h := by rw [hI 21 (by omega), hcn]; exact nI_ge (by omega) (by omega)
    have vh : vp_in (nI h) 10 := vpl (by omega) (by decide)
    refine am_wq_T (cut := fun z pc => ((Nat.beq z 14 && Nat.beq pc 2) || (Nat.beq z 14 && Nat.beq pc 31))) (inl := fun z => !(Nat.beq z 8)) 120 _ _ _ ?_
    refine And.intro rfl (And.intro (fun q => absurd q c1) (fun _ => And.intro rfl (And.intro ⟨rfl, vh⟩ (And.intro rfl (And.intro ⟨rfl, vh⟩ ?_)))))
    rw [rL37 (by omega), rL21 (by omega)]
    refine And.intro (kL37 (by omega)) (c_hbecome (x := 43 + h) (y := 27 + h) (by omega) (kL37 (by omega)) (kL21 (by omega)) fun I2 a b => ?_)
    have key := c_becH37_21 hcn h10 j (h + 1) I2 (by omega) (ch_tr hI a fun r q => q.elim id fun q => by omega) (fun x k p q => by
      by_cases e : x = h
      · subst e; rw [b k q, hI _ (by omega)]
      · rw [a _ (by omega)]; exact hx x k (by omega) q) (fun r k q => by rw [a r (by omega)]; exact ho r k q) hK
    rw [nI_succ] at key
    exact key
theorem c_becT37_21 {I0 : Nat → Nat → Int32} {T0 : Nat → Nat → Nat} (hR : sg_LR kt I0 T0 n 21 N hc wc tc) (htn : I 21 6 = nI tc) (hx : ∀ r k, 134 ≤ r → I r k = I0 r k) : ∀ (j t : Nat) (T : Nat → Nat → Nat), t + j = tc → chT (fun r => r = 41) T0 T → (∀ x, x < t → T 41 x = T0 25 x) → (∀ T', chT (fun r => r = 41) T0 T' → (∀ x, x < tc → T' 41 x = T0 25 x) → am_T am_C (14, 2, 105, [.ref 37, .ref 21, .int (nI tc)], []) (am_mk kt I J T' n s) K) → am_T am_C (14, 2, 79, [.ref 37, .ref 21, .int (nI t)], []) (am_mk kt I J T n s) K
  | 0, t, T, ht, hT, h, hK => by
    have h14 := hR.2.2.1
    have : t = tc := by omega
    subst this
    have c1 : I 21 6 ≤ nI t := by rw [htn]; exact nI_le (Nat.le_refl _) (by omega)
    have key := hK T hT h
    refine am_wq_T (cut := fun z pc => ((Nat.beq z 14 && Nat.beq pc 79) || (Nat.beq z 14 && Nat.beq pc 105))) (inl := fun _ => false) 120 _ _ _ ?_
    exact And.intro rfl (And.intro (fun _ => key) (fun q => absurd c1 q))
  | j + 1, t, T, ht, hT, h, hK => by
    have h14 := hR.2.2.1
    have c1 : ¬ I 21 6 ≤ nI t := by rw [htn]; exact nI_ge (by omega) (by omega)
    have vt : vp_in (nI t) 14 := vpl (by omega) (by decide)
    have et : T 25 (nI t).toNatClampNeg = T0 25 t := by rw [nI_clamp (by omega), hT 25 (by decide)]
    have hk : am_k kt (T 25 (nI t).toNatClampNeg) = (6, 4) := by
      rw [et]
      obtain ⟨_, _, _, q0, _, _, q, -⟩ := hR.2.2.2.2.2.2.2.2.2.2.2.2.2.2.2.2.2.1 t (by omega)
      exact (kr_own q0).trans q
    have key := c_becT37_21 hR htn hx j (t + 1) (am_up T 41 (nI t).toNatClampNeg (T 25 (nI t).toNatClampNeg)) (by omega) (fun r hr => by rw [upT_off hr]; exact hT r hr) (fun x q => by
      rw [et, nI_clamp (by omega)]
      by_cases e : x = t
      · subst e; exact upT_eq _ _ _ _
      · rw [upT_ne (by omega)]; exact h x (by omega)) hK
    rw [nI_succ] at key
    rw [show (am_mk kt I J (am_up T 41 (nI t).toNatClampNeg (T 25 (nI t).toNatClampNeg)) n s) = (am_k kt, I, J, am_up (am_r T) 41 (nI t).toNatClampNeg (T 25 (nI t).toNatClampNeg), n, s) by rw [rT_up rfl]] at key
    refine am_wq_T (cut := fun z pc => ((Nat.beq z 14 && Nat.beq pc 79) || (Nat.beq z 14 && Nat.beq pc 105))) (inl := fun _ => false) 120 _ _ _ ?_
    exact And.intro rfl (And.intro (fun q => absurd q c1) (fun _ => And.intro rfl (And.intro rfl (And.intro ⟨rfl, vt⟩ (And.intro ⟨rfl, vt, hk⟩ key)))))
theorem c_becH37_53 {I0 : Nat → Nat → Int32} (hcn : I0 53 1 = nI hc) (h10 : hc ≤ 10) : ∀ (j h : Nat) (I : Nat → Nat → Int32), h + j = hc → ch (fun r => 37 ≤ r ∧ r < 37 + 16) I0 I → (∀ x k, x < h → k < 5 → I (43 + x) k = I0 (59 + x) k) → (∀ r k, (r < 43 ∨ 43 + 10 ≤ r) → I r k = I0 r k) → (∀ I', ch (fun r => 37 ≤ r ∧ r < 37 + 16) I0 I' → (∀ x k, x < hc → k < 5 → I' (43 + x) k = I0 (59 + x) k) → (∀ r k, (r < 43 ∨ 43 + 10 ≤ r) → I' r k = I0 r k) → am_T am_C (14, 2, 31, [.ref 37, .ref 53, .int (nI hc)], []) (am_mk kt I' J T n s) K) → am_T am_C (14, 2, 2, [.ref 37, .ref 53, .int (nI h)], []) (am_mk kt I J T n s) K
  | 0, h, I, hh, hI, hx, ho, hK => by
    have : h = hc := by omega
    subst this
    have c1 : I 53 1 ≤ nI h := by rw [hI 53 (by omega), hcn]; exact nI_le (Nat.le_refl _) (by omega)
    have key := hK I hI hx ho
    refine am_wq_T (cut := fun z pc => ((Nat.beq z 14 && Nat.beq pc 2) || (Nat.beq z 14 && Nat.beq pc 31))) (inl := fun _ => false) 120 _ _ _ ?_
    exact And.intro rfl (And.intro (fun _ => key) (fun q => absurd c1 q))
  | j + 1, h, I, hh, hI, hx, ho, hK => by
    have c1 : ¬ I 53 1 ≤ nI h := by rw [hI 53 (by omega), hcn]; exact nI_ge (by omega) (by omega)
    have vh : vp_in (nI h) 10 := vpl (by omega) (by decide)
    refine am_wq_T (cut := fun z pc => ((Nat.beq z 14 && Nat.beq pc 2) || (Nat.beq z 14 && Nat.beq pc 31))) (inl := fun z => !(Nat.beq z 8)) 120 _ _ _ ?_
    refine And.intro rfl (And.intro (fun q => absurd q c1) (fun _ => And.intro rfl (And.intro ⟨rfl, vh⟩ (And.intro rfl (And.intro ⟨rfl, vh⟩ ?_)))))
    rw [rL37 (by omega), rL53 (by omega)]
    refine And.intro (kL37 (by omega)) (c_hbecome (x := 43 + h) (y := 59 + h) (by omega) (kL37 (by omega)) (kL53 (by omega)) fun I2 a b => ?_)
    have key := c_becH37_53 hcn h10 j (h + 1) I2 (by omega) (ch_tr hI a fun r q => q.elim id fun q => by omega) (fun x k p q => by
      by_cases e : x = h
      · subst e; rw [b k q, hI _ (by omega)]
      · rw [a _ (by omega)]; exact hx x k (by omega) q) (fun r k q => by rw [a r (by omega)]; exact ho r k q) hK
    rw [nI_succ] at key
    exact key
theorem c_becT37_53 {I0 : Nat → Nat → Int32} {T0 : Nat → Nat → Nat} (hR : sg_LR kt I0 T0 n 53 N hc wc tc) (htn : I 53 6 = nI tc) (hx : ∀ r k, 134 ≤ r → I r k = I0 r k) : ∀ (j t : Nat) (T : Nat → Nat → Nat), t + j = tc → chT (fun r => r = 41) T0 T → (∀ x, x < t → T 41 x = T0 57 x) → (∀ T', chT (fun r => r = 41) T0 T' → (∀ x, x < tc → T' 41 x = T0 57 x) → am_T am_C (14, 2, 105, [.ref 37, .ref 53, .int (nI tc)], []) (am_mk kt I J T' n s) K) → am_T am_C (14, 2, 79, [.ref 37, .ref 53, .int (nI t)], []) (am_mk kt I J T n s) K
  | 0, t, T, ht, hT, h, hK => by
    have h14 := hR.2.2.1
    have : t = tc := by omega
    subst this
    have c1 : I 53 6 ≤ nI t := by rw [htn]; exact nI_le (Nat.le_refl _) (by omega)
    have key := hK T hT h
    refine am_wq_T (cut := fun z pc => ((Nat.beq z 14 && Nat.beq pc 79) || (Nat.beq z 14 && Nat.beq pc 105))) (inl := fun _ => false) 120 _ _ _ ?_
    exact And.intro rfl (And.intro (fun _ => key) (fun q => absurd c1 q))
  | j + 1, t, T, ht, hT, h, hK => by
    have h14 := hR.2.2.1
    have c1 : ¬ I 53 6 ≤ nI t := by rw [htn]; exact nI_ge (by omega) (by omega)
    have vt : vp_in (nI t) 14 := vpl (by omega) (by decide)
    have et : T 57 (nI t).toNatClampNeg = T0 57 t := by rw [nI_clamp (by omega), hT 57 (by decide)]
    have hk : am_k kt (T 57 (nI t).toNatClampNeg) = (6, 4) := by
      rw [et]
      obtain ⟨_, _, _, q0, _, _, q, -⟩ := hR.2.2.2.2.2.2.2.2.2.2.2.2.2.2.2.2.2.1 t (by omega)
      exact (kr_own q0).trans q
    have key := c_becT37_53 hR htn hx j (t + 1) (am_up T 41 (nI t).toNatClampNeg (T 57 (nI t).toNatClampNeg)) (by omega) (fun r hr => by rw [upT_off hr]; exact hT r hr) (fun x q => by
      rw [et, nI_clamp (by omega)]
      by_cases e : x = t
      · subst e; exact upT_eq _ _ _ _
      · rw [upT_ne (by omega)]; exact h x (by omega)) hK
    rw [nI_succ] at key
    rw [show (am_mk kt I J (am_up T 41 (nI t).toNatClampNeg (T 57 (nI t).toNatClampNeg)) n s) = (am_k kt, I, J, am_up (am_r T) 41 (nI t).toNatClampNeg (T 57 (nI t).toNatClampNeg), n, s) by rw [rT_up rfl]] at key
    refine am_wq_T (cut := fun z pc => ((Nat.beq z 14 && Nat.beq pc 79) || (Nat.beq z 14 && Nat.beq pc 105))) (inl := fun _ => false) 120 _ _ _ ?_
    exact And.intro rfl (And.intro (fun q => absurd q c1) (fun _ => And.intro rfl (And.intro rfl (And.intro ⟨rfl, vt⟩ (And.intro ⟨rfl, vt, hk⟩ key)))))
theorem c_becH53_21 {I0 : Nat → Nat → Int32} (hcn : I0 21 1 = nI hc) (h10 : hc ≤ 10) : ∀ (j h : Nat) (I : Nat → Nat → Int32), h + j = hc → ch (fun r => 53 ≤ r ∧ r < 53 + 16) I0 I → (∀ x k, x < h → k < 5 → I (59 + x) k = I0 (27 + x) k) → (∀ r k, (r < 59 ∨ 59 + 10 ≤ r) → I r k = I0 r k) → (∀ I', ch (fun r => 53 ≤ r ∧ r < 53 + 16) I0 I' → (∀ x k, x < hc → k < 5 → I' (59 + x) k = I0 (27 + x) k) → (∀ r k, (r < 59 ∨ 59 + 10 ≤ r) → I' r k = I0 r k) → am_T am_C (14, 2, 31, [.ref 53, .ref 21, .int (nI hc)], []) (am_mk kt I' J T n s) K) → am_T am_C (14, 2, 2, [.ref 53, .ref 21, .int (nI h)], []) (am_mk kt I J T n s) K
  | 0, h, I, hh, hI, hx, ho, hK => by
    have : h = hc := by omega
    subst this
    have c1 : I 21 1 ≤ nI h := by rw [hI 21 (by omega), hcn]; exact nI_le (Nat.le_refl _) (by omega)
    have key := hK I hI hx ho
    refine am_wq_T (cut := fun z pc => ((Nat.beq z 14 && Nat.beq pc 2) || (Nat.beq z 14 && Nat.beq pc 31))) (inl := fun _ => false) 120 _ _ _ ?_
    exact And.intro rfl (And.intro (fun _ => key) (fun q => absurd c1 q))
  | j + 1, h, I, hh, hI, hx, ho, hK => by
    have c1 : ¬ I 21 1 ≤ nI h := by rw [hI 21 (by omega), hcn]; exact nI_ge (by omega) (by omega)
    have vh : vp_in (nI h) 10 := vpl (by omega) (by decide)
    refine am_wq_T (cut := fun z pc => ((Nat.beq z 14 && Nat.beq pc 2) || (Nat.beq z 14 && Nat.beq pc 31))) (inl := fun z => !(Nat.beq z 8)) 120 _ _ _ ?_
    refine And.intro rfl (And.intro (fun q => absurd q c1) (fun _ => And.intro rfl (And.intro ⟨rfl, vh⟩ (And.intro rfl (And.intro ⟨rfl, vh⟩ ?_)))))
    rw [rL53 (by omega), rL21 (by omega)]
    refine And.intro (kL53 (by omega)) (c_hbecome (x := 59 + h) (y := 27 + h) (by omega) (kL53 (by omega)) (kL21 (by omega)) fun I2 a b => ?_)
    have key := c_becH53_21 hcn h10 j (h + 1) I2 (by omega) (ch_tr hI a fun r q => q.elim id fun q => by omega) (fun x k p q => by
      by_cases e : x = h
      · subst e; rw [b k q, hI _ (by omega)]
      · rw [a _ (by omega)]; exact hx x k (by omega) q) (fun r k q => by rw [a r (by omega)]; exact ho r k q) hK
    rw [nI_succ] at key
    exact key
theorem c_becT53_21 {I0 : Nat → Nat → Int32} {T0 : Nat → Nat → Nat} (hR : sg_LR kt I0 T0 n 21 N hc wc tc) (htn : I 21 6 = nI tc) (hx : ∀ r k, 134 ≤ r → I r k = I0 r k) : ∀ (j t : Nat) (T : Nat → Nat → Nat), t + j = tc → chT (fun r => r = 57) T0 T → (∀ x, x < t → T 57 x = T0 25 x) → (∀ T', chT (fun r => r = 57) T0 T' → (∀ x, x < tc → T' 57 x = T0 25 x) → am_T am_C (14, 2, 105, [.ref 53, .ref 21, .int (nI tc)], []) (am_mk kt I J T' n s) K) → am_T am_C (14, 2, 79, [.ref 53, .ref 21, .int (nI t)], []) (am_mk kt I J T n s) K
  | 0, t, T, ht, hT, h, hK => by
    have h14 := hR.2.2.1
    have : t = tc := by omega
    subst this
    have c1 : I 21 6 ≤ nI t := by rw [htn]; exact nI_le (Nat.le_refl _) (by omega)
    have key := hK T hT h
    refine am_wq_T (cut := fun z pc => ((Nat.beq z 14 && Nat.beq pc 79) || (Nat.beq z 14 && Nat.beq pc 105))) (inl := fun _ => false) 120 _ _ _ ?_
    exact And.intro rfl (And.intro (fun _ => key) (fun q => absurd c1 q))
  | j + 1, t, T, ht, hT, h, hK => by
    have h14 := hR.2.2.1
    have c1 : ¬ I 21 6 ≤ nI t := by rw [htn]; exact nI_ge (by omega) (by omega)
    have vt : vp_in (nI t) 14 := vpl (by omega) (by decide)
    have et : T 25 (nI t).toNatClampNeg = T0 25 t := by rw [nI_clamp (by omega), hT 25 (by decide)]
    have hk : am_k kt (T 25 (nI t).toNatClampNeg) = (6, 4) := by
      rw [et]
      obtain ⟨_, _, _, q0, _, _, q, -⟩ := hR.2.2.2.2.2.2.2.2.2.2.2.2.2.2.2.2.2.1 t (by omega)
      exact (kr_own q0).trans q
    have key := c_becT53_21 hR htn hx j (t + 1) (am_up T 57 (nI t).toNatClampNeg (T 25 (nI t).toNatClampNeg)) (by omega) (fun r hr => by rw [upT_off hr]; exact hT r hr) (fun x q => by
      rw [et, nI_clamp (by omega)]
      by_cases e : x = t
      · subst e; exact upT_eq _ _ _ _
      · rw [upT_ne (by omega)]; exact h x (by omega)) hK
    rw [nI_succ] at key
    rw [show (am_mk kt I J (am_up T 57 (nI t).toNatClampNeg (T 25 (nI t).toNatClampNeg)) n s) = (am_k kt, I, J, am_up (am_r T) 57 (nI t).toNatClampNeg (T 25 (nI t).toNatClampNeg), n, s) by rw [rT_up rfl]] at key
    refine am_wq_T (cut := fun z pc => ((Nat.beq z 14 && Nat.beq pc 79) || (Nat.beq z 14 && Nat.beq pc 105))) (inl := fun _ => false) 120 _ _ _ ?_
    exact And.intro rfl (And.intro (fun q => absurd q c1) (fun _ => And.intro rfl (And.intro rfl (And.intro ⟨rfl, vt⟩ (And.intro ⟨rfl, vt, hk⟩ key)))))
theorem c_becH21_53 {I0 : Nat → Nat → Int32} (hcn : I0 53 1 = nI hc) (h10 : hc ≤ 10) : ∀ (j h : Nat) (I : Nat → Nat → Int32), h + j = hc → ch (fun r => 21 ≤ r ∧ r < 21 + 16) I0 I → (∀ x k, x < h → k < 5 → I (27 + x) k = I0 (59 + x) k) → (∀ r k, (r < 27 ∨ 27 + 10 ≤ r) → I r k = I0 r k) → (∀ I', ch (fun r => 21 ≤ r ∧ r < 21 + 16) I0 I' → (∀ x k, x < hc → k < 5 → I' (27 + x) k = I0 (59 + x) k) → (∀ r k, (r < 27 ∨ 27 + 10 ≤ r) → I' r k = I0 r k) → am_T am_C (14, 2, 31, [.ref 21, .ref 53, .int (nI hc)], []) (am_mk kt I' J T n s) K) → am_T am_C (14, 2, 2, [.ref 21, .ref 53, .int (nI h)], []) (am_mk kt I J T n s) K
  | 0, h, I, hh, hI, hx, ho, hK => by
    have : h = hc := by omega
    subst this
    have c1 : I 53 1 ≤ nI h := by rw [hI 53 (by omega), hcn]; exact nI_le (Nat.le_refl _) (by omega)
    have key := hK I hI hx ho
    refine am_wq_T (cut := fun z pc => ((Nat.beq z 14 && Nat.beq pc 2) || (Nat.beq z 14 && Nat.beq pc 31))) (inl := fun _ => false) 120 _ _ _ ?_
    exact And.intro rfl (And.intro (fun _ => key) (fun q => absurd c1 q))
  | j + 1, h, I, hh, hI, hx, ho, hK => by
    have c1 : ¬ I 53 1 ≤ nI h := by rw [hI 53 (by omega), hcn]; exact nI_ge (by omega) (by omega)
    have vh : vp_in (nI h) 10 := vpl (by omega) (by decide)
    refine am_wq_T (cut := fun z pc => ((Nat.beq z 14 && Nat.beq pc 2) || (Nat.beq z 14 && Nat.beq pc 31))) (inl := fun z => !(Nat.beq z 8)) 120 _ _ _ ?_
    refine And.intro rfl (And.intro (fun q => absurd q c1) (fun _ => And.intro rfl (And.intro ⟨rfl, vh⟩ (And.intro rfl (And.intro ⟨rfl, vh⟩ ?_)))))
    rw [rL21 (by omega), rL53 (by omega)]
    refine And.intro (kL21 (by omega)) (c_hbecome (x := 27 + h) (y := 59 + h) (by omega) (kL21 (by omega)) (kL53 (by omega)) fun I2 a b => ?_)
    have key := c_becH21_53 hcn h10 j (h + 1) I2 (by omega) (ch_tr hI a fun r q => q.elim id fun q => by omega) (fun x k p q => by
      by_cases e : x = h
      · subst e; rw [b k q, hI _ (by omega)]
      · rw [a _ (by omega)]; exact hx x k (by omega) q) (fun r k q => by rw [a r (by omega)]; exact ho r k q) hK
    rw [nI_succ] at key
    exact key
theorem c_becT21_53 {I0 : Nat → Nat → Int32} {T0 : Nat → Nat → Nat} (hR : sg_LR kt I0 T0 n 53 N hc wc tc) (htn : I 53 6 = nI tc) (hx : ∀ r k, 134 ≤ r → I r k = I0 r k) : ∀ (j t : Nat) (T : Nat → Nat → Nat), t + j = tc → chT (fun r => r = 25) T0 T → (∀ x, x < t → T 25 x = T0 57 x) → (∀ T', chT (fun r => r = 25) T0 T' → (∀ x, x < tc → T' 25 x = T0 57 x) → am_T am_C (14, 2, 105, [.ref 21, .ref 53, .int (nI tc)], []) (am_mk kt I J T' n s) K) → am_T am_C (14, 2, 79, [.ref 21, .ref 53, .int (nI t)], []) (am_mk kt I J T n s) K
  | 0, t, T, ht, hT, h, hK => by
    have h14 := hR.2.2.1
    have : t = tc := by omega
    subst this
    have c1 : I 53 6 ≤ nI t := by rw [htn]; exact nI_le (Nat.le_refl _) (by omega)
    have key := hK T hT h
    refine am_wq_T (cut := fun z pc => ((Nat.beq z 14 && Nat.beq pc 79) || (Nat.beq z 14 && Nat.beq pc 105))) (inl := fun _ => false) 120 _ _ _ ?_
    exact And.intro rfl (And.intro (fun _ => key) (fun q => absurd c1 q))
  | j + 1, t, T, ht, hT, h, hK => by
    have h14 := hR.2.2.1
    have c1 : ¬ I 53 6 ≤ nI t := by rw [htn]; exact nI_ge (by omega) (by omega)
    have vt : vp_in (nI t) 14 := vpl (by omega) (by decide)
    have et : T 57 (nI t).toNatClampNeg = T0 57 t := by rw [nI_clamp (by omega), hT 57 (by decide)]
    have hk : am_k kt (T 57 (nI t).toNatClampNeg) = (6, 4) := by
      rw [et]
      obtain ⟨_, _, _, q0, _, _, q, -⟩ := hR.2.2.2.2.2.2.2.2.2.2.2.2.2.2.2.2.2.1 t (by omega)
      exact (kr_own q0).trans q
    have key := c_becT21_53 hR htn hx j (t + 1) (am_up T 25 (nI t).toNatClampNeg (T 57 (nI t).toNatClampNeg)) (by omega) (fun r hr => by rw [upT_off hr]; exact hT r hr) (fun x q => by
      rw [et, nI_clamp (by omega)]
      by_cases e : x = t
      · subst e; exact upT_eq _ _ _ _
      · rw [upT_ne (by omega)]; exact h x (by omega)) hK
    rw [nI_succ] at key
    rw [show (am_mk kt I J (am_up T 25 (nI t).toNatClampNeg (T 57 (nI t).toNatClampNeg)) n s) = (am_k kt, I, J, am_up (am_r T) 25 (nI t).toNatClampNeg (T 57 (nI t).toNatClampNeg), n, s) by rw [rT_up rfl]] at key
    refine am_wq_T (cut := fun z pc => ((Nat.beq z 14 && Nat.beq pc 79) || (Nat.beq z 14 && Nat.beq pc 105))) (inl := fun _ => false) 120 _ _ _ ?_
    exact And.intro rfl (And.intro (fun q => absurd q c1) (fun _ => And.intro rfl (And.intro rfl (And.intro ⟨rfl, vt⟩ (And.intro ⟨rfl, vt, hk⟩ key)))))
end T59
