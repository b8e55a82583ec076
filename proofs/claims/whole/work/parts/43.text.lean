/-! texts: what they give -/
section T43
def tpl (p q x a : Int32) : Int32 := if a = -1 then p else if a = -2 then q else if a = -3 then x else a
def tjn (a u v : Int32) : Int32 :=
  if a = -124 then (if u ≠ 0 ∨ v ≠ 0 then 1 else 0) else if a = -38 then (if u ≠ 0 ∧ v ≠ 0 then 1 else 0) else if a = -60 then (if u < v then 1 else 0) else if a = -61 then (if u = v then 1 else 0) else if a = -62 then (if v < u then 1 else 0)
  else if a = -43 then u + v else if a = -45 then u - v else if a = -42 then u * v else (if v = 0 then 0 else u / v)
/-- the row of values behind some codes, d of them lie there -/
def evg (p q x : Int32) : List Int32 → Nat → (Nat → Int32) → Nat → Int32
  | [], _, g => g
  | a :: r, d, g => if -3 ≤ a then evg p q x r (d + 1) (up1 g d (tpl p q x a)) else if a = -33 then evg p q x r d (up1 g (d - 1) (if g (d - 1) = 0 then 1 else 0)) else evg p q x r (d - 1) (up1 g (d - 2) (tjn a (g (d - 2)) (g (d - 1))))
def tv (p q x : Int32) (cs : List Int32) : Int32 := evg p q x cs 0 (fun _ => 0) 0
theorem evg_cg {p q x : Int32} : ∀ (cs : List Int32) (d e : Nat) (g g' : Nat → Int32), sg_dp cs d = some e → (∀ k, k < d → g k = g' k) → ∀ k, k < e → evg p q x cs d g k = evg p q x cs d g' k
  | [], d, e, g, g', h, hg, k, hk => by
    have : d = e := by injection h
    subst this; exact hg k hk
  | a :: r, d, e, g, g', h, hg, k, hk => by
    unfold sg_dp at h
    unfold evg
    by_cases c : -3 ≤ a
    · rw [if_pos c] at h ⊢
      rw [if_pos c]
      refine evg_cg r (d + 1) e _ _ h (fun j hj => ?_) k hk
      by_cases q : j = d
      · subst q; rw [up1_eq, up1_eq]
      · rw [up1_ne q, up1_ne q]; exact hg j (by omega)
    · rw [if_neg c] at h ⊢
      rw [if_neg c]
      by_cases c2 : a = -33
      · rw [if_pos c2] at h ⊢
        rw [if_pos c2]
        by_cases c3 : d = 0
        · rw [if_pos c3] at h; cases h
        · rw [if_neg c3] at h
          refine evg_cg r d e _ _ h (fun j hj => ?_) k hk
          by_cases q : j = d - 1
          · subst q; rw [up1_eq, up1_eq, hg _ hj]
          · rw [up1_ne q, up1_ne q]; exact hg j hj
      · rw [if_neg c2] at h ⊢
        rw [if_neg c2]
        by_cases c3 : d < 2
        · rw [if_pos c3] at h; cases h
        · rw [if_neg c3] at h
          refine evg_cg r (d - 1) e _ _ h (fun j hj => ?_) k hk
          by_cases q : j = d - 2
          · subst q; rw [up1_eq, up1_eq, hg _ (by omega), hg (d - 1) (by omega)]
          · rw [up1_ne q, up1_ne q]; exact hg j (by omega)
variable {kt : Nat → Nat × Nat} {I I' : Nat → Nat → Int32} {J J' : Nat → Nat → Int64} {T : Nat → Nat → Nat} {n s : Nat} {L : Nat} {xs : Nat → Int32} {K : Option Value → am_M → Prop} {Kk : Nat → Nat × Nat} {R : Nat → Nat → Nat}
def tsg : List Int32 := [-38, -42, -43, -45, -47, -60, -61, -62, -124]
theorem c_joined {a u v : Int32} (ha : a ∈ tsg) (hK : ∀ r, r = tjn a u v → K (some (.int r)) (Kk, I, J, R, n, s)) : am_T am_C (60, 0, 0, [.int (-a), .int u, .int v], []) (Kk, I, J, R, n, s) K := by
  simp only [tsg, List.mem_cons, List.not_mem_nil, or_false] at ha
  rcases ha with rfl | rfl | rfl | rfl | rfl | rfl | rfl | rfl | rfl
  all_goals
    refine am_wq_T (cut := fun _ _ => false) (inl := fun _ => true) 120 _ _ _ ?_
    repeat' first
       | (refine And.intro (fun hx_ => ?_) (fun hx_ => ?_) <;> first | exact absurd hx_ (of_decide_eq_false rfl) | exact absurd (of_decide_eq_true rfl) hx_ | exact absurd hx_ (by assumption) | exact absurd (by assumption) hx_ | skip)
       | (refine And.intro rfl ?_)
       | (refine And.intro ⟨rfl, vpd rfl⟩ ?_)
       | (refine And.intro ⟨rfl, by assumption⟩ ?_)
       | (refine And.intro (by assumption) ?_)
       | (refine And.intro ⟨rfl, ?_⟩ ?_)
       | (refine And.intro ?_ ?_)
    all_goals exact hK _ (by clear hK; simp_all [tjn])
theorem m_two {a u v : Int32} (ha : a ∈ tsg) (hK : ∀ r, r = tjn a u v → K (some (.int r)) (Kk, I, J, R, n, s)) : am_T am_C (187, 0, 0, [.int (sg_tr a), .int u, .int v], []) (Kk, I, J, R, n, s) K := by
  simp only [tsg, List.mem_cons, List.not_mem_nil, or_false] at ha
  rcases ha with rfl | rfl | rfl | rfl | rfl | rfl | rfl | rfl | rfl
  all_goals
    refine am_wq_T (cut := fun _ _ => false) (inl := fun _ => true) 120 _ _ _ ?_
    repeat' first
       | (refine And.intro (fun hx_ => ?_) (fun hx_ => ?_) <;> first | exact absurd hx_ (of_decide_eq_false rfl) | exact absurd (of_decide_eq_true rfl) hx_ | exact absurd hx_ (by assumption) | exact absurd (by assumption) hx_ | skip)
       | (refine And.intro rfl ?_)
       | (refine And.intro ⟨rfl, vpd rfl⟩ ?_)
       | (refine And.intro ⟨rfl, by assumption⟩ ?_)
       | (refine And.intro (by assumption) ?_)
       | (refine And.intro ⟨rfl, ?_⟩ ?_)
       | (refine And.intro ?_ ?_)
    all_goals exact hK _ (by clear hK; simp_all [tjn])
theorem c_plain {a p q x : Int32} (hK : ∀ r, r = tpl p q x a → K (some (.int r)) (Kk, I, J, R, n, s)) : am_T am_C (59, 0, 0, [.int a, .int p, .int q, .int x], []) (Kk, I, J, R, n, s) K := by
  refine am_wq_T (cut := fun _ _ => false) (inl := fun _ => true) 120 _ _ _ ?_
  repeat' first
     | (refine And.intro (fun hx_ => ?_) (fun hx_ => ?_) <;> first | exact absurd hx_ (of_decide_eq_false rfl) | exact absurd (of_decide_eq_true rfl) hx_ | exact absurd hx_ (by assumption) | exact absurd (by assumption) hx_ | skip)
     | (refine And.intro rfl ?_)
     | (refine And.intro ⟨rfl, vpd rfl⟩ ?_)
     | (refine And.intro ⟨rfl, by assumption⟩ ?_)
     | (refine And.intro (by assumption) ?_)
     | (refine And.intro ⟨rfl, ?_⟩ ?_)
     | (refine And.intro ?_ ?_)
  all_goals exact hK _ (by clear hK; simp_all [tpl])
theorem row_up (I : Nat → Nat → Int32) (a : Nat) (g : Nat → Int32) {d : Nat} (h : d < 2147483648) (v : Int32) : am_up (am_row I a g) a (nI d).toNatClampNeg v = am_row I a (up1 g d v) := by
  rw [nI_clamp h]
  funext b j
  unfold am_up am_row up1
  by_cases hb : b = a
  · by_cases hj : j = d
    · simp [hb, hj]
    · simp [hb, hj]
  · simp [hb]
theorem row_up' {I : Nat → Nat → Int32} {a : Nat} {g : Nat → Int32} {d : Nat} {x : Int32} (hx : x = nI d) (h : d < 2147483648) (v : Int32) : am_up (am_row I a g) a x.toNatClampNeg v = am_row I a (up1 g d v) := by
  subst hx; exact row_up I a g h v
theorem row_at' {I : Nat → Nat → Int32} {a : Nat} {g : Nat → Int32} {d : Nat} {x : Int32} (hx : x = nI d) (h : d < 2147483648) : am_row I a g a x.toNatClampNeg = g d := by
  subst hx; rw [nI_clamp h]; unfold am_row; rw [if_pos rfl]
theorem ofNat_nI (k : Nat) : Int32.ofNat k = nI k := rfl
theorem nI_p1 (d : Nat) : nI (d + 1) - 1 = nI d := nI_pred d
theorem nI_m1 (d : Nat) : nI (d + 1) + -1 = nI d := by rw [← nI_p1 d, Int32.sub_eq_add_neg]
section CV
variable {r len d i : Nat} {p q x : Int32} {g : Nat → Int32} {v6 : Value} {a : Int32}
theorem c_value_A (h1 : Kk r = (6, 4)) (h2 : Kk (R r 2) = (20, len)) (h3 : Kk (R r 3) = (20, len)) (hl : len < 1000) (hi : i < len) (hd : d < len) (hc : am_row I (R r 3) g (R r 2) (nI i).toNatClampNeg = a) (ha : -3 ≤ a)
    (ih : ∀ v6, am_T am_C (58, 1, 6, [.ref r, .int p, .int q, .int x, .int (nI (d + 1)), .int (nI (i + 1)), v6], []) (Kk, am_row I (R r 3) (up1 g d (tpl p q x a)), J, R, n, s) K) : am_T am_C (58, 1, 6, [.ref r, .int p, .int q, .int x, .int (nI d), .int (nI i), v6], []) (Kk, am_row I (R r 3) g, J, R, n, s) K := by
  have h2' : (Kk (R r 2)).1 = 20 := by rw [h2]
  have h3' : (Kk (R r 3)).1 = 20 := by rw [h3]
  have e1 : ¬ Int32.ofNat (Kk (R r 2)).2 ≤ nI i := by rw [h2, ofNat_nI]; exact nI_ge hi (by omega)
  have e2 : vp_in (nI i) (Kk (R r 2)).2 := by rw [h2]; exact vpl hi (by omega)
  have e3 : ¬ Int32.ofNat (Kk (R r 3)).2 ≤ nI d := by rw [h3, ofNat_nI]; exact nI_ge hd (by omega)
  have e4 : vp_in (nI d) (Kk (R r 3)).2 := by rw [h3]; exact vpl hd (by omega)
  have e5 : ¬ am_row I (R r 3) g (R r 2) (nI i).toNatClampNeg < -3 := by rw [hc]; clear ih hc; (simp only [Int32.lt_iff_toInt_lt, Int32.le_iff_toInt_le, gt_iff_lt, ge_iff_le, ← Int32.toInt_inj, Int32.reduceToInt, Int32.reduceMul, Int32.reduceAdd, Int32.reduceSub, ne_eq, true_and, and_true, false_and, and_false, not_true_eq_false, not_false_eq_true, true_or, or_true, false_or, or_false] at *; omega)
  refine am_wq_T (cut := fun z pc => (Nat.beq z 58 && Nat.beq pc 6)) (inl := fun z => !((Nat.beq z 59 || Nat.beq z 60))) 120 _ _ _ ?_
  repeat' first
     | (refine And.intro (fun hx_ => ?_) (fun hx_ => ?_) <;> first | exact absurd hx_ (by assumption) | exact absurd (by assumption) hx_ | skip)
     | (refine c_plain (fun rv hr => ?_))
     | (refine And.intro (by assumption) ?_)
     | (refine And.intro ⟨by assumption, by assumption⟩ ?_)
     | (refine And.intro ⟨rfl, by assumption⟩ ?_)
     | (refine And.intro rfl ?_)
     | (refine And.intro (show ¬ ((_ : Int32) = 0) from of_decide_eq_true rfl) ?_)
  have hr : rv = tpl p q x (am_row I (R r 3) g (R r 2) (nI i).toNatClampNeg) := hr
  rw [hc] at hr
  rw [nI_succ d, nI_succ i, ← hr, ← row_up I (R r 3) g (d := d) (by omega)] at ih
  exact ih _
theorem c_value_B (h1 : Kk r = (6, 4)) (h2 : Kk (R r 2) = (20, len)) (h3 : Kk (R r 3) = (20, len)) (hl : len < 1000) (hi : i < len) (hd : d < len) (hc : am_row I (R r 3) g (R r 2) (nI i).toNatClampNeg = -33)
    (ih : ∀ v6, am_T am_C (58, 1, 6, [.ref r, .int p, .int q, .int x, .int (nI (d + 1)), .int (nI (i + 1)), v6], []) (Kk, am_row I (R r 3) (up1 g d (if g d = 0 then 1 else 0)), J, R, n, s) K) : am_T am_C (58, 1, 6, [.ref r, .int p, .int q, .int x, .int (nI (d + 1)), .int (nI i), v6], []) (Kk, am_row I (R r 3) g, J, R, n, s) K := by
  have h2' : (Kk (R r 2)).1 = 20 := by rw [h2]
  have h3' : (Kk (R r 3)).1 = 20 := by rw [h3]
  have e1 : ¬ Int32.ofNat (Kk (R r 2)).2 ≤ nI i := by rw [h2, ofNat_nI]; exact nI_ge hi (by omega)
  have e2 : vp_in (nI i) (Kk (R r 2)).2 := by rw [h2]; exact vpl hi (by omega)
  have e4 : vp_in (nI (d + 1) - 1) (Kk (R r 3)).2 := by rw [h3, nI_p1]; exact vpl hd (by omega)
  have e5 : am_row I (R r 3) g (R r 2) (nI i).toNatClampNeg < -3 := by rw [hc]; decide
  have e6 : ¬ nI (d + 1) < 1 := nI_nlt (b := 1) (by omega) (by omega)
  rw [nI_succ i] at ih
  refine am_wq_T (cut := fun z pc => (Nat.beq z 58 && Nat.beq pc 6)) (inl := fun z => !((Nat.beq z 59 || Nat.beq z 60))) 120 _ _ _ ?_
  repeat' first
     | (refine And.intro (fun hx_ => ?_) (fun hx_ => ?_) <;> first | exact absurd hx_ (by assumption) | exact absurd (by assumption) hx_ | skip)
     | (refine And.intro (by assumption) ?_)
     | (refine And.intro ⟨by assumption, by assumption⟩ ?_)
     | (refine And.intro ⟨rfl, by assumption⟩ ?_)
     | (refine And.intro rfl ?_)
     | (refine And.intro (show ¬ ((_ : Int32) = 0) from of_decide_eq_true rfl) ?_)
  · have hx : ¬ am_row I (R r 3) g (R r 3) (nI (d + 1) - 1).toNatClampNeg = 0 := hx_
    rw [row_at' (nI_p1 d) (by omega)] at hx
    rw [if_neg hx, ← row_up' (nI_p1 d) (by omega)] at ih
    exact ih _
  · have hx : ¬ ¬ am_row I (R r 3) g (R r 3) (nI (d + 1) - 1).toNatClampNeg = 0 := hx_
    rw [row_at' (nI_p1 d) (by omega)] at hx
    rw [if_pos (Classical.not_not.mp hx), ← row_up' (nI_p1 d) (by omega)] at ih
    exact ih _
theorem c_value_C (h1 : Kk r = (6, 4)) (h2 : Kk (R r 2) = (20, len)) (h3 : Kk (R r 3) = (20, len)) (hl : len < 1000) (hi : i < len) (hd : d + 1 < len) (hc : am_row I (R r 3) g (R r 2) (nI i).toNatClampNeg = a) (ha : a < -3) (hs : a ∈ tsg)
    (ih : ∀ v6, am_T am_C (58, 1, 6, [.ref r, .int p, .int q, .int x, .int (nI (d + 1)), .int (nI (i + 1)), v6], []) (Kk, am_row I (R r 3) (up1 g d (tjn a (g d) (g (d + 1)))), J, R, n, s) K) : am_T am_C (58, 1, 6, [.ref r, .int p, .int q, .int x, .int (nI (d + 2)), .int (nI i), v6], []) (Kk, am_row I (R r 3) g, J, R, n, s) K := by
  have h2' : (Kk (R r 2)).1 = 20 := by rw [h2]
  have h3' : (Kk (R r 3)).1 = 20 := by rw [h3]
  have e1 : ¬ Int32.ofNat (Kk (R r 2)).2 ≤ nI i := by rw [h2, ofNat_nI]; exact nI_ge hi (by omega)
  have e2 : vp_in (nI i) (Kk (R r 2)).2 := by rw [h2]; exact vpl hi (by omega)
  have f1 : nI (d + 2) + -1 = nI (d + 1) := nI_m1 (d + 1)
  have f2 : nI (d + 2) + -1 - 1 = nI d := by rw [f1, nI_p1]
  have e3 : vp_in (nI (d + 2) + -1 - 1) (Kk (R r 3)).2 := by rw [h3, f2]; exact vpl (by omega) (by omega)
  have e4 : vp_in (nI (d + 2) + -1) (Kk (R r 3)).2 := by rw [h3, f1]; exact vpl hd (by omega)
  have e5 : am_row I (R r 3) g (R r 2) (nI i).toNatClampNeg < -3 := by rw [hc]; exact ha
  have e6 : ¬ nI (d + 2) < 2 := nI_nlt (b := 2) (by omega) (by omega)
  have e7 : ¬ am_row I (R r 3) g (R r 2) (nI i).toNatClampNeg = -33 := by
    rw [hc]; intro q; subst q; exact absurd hs (by decide)
  rw [nI_succ i] at ih
  rw [← hc] at hs
  refine am_wq_T (cut := fun z pc => (Nat.beq z 58 && Nat.beq pc 6)) (inl := fun z => !((Nat.beq z 59 || Nat.beq z 60))) 120 _ _ _ ?_
  refine And.intro h1 (And.intro h2' (And.intro (fun q => absurd q e1) (fun _ => ?_)))
  refine And.intro h1 (And.intro ⟨h2', e2⟩ (And.intro (fun _ => ?_) (fun q => absurd e5 q)))
  refine And.intro (fun _ => ?_) (fun q => absurd e7 q)
  refine And.intro (fun q => absurd q e6) (fun _ => ?_)
  refine And.intro h1 (And.intro h1 (And.intro ⟨h3', e3⟩ (And.intro h1 (And.intro ⟨h3', e4⟩ ?_))))
  refine c_joined hs (fun rv hr => ?_)
  refine And.intro ⟨h3', e3⟩ ?_
  have hr : rv = tjn (am_row I (R r 3) g (R r 2) (nI i).toNatClampNeg) (am_row I (R r 3) g (R r 3) (nI (d + 2) + -1 - 1).toNatClampNeg) (am_row I (R r 3) g (R r 3) (nI (d + 2) + -1).toNatClampNeg) := hr
  rw [hc, row_at' f2 (by omega), row_at' f1 (by omega)] at hr
  rw [← hr, ← row_up' f2 (by omega), ← f1] at ih
  exact ih _
theorem c_value_E (h1 : Kk r = (6, 4)) (h2 : Kk (R r 2) = (20, len)) (h3 : Kk (R r 3) = (20, len)) (hl : len < 1000) (hl1 : 1 ≤ len) (hK : K (some (.int (g 0))) (Kk, am_row I (R r 3) g, J, R, n, s)) : am_T am_C (58, 1, 6, [.ref r, .int p, .int q, .int x, .int (nI 1), .int (nI len), v6], []) (Kk, am_row I (R r 3) g, J, R, n, s) K := by
  have h2' : (Kk (R r 2)).1 = 20 := by rw [h2]
  have h3' : (Kk (R r 3)).1 = 20 := by rw [h3]
  have e1 : Int32.ofNat (Kk (R r 2)).2 ≤ nI len := by rw [h2]; exact nI_le (Nat.le_refl _) (by omega)
  have e2 : vp_in (nI 1 - 1) (Kk (R r 3)).2 := by rw [h3]; exact vpl (k := 0) (by omega) (by omega)
  have e3 : ¬ nI 1 < 1 := by decide
  rw [← row_at' (I := I) (a := R r 3) (g := g) (x := nI 1 - 1) (d := 0) rfl (by decide)] at hK
  refine am_wq_T (cut := fun z pc => (Nat.beq z 58 && Nat.beq pc 6)) (inl := fun z => !((Nat.beq z 59 || Nat.beq z 60))) 120 _ _ _ ?_
  repeat' first
     | (refine And.intro (fun hx_ => ?_) (fun hx_ => ?_) <;> first | exact absurd hx_ (by assumption) | exact absurd (by assumption) hx_ | skip)
     | (refine And.intro (by assumption) ?_)
     | (refine And.intro ⟨by assumption, by assumption⟩ ?_)
     | (refine And.intro ⟨rfl, by assumption⟩ ?_)
     | (refine And.intro rfl ?_)
     | (refine And.intro (show ¬ ((_ : Int32) = 0) from of_decide_eq_true rfl) ?_)
  exact hK
/-- a code that a text can have -/
def cdk (a : Int32) : Prop := (-3 ≤ a ∧ a ≤ 9999) ∨ a ∈ ([-33, -38, -42, -43, -45, -47, -60, -61, -62, -124] : List Int32)
theorem cdk_s {a : Int32} (h : cdk a) (h1 : ¬ -3 ≤ a) (h2 : ¬ a = -33) : a ∈ tsg ∧ a < -3 := by
  rcases h with h | h
  · exact absurd h.1 h1
  · refine ⟨?_, by clear h; (simp only [Int32.lt_iff_toInt_lt, Int32.le_iff_toInt_le, gt_iff_lt, ge_iff_le, ← Int32.toInt_inj, Int32.reduceToInt, Int32.reduceMul, Int32.reduceAdd, Int32.reduceSub, ne_eq, true_and, and_true, false_and, and_false, not_true_eq_false, not_false_eq_true, true_or, or_true, false_or, or_false] at *; omega)⟩
    simp only [tsg, List.mem_cons, List.not_mem_nil, or_false] at h ⊢
    rcases h with h | h
    · exact absurd h h2
    · exact h
theorem c_value_r (h1 : Kk r = (6, 4)) (h2 : Kk (R r 2) = (20, len)) (h3 : Kk (R r 3) = (20, len)) (hn : R r 2 ≠ R r 3) (hl : len < 1000) (hl1 : 1 ≤ len) : ∀ (rest : List Int32) (i d : Nat) (g : Nat → Int32) (v6 : Value), i + rest.length = len → d ≤ i → (∀ k, k < rest.length → I (R r 2) (i + k) = rest.getD k 0) → (∀ k, k < rest.length → cdk (rest.getD k 0)) → sg_dp rest d = some 1 →
    (∀ g', g' 0 = evg p q x rest d g 0 → K (some (.int (g' 0))) (Kk, am_row I (R r 3) g', J, R, n, s)) → am_T am_C (58, 1, 6, [.ref r, .int p, .int q, .int x, .int (nI d), .int (nI i), v6], []) (Kk, am_row I (R r 3) g, J, R, n, s) K
  | [], i, d, g, v6, hi, hd, hc, hk, hp, hK => by
    have e1 : i = len := by rw [← hi]; rfl
    have e2 : d = 1 := by injection hp
    subst e1; subst e2
    exact c_value_E h1 h2 h3 hl hl1 (hK g rfl)
  | a :: rest, i, d, g, v6, hi, hd, hc, hk, hp, hK => by
    have hlen : i + (rest.length + 1) = len := hi
    have c0 : am_row I (R r 3) g (R r 2) (nI i).toNatClampNeg = a := by
      rw [nI_clamp (by omega), row_off hn]
      exact hc 0 (Nat.succ_pos _)
    have hc' : ∀ k, k < rest.length → I (R r 2) (i + 1 + k) = rest.getD k 0 := fun k h => by
      have := hc (k + 1) (Nat.succ_lt_succ h)
      rw [show i + (k + 1) = i + 1 + k by omega] at this
      exact this
    have hk' : ∀ k, k < rest.length → cdk (rest.getD k 0) := fun k h => hk (k + 1) (Nat.succ_lt_succ h)
    have hk0 : cdk a := hk 0 (Nat.succ_pos _)
    unfold sg_dp at hp
    unfold evg at hK
    by_cases ca : -3 ≤ a
    · rw [if_pos ca] at hp hK
      exact c_value_A h1 h2 h3 hl (by omega) (by omega) c0 ca fun v => c_value_r h1 h2 h3 hn hl hl1 rest (i + 1) (d + 1) _ v (by omega) (by omega) hc' hk' hp hK
    · rw [if_neg ca] at hp hK
      by_cases cb : a = -33
      · rw [if_pos cb] at hp hK
        by_cases c0' : d = 0
        · rw [if_pos c0'] at hp; cases hp
        · rw [if_neg c0'] at hp
          obtain ⟨d, rfl⟩ : ∃ e, d = e + 1 := ⟨d - 1, by omega⟩
          rw [cb] at c0
          exact c_value_B h1 h2 h3 hl (by omega) (by omega) c0 fun v => c_value_r h1 h2 h3 hn hl hl1 rest (i + 1) (d + 1) _ v (by omega) (by omega) hc' hk' hp hK
      · rw [if_neg cb] at hp hK
        obtain ⟨hs, hs2⟩ := cdk_s hk0 ca cb
        by_cases c2 : d < 2
        · rw [if_pos c2] at hp; cases hp
        · rw [if_neg c2] at hp
          obtain ⟨d, rfl⟩ : ∃ e, d = e + 2 := ⟨d - 2, by omega⟩
          exact c_value_C h1 h2 h3 hl (by omega) (by omega) c0 hs2 hs fun v => c_value_r h1 h2 h3 hn hl hl1 rest (i + 1) (d + 1) _ v (by omega) (by omega) hc' hk' hp hK
theorem row_self (I : Nat → Nat → Int32) (a : Nat) : am_row I a (I a) = I := by
  funext b j
  unfold am_row
  by_cases h : b = a
  · rw [if_pos h, h]
  · rw [if_neg h]
theorem sg_dp_1 {cs : List Int32} (h : sg_dp cs 0 = some 1) : 1 ≤ cs.length := by
  cases cs with
  | nil => injection h with h; cases h
  | cons a r => exact Nat.succ_pos _
theorem c_value {cs : List Int32} (h1 : Kk r = (6, 4)) (h2 : Kk (R r 2) = (20, len)) (h3 : Kk (R r 3) = (20, len)) (hn : R r 2 ≠ R r 3) (hl : len ≤ 95) (hcl : cs.length = len) (hc : ∀ k, k < len → I (R r 2) k = cs.getD k 0) (hk : ∀ k, k < len → cdk (cs.getD k 0)) (hp : sg_dp cs 0 = some 1)
    (hK : ∀ g', K (some (.int (tv p q x cs))) (Kk, am_row I (R r 3) g', J, R, n, s)) : am_T am_C (58, 1, 0, [.ref r, .int p, .int q, .int x, .null, .null, .null], []) (Kk, I, J, R, n, s) K := by
  have hl1 := sg_dp_1 hp
  refine am_wq_T (cut := fun z pc => (Nat.beq z 58 && Nat.beq pc 6)) (inl := fun _ => false) 120 _ _ _ ?_
  have key := c_value_r (I := I) (p := p) (q := q) (x := x) (K := K) (n := n) (s := s) (J := J) h1 h2 h3 hn (by omega) (by omega) cs 0 0 (I (R r 3)) .null (by omega) (Nat.le_refl _) (fun k h => by rw [Nat.zero_add]; exact hc k (by omega)) (fun k h => hk k (by omega)) hp fun g' hg => by
    have e : g' 0 = tv p q x cs := by
      rw [hg]
      exact evg_cg cs 0 1 _ _ hp (fun k h => absurd h (by omega)) 0 (by decide)
    rw [e]; exact hK g'
  rw [row_self] at key
  exact key
end CV
end T43
