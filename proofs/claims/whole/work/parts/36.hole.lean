/-! a hole of the class: its worth, its kinds -/
section T36
variable {kt : Nat → Nat × Nat} {I : Nat → Nat → Int32} {J : Nat → Nat → Int64} {T : Nat → Nat → Nat} {n s : Nat} {L : Nat} {xs : Nat → Int32} {K : Option Value → am_M → Prop}
theorem e111 (d : Int32) : (120 : Int32) - d - 9 = 111 - d := by
  rw [Int32.sub_eq_add_neg, Int32.sub_eq_add_neg, Int32.sub_eq_add_neg, Int32.add_assoc, Int32.add_comm (-d), ← Int32.add_assoc]
  rfl
theorem c_worth {r : Nat} (hk : am_K (am_k kt, I, J, am_r T, n, s) r = (1, 5)) (hK : K (some (.int (sg_worth (I r 0) (I r 1) (I r 2) (I r 3)))) (am_mk kt I J T n s)) : am_T am_C (12, 0, 0, [.ref r], []) (am_mk kt I J T n s) K := by
  unfold sg_worth at hK
  refine am_wq_T (cut := fun _ _ => false) (inl := fun _ => true) 120 _ _ _ ?_
  repeat' first
     | (refine And.intro (fun hx_ => ?_) (fun hx_ => ?_) <;> first | exact absurd hx_ (of_decide_eq_false rfl) | exact absurd (of_decide_eq_true rfl) hx_ | exact absurd hx_ (by assumption) | exact absurd (by assumption) hx_ | skip)
     | (refine And.intro rfl ?_)
     | (refine And.intro ⟨rfl, vpd rfl⟩ ?_)
     | (refine And.intro ⟨rfl, by assumption⟩ ?_)
     | (refine And.intro (by assumption) ?_)
     | (refine And.intro ⟨rfl, ?_⟩ ?_)
     | (refine And.intro ?_ ?_)
  all_goals first
    | (rw [if_pos (by assumption)] at hK; exact hK)
    | (rw [if_neg (by assumption), if_pos (by assumption)] at hK; exact hK)
    | (rw [if_neg (by assumption), if_neg (by assumption), if_pos (by assumption)] at hK; exact hK)
    | (rw [if_neg (by assumption), if_neg (by assumption), if_neg (by assumption), if_pos (by assumption), ← e111] at hK; exact hK)
    | (rw [if_neg (by assumption), if_neg (by assumption), if_neg (by assumption), if_neg (by assumption), if_pos (by assumption)] at hK; exact hK)
    | (rw [if_neg (by assumption), if_neg (by assumption), if_neg (by assumption), if_neg (by assumption), if_neg (by assumption)] at hK; exact hK)
theorem m_worth {h : Nat} (hh : h ≤ 10) (hK : K (some (.int (sg_worth (I 108 (21 + 5 * h)) (I 108 (21 + 5 * h + 1)) (I 108 (21 + 5 * h + 2)) (I 108 (21 + 5 * h + 3))))) (am_mk kt I J T n s)) : am_T am_C (127, 1, 0, [.ref 107, .int (nI h), .null], []) (am_mk kt I J T n s) K := by
  unfold sg_worth at hK
  refine am_wq_T (cut := fun _ _ => false) (inl := fun z => !(Nat.beq z 121)) 120 _ _ _ ?_
  repeat' first
     | (refine m_of (h := h) (w := 0) rfl rfl hh (by decide) ?_)
     | (refine m_of (h := h) (w := 1) rfl rfl hh (by decide) ?_)
     | (refine m_of (h := h) (w := 2) rfl rfl hh (by decide) ?_)
     | (refine m_of (h := h) (w := 3) rfl rfl hh (by decide) ?_)
     | (refine And.intro (fun hx_ => ?_) (fun hx_ => ?_) <;> first | exact absurd hx_ (of_decide_eq_false rfl) | exact absurd (of_decide_eq_true rfl) hx_ | exact absurd hx_ (by assumption) | exact absurd (by assumption) hx_ | skip)
     | (refine And.intro rfl ?_)
     | (refine And.intro ⟨rfl, vpd rfl⟩ ?_)
     | (refine And.intro ⟨rfl, by assumption⟩ ?_)
     | (refine And.intro (by assumption) ?_)
     | (refine And.intro ⟨rfl, ?_⟩ ?_)
     | (refine And.intro ?_ ?_)
  all_goals first
    | (rw [if_pos (by assumption)] at hK; exact hK)
    | (rw [if_neg (by assumption), if_pos (by assumption)] at hK; exact hK)
    | (rw [if_neg (by assumption), if_neg (by assumption), if_pos (by assumption)] at hK; exact hK)
    | (rw [if_neg (by assumption), if_neg (by assumption), if_neg (by assumption), if_pos (by assumption)] at hK; exact hK)
    | (rw [if_neg (by assumption), if_neg (by assumption), if_neg (by assumption), if_neg (by assumption), if_pos (by assumption)] at hK; exact hK)
    | (rw [if_neg (by assumption), if_neg (by assumption), if_neg (by assumption), if_neg (by assumption), if_neg (by assumption)] at hK; exact hK)
/-- whether a kind is one kind of hole, or stands under it -/
def und (k w : Int32) : Prop := w = 0 ∨ k = w ∨ (w = 1 ∧ k = 3) ∨ (w = 2 ∧ k = 4)
theorem m_under {k w : Int32} (h1 : und k w → K (some (.int 1)) (am_mk kt I J T n s)) (h2 : ¬ und k w → K (some (.int 0)) (am_mk kt I J T n s)) : am_T am_C (129, 0, 0, [.int k, .int w], []) (am_mk kt I J T n s) K := by
  unfold und at h1 h2
  refine am_wq_T (cut := fun _ _ => false) (inl := fun _ => true) 120 _ _ _ ?_
  repeat' first
     | (refine And.intro (fun hx_ => ?_) (fun hx_ => ?_) <;> first | exact absurd hx_ (of_decide_eq_false rfl) | exact absurd (of_decide_eq_true rfl) hx_ | exact absurd hx_ (by assumption) | exact absurd (by assumption) hx_ | skip)
     | (refine And.intro rfl ?_)
     | (refine And.intro ⟨rfl, vpd rfl⟩ ?_)
     | (refine And.intro ⟨rfl, by assumption⟩ ?_)
     | (refine And.intro (by assumption) ?_)
     | (refine And.intro ⟨rfl, ?_⟩ ?_)
     | (refine And.intro ?_ ?_)
  all_goals first | exact h1 (by clear h1 h2; (simp only [Int32.lt_iff_toInt_lt, Int32.le_iff_toInt_le, gt_iff_lt, ge_iff_le, ← Int32.toInt_inj, Int32.reduceToInt, Int32.reduceMul, Int32.reduceAdd, Int32.reduceSub, ne_eq, true_and, and_true, false_and, and_false, not_true_eq_false, not_false_eq_true, true_or, or_true, false_or, or_false] at *; omega)) | exact h2 (by clear h1 h2; (simp only [Int32.lt_iff_toInt_lt, Int32.le_iff_toInt_le, gt_iff_lt, ge_iff_le, ← Int32.toInt_inj, Int32.reduceToInt, Int32.reduceMul, Int32.reduceAdd, Int32.reduceSub, ne_eq, true_and, and_true, false_and, and_false, not_true_eq_false, not_false_eq_true, true_or, or_true, false_or, or_false] at *; omega))
theorem am_14 (hA : I 14 = am_above) : I = am_row I 14 am_above := by
  funext r k
  unfold am_row
  by_cases h : r = 14
  · subst h; rw [if_pos rfl, hA]
  · rw [if_neg h]
theorem mI14 (kk : Nat → Nat × Nat) (JJ : Nat → Nat → Int64) (RR : Nat → Nat → Nat) (nn ss x : Nat) : am_I (kk, am_row I 14 am_above, JJ, RR, nn, ss) 14 x = am_above x := rfl
theorem ab0 : am_above (Int32.toNatClampNeg 0) = -1 := rfl
theorem ab1 : am_above (Int32.toNatClampNeg 1) = 0 := rfl
theorem ab2 : am_above (Int32.toNatClampNeg 2) = 0 := rfl
theorem ab3 : am_above (Int32.toNatClampNeg 3) = 1 := rfl
theorem ab4 : am_above (Int32.toNatClampNeg 4) = 2 := rfl
theorem ab5 : am_above (Int32.toNatClampNeg 5) = 0 := rfl
theorem c_isOf_l {r : Nat} {k : Int32} (w : Int32) (hb : sg_in k 0 5) (h1 : und k w → K (some (.int 1)) (am_mk kt (am_row I 14 am_above) J T n s)) (h2 : ¬ und k w → K (some (.int 0)) (am_mk kt (am_row I 14 am_above) J T n s)) : am_T am_C (11, 0, 7, [.ref r, .int w, .int k, .int 0], []) (am_mk kt (am_row I 14 am_above) J T n s) K := by
  unfold und at h1 h2
  have hk : k = 0 ∨ k = 1 ∨ k = 2 ∨ k = 3 ∨ k = 4 ∨ k = 5 := by clear h1 h2; unfold sg_in at hb; (simp only [Int32.lt_iff_toInt_lt, Int32.le_iff_toInt_le, gt_iff_lt, ge_iff_le, ← Int32.toInt_inj, Int32.reduceToInt, Int32.reduceMul, Int32.reduceAdd, Int32.reduceSub, ne_eq, true_and, and_true, false_and, and_false, not_true_eq_false, not_false_eq_true, true_or, or_true, false_or, or_false] at *; omega)
  rcases hk with rfl | rfl | rfl | rfl | rfl | rfl
  all_goals
    refine am_wq_T (cut := fun _ _ => false) (inl := fun _ => true) 120 _ _ _ ?_
    repeat' first
       | (refine And.intro (fun hx_ => ?_) (fun hx_ => ?_) <;> first | exact absurd hx_ (of_decide_eq_false rfl) | exact absurd (of_decide_eq_true rfl) hx_ | exact absurd hx_ (by assumption) | exact absurd (by assumption) hx_ | skip)
       | (refine And.intro rfl ?_)
       | (refine And.intro ⟨rfl, vpd rfl⟩ ?_)
       | (refine And.intro ⟨rfl, by assumption⟩ ?_)
       | (refine And.intro (by assumption) ?_)
       | (refine And.intro ⟨rfl, ?_⟩ ?_)
       | (refine And.intro ?_ ?_)
    all_goals first | exact h1 (by clear h1 h2; (simp only [Int32.lt_iff_toInt_lt, Int32.le_iff_toInt_le, gt_iff_lt, ge_iff_le, ← Int32.toInt_inj, Int32.reduceToInt, Int32.reduceMul, Int32.reduceAdd, Int32.reduceSub, ne_eq, true_and, and_true, false_and, and_false, not_true_eq_false, not_false_eq_true, true_or, or_true, false_or, or_false, mI14, ab0, ab1, ab2, ab3, ab4, ab5] at *; omega)) | exact h2 (by clear h1 h2; (simp only [Int32.lt_iff_toInt_lt, Int32.le_iff_toInt_le, gt_iff_lt, ge_iff_le, ← Int32.toInt_inj, Int32.reduceToInt, Int32.reduceMul, Int32.reduceAdd, Int32.reduceSub, ne_eq, true_and, and_true, false_and, and_false, not_true_eq_false, not_false_eq_true, true_or, or_true, false_or, or_false, mI14, ab0, ab1, ab2, ab3, ab4, ab5] at *; omega))
theorem c_isOf {r : Nat} (w : Int32) (hA : I 14 = am_above) (hk : am_K (am_k kt, I, J, am_r T, n, s) r = (1, 5)) (hb : sg_in (I r 0) 0 5) (h1 : und (I r 0) w → K (some (.int 1)) (am_mk kt I J T n s)) (h2 : ¬ und (I r 0) w → K (some (.int 0)) (am_mk kt I J T n s)) : am_T am_C (11, 0, 0, [.ref r, .int w, .null, .null], []) (am_mk kt I J T n s) K := by
  refine am_wq_T (cut := fun z pc => (Nat.beq z 11 && Nat.beq pc 7)) (inl := fun _ => false) 120 _ _ _ ?_
  refine And.intro hk ?_
  show am_T am_C (11, 0, 7, [.ref r, .int w, .int (I r 0), .int 0], []) (am_mk kt I J T n s) K
  have e := am_14 hA
  generalize I r 0 = k at *
  rw [e] at h1 h2 ⊢
  exact c_isOf_l w hb h1 h2
end T36
