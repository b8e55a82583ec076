/-! texts of the reference; which counts -/
section T44
/-- what has changed lies in the rows P -/
def ch (P : Nat → Prop) (I I' : Nat → Nat → Int32) : Prop := ∀ r, ¬ P r → I' r = I r
theorem ch_rfl {P : Nat → Prop} {I : Nat → Nat → Int32} : ch P I I := fun _ _ => rfl
theorem ch_tr {P Q S : Nat → Prop} {I I' I2 : Nat → Nat → Int32} (h : ch P I I') (h' : ch Q I' I2) (q : ∀ r, P r ∨ Q r → S r) : ch S I I2 := fun r hr => (h' r fun c => hr (q r (.inr c))).trans (h r fun c => hr (q r (.inl c)))
theorem ch_w {P Q : Nat → Prop} {I I' : Nat → Nat → Int32} (h : ch P I I') (q : ∀ r, P r → Q r) : ch Q I I' := fun r hr => h r fun c => hr (q r c)
theorem ch_up {P : Nat → Prop} {I : Nat → Nat → Int32} {a k : Nat} {v : Int32} (h : P a) : ch P I (am_up I a k v) := fun r hr => up_off fun e => hr (e ▸ h)
theorem ch_row {P : Nat → Prop} {I : Nat → Nat → Int32} {a : Nat} {g : Nat → Int32} (h : P a) : ch P I (am_row I a g) := fun r hr => row_off fun e => hr (e ▸ h)
theorem nI_mod {a b : Nat} (ha : a < 2 ^ 31) (hb : b < 2 ^ 31) (h0 : 0 < b) : nI a % nI b = nI (a % b) := by
  have hm : a % b < b := Nat.mod_lt _ h0
  exact Int32.toInt_inj.mp (by rw [Int32.toInt_mod, nI_toInt ha, nI_toInt hb, nI_toInt (by omega), ← Int.ofNat_tmod])
def sg_ti (b : Int32) : Int32 :=
  if b = 10000 then -1 else if b = 10001 then -2 else if b = 10002 then -3
  else if b = -10 then -33 else if b = -2 then -38 else if b = -8 then -42 else if b = -6 then -43 else if b = -7 then -45 else if b = -9 then -47
  else if b = -3 then -60 else if b = -4 then -61 else if b = -5 then -62 else if b = -1 then -124 else b
theorem i32_ne {a c : Int32} (h : a.toInt ≠ c.toInt) : ¬ a = c := fun q => h (by rw [q])
theorem sg_tr_pos {a : Int32} (h0 : 0 ≤ a) (h1 : a ≤ 9999) : sg_tr a = a ∧ sg_ti a = a := by
  have e : ∀ c : Int32, (c.toInt < 0 ∨ 9999 < c.toInt) → ¬ a = c := fun c hc => i32_ne (by
    have h0 := Int32.le_iff_toInt_le.mp h0
    have h1 := Int32.le_iff_toInt_le.mp h1
    simp only [Int32.reduceToInt] at h0 h1
    omega)
  refine ⟨?_, ?_⟩
  · unfold sg_tr
    rw [if_neg (e _ (by decide)), if_neg (e _ (by decide)), if_neg (e _ (by decide)), if_neg (e _ (by decide)), if_neg (e _ (by decide)), if_neg (e _ (by decide)), if_neg (e _ (by decide)), if_neg (e _ (by decide)), if_neg (e _ (by decide)), if_neg (e _ (by decide)), if_neg (e _ (by decide)), if_neg (e _ (by decide)), if_neg (e _ (by decide))]
  · unfold sg_ti
    rw [if_neg (e _ (by decide)), if_neg (e _ (by decide)), if_neg (e _ (by decide)), if_neg (e _ (by decide)), if_neg (e _ (by decide)), if_neg (e _ (by decide)), if_neg (e _ (by decide)), if_neg (e _ (by decide)), if_neg (e _ (by decide)), if_neg (e _ (by decide)), if_neg (e _ (by decide)), if_neg (e _ (by decide)), if_neg (e _ (by decide))]
theorem cdk_c {a : Int32} (h : cdk a) : (0 ≤ a ∧ a ≤ 9999) ∨ a = -1 ∨ a = -2 ∨ a = -3 ∨ a = -33 ∨ a ∈ tsg := by
  rcases h with h | h
  · by_cases c : 0 ≤ a
    · exact .inl ⟨c, h.2⟩
    · by_cases c1 : a = -1
      · exact .inr (.inl c1)
      · by_cases c2 : a = -2
        · exact .inr (.inr (.inl c2))
        · refine .inr (.inr (.inr (.inl ?_)))
          obtain ⟨h1, h2⟩ := h
          (simp only [Int32.lt_iff_toInt_lt, Int32.le_iff_toInt_le, gt_iff_lt, ge_iff_le, ← Int32.toInt_inj, Int32.reduceToInt, Int32.reduceMul, Int32.reduceAdd, Int32.reduceSub, ne_eq, true_and, and_true, false_and, and_false, not_true_eq_false, not_false_eq_true, true_or, or_true, false_or, or_false] at *; omega)
  · rcases List.mem_cons.mp h with h | h
    · exact .inr (.inr (.inr (.inr (.inl h))))
    · exact .inr (.inr (.inr (.inr (.inr h))))
theorem sg_ti_tr {a : Int32} (h : cdk a) : sg_ti (sg_tr a) = a := by
  rcases cdk_c h with c | rfl | rfl | rfl | rfl | c
  · rw [(sg_tr_pos c.1 c.2).1, (sg_tr_pos c.1 c.2).2]
  · rfl
  · rfl
  · rfl
  · rfl
  · simp only [tsg, List.mem_cons, List.not_mem_nil, or_false] at c
    rcases c with rfl | rfl | rfl | rfl | rfl | rfl | rfl | rfl | rfl <;> rfl
/-- a text in the row -/
def TX (N : Nat → Int32) (t : Nat) (key len : Nat) (cs : List Int32) : Prop := key ≤ 2 ∧ len ≤ 95 ∧ cs.length = len ∧ N (76 + 2 * t) = nI (1000 * key + len) ∧ (∀ k, k < len → N (104 + 96 * t + k) = sg_tr (cs.getD k 0)) ∧ sg_dp cs 0 = some 1 ∧ ∀ k, k < len → cdk (cs.getD k 0) ∧ (key ≠ 1 → cs.getD k 0 ≠ -3)
def csN (N : Nat → Int32) (t : Nat) : List Int32 := (List.range (N (76 + 2 * t) % 1000).toNatClampNeg).map fun k => sg_ti (N (104 + 96 * t + k))
theorem TX_len {N : Nat → Int32} {t key len : Nat} {cs : List Int32} (h : TX N t key len cs) : N (76 + 2 * t) % 1000 = nI len ∧ N (76 + 2 * t) / 1000 = nI key := by
  obtain ⟨h1, h2, h3, h4, -⟩ := h
  rw [h4]
  refine ⟨?_, ?_⟩
  · rw [show (1000 : Int32) = nI 1000 from rfl, nI_mod (by omega) (by decide) (by decide), show (1000 * key + len) % 1000 = len by omega]
  · rw [show (1000 : Int32) = nI 1000 from rfl, pk_div (by omega) (by decide) (by decide), show (1000 * key + len) / 1000 = key by omega]
theorem TX_cs {N : Nat → Int32} {t key len : Nat} {cs : List Int32} (h : TX N t key len cs) : csN N t = cs := by
  have e := (TX_len h).1
  obtain ⟨h1, h2, h3, h4, h5, h6, h7⟩ := h
  unfold csN
  rw [e, nI_clamp (by omega)]
  refine List.ext_getElem (by simp [h3]) fun k a b => ?_
  rw [List.getElem_map, List.getElem_range, h5 k (by omega), sg_ti_tr (h7 k (by omega)).1, List.getD_eq_getElem?_getD, List.getElem?_eq_getElem b]
  rfl
theorem Txt_TX {kt : Nat → Nat × Nat} {I : Nat → Nat → Int32} {T : Nat → Nat → Nat} {n r t : Nat} {N : Nat → Int32} (h : sg_Txt kt I T n r t N) : ∃ key len cs, TX N t key len cs := by
  obtain ⟨key, len, cs, h0, h1, h2, h3, h4, h5, h6, h7, h8, h9, h10, h11, h12, h13, h14, h15, h16⟩ := h
  exact ⟨key, len, cs, h8, h9, h10, h13, fun k hk => (h14 k hk).2, h15, h16⟩
/-- its value -/
def tvN (N : Nat → Int32) (t : Nat) (p q x : Int32) : Int32 := tv p q x (csN N t)
theorem evg_x {p q x x' : Int32} : ∀ (cs : List Int32) (d : Nat) (g : Nat → Int32), (∀ k, k < cs.length → cs.getD k 0 ≠ -3) → evg p q x cs d g = evg p q x' cs d g
  | [], _, _, _ => rfl
  | a :: r, d, g, h => by
    have h0 : a ≠ -3 := h 0 (Nat.succ_pos _)
    have h' : ∀ k, k < r.length → r.getD k 0 ≠ -3 := fun k hk => h (k + 1) (Nat.succ_lt_succ hk)
    have e : tpl p q x a = tpl p q x' a := by unfold tpl; rw [if_neg h0, if_neg h0]
    unfold evg
    rw [e, evg_x (x := x) (x' := x') r _ _ h', evg_x (x := x) (x' := x') r _ _ h', evg_x (x := x) (x' := x') r _ _ h']
theorem TX_x {N : Nat → Int32} {t key len : Nat} {cs : List Int32} {p q : Int32} (h : TX N t key len cs) (hk : key ≠ 1) (x x' : Int32) : tvN N t p q x = tvN N t p q x' := by
  unfold tvN tv
  rw [TX_cs h, evg_x (x' := x') cs 0 _ fun k hk' => (h.2.2.2.2.2.2 k (by rw [← h.2.2.1]; exact hk')).2 hk]
variable {kt : Nat → Nat × Nat} {I I' : Nat → Nat → Int32} {J J' : Nat → Nat → Int64} {T : Nat → Nat → Nat} {n s : Nat} {L : Nat} {xs : Nat → Int32} {K : Option Value → am_M → Prop}
section MW
variable {t len d i : Nat} {g : Nat → Int32} {v5 : Value} {a w : Int32}
theorem i104 (t i : Nat) : (104 : Int32) + 96 * nI t + nI i = nI (104 + 96 * t + i) := by
  rw [show (104 : Int32) = nI 104 from rfl, show (96 : Int32) = nI 96 from rfl, pk_mul, nI_add, nI_add]
theorem i76 (t : Nat) : (76 : Int32) + 2 * nI t = nI (76 + 2 * t) := by
  rw [show (76 : Int32) = nI 76 from rfl, show (2 : Int32) = nI 2 from rfl, pk_mul, nI_add]
theorem m_works_A1 (ht : t < 14) (hl : len ≤ 95) (hi : i < len) (hd : d < 96) (hc : I 108 (104 + 96 * nI t + nI i).toNatClampNeg = w) (h0 : 0 ≤ w) (h1 : w ≤ 9999)
    (ih : ∀ v5, am_T am_C (188, 1, 21, [.ref 107, .int (nI t), .int (nI (d + 1)), .int (nI len), .int (nI (i + 1)), v5], []) (am_mk kt (am_row I 123 (up1 g d w)) J T n s) K) : am_T am_C (188, 1, 21, [.ref 107, .int (nI t), .int (nI d), .int (nI len), .int (nI i), v5], []) (am_mk kt (am_row I 123 g) J T n s) K := by
  have e1 : ¬ nI len ≤ nI i := nI_ge hi (by omega)
  have e2 : vp_in (104 + 96 * nI t + nI i) 1448 := by rw [i104]; exact vpl (by omega) (by decide)
  have e3 : ¬ I 108 (104 + 96 * nI t + nI i).toNatClampNeg < 0 := by rw [hc]; clear ih hc; (simp only [Int32.lt_iff_toInt_lt, Int32.le_iff_toInt_le, gt_iff_lt, ge_iff_le, ← Int32.toInt_inj, Int32.reduceToInt, Int32.reduceMul, Int32.reduceAdd, Int32.reduceSub, ne_eq, true_and, and_true, false_and, and_false, not_true_eq_false, not_false_eq_true, true_or, or_true, false_or, or_false] at *; omega)
  have e4 : ¬ 10000 ≤ I 108 (104 + 96 * nI t + nI i).toNatClampNeg := by rw [hc]; clear ih hc; (simp only [Int32.lt_iff_toInt_lt, Int32.le_iff_toInt_le, gt_iff_lt, ge_iff_le, ← Int32.toInt_inj, Int32.reduceToInt, Int32.reduceMul, Int32.reduceAdd, Int32.reduceSub, ne_eq, true_and, and_true, false_and, and_false, not_true_eq_false, not_false_eq_true, true_or, or_true, false_or, or_false] at *; omega)
  have e5 : vp_in (nI d) 96 := vpl hd (by decide)
  rw [nI_succ d, nI_succ i, ← hc, ← row_up I 123 g (d := d) (by omega)] at ih
  refine am_wq_T (cut := fun z pc => (Nat.beq z 188 && Nat.beq pc 21)) (inl := fun _ => false) 120 _ _ _ ?_
  refine And.intro (fun q => absurd q e1) (fun _ => And.intro rfl (And.intro ⟨rfl, e2⟩ (And.intro (fun q => absurd q e3) (fun _ => And.intro rfl (And.intro (fun q => absurd q e4) (fun _ => And.intro ⟨rfl, e5⟩ ?_))))))
  exact ih _
theorem m_works_A2 {j : Nat} (hj : j < 4) (ht : t < 14) (hl : len ≤ 95) (hi : i < len) (hd : d < 96) (hc : I 108 (104 + 96 * nI t + nI i).toNatClampNeg = nI (10000 + j)) (hv : I 124 j = w)
    (ih : ∀ v5, am_T am_C (188, 1, 21, [.ref 107, .int (nI t), .int (nI (d + 1)), .int (nI len), .int (nI (i + 1)), v5], []) (am_mk kt (am_row I 123 (up1 g d w)) J T n s) K) : am_T am_C (188, 1, 21, [.ref 107, .int (nI t), .int (nI d), .int (nI len), .int (nI i), v5], []) (am_mk kt (am_row I 123 g) J T n s) K := by
  have e1 : ¬ nI len ≤ nI i := nI_ge hi (by omega)
  have e2 : vp_in (104 + 96 * nI t + nI i) 1448 := by rw [i104]; exact vpl (by omega) (by decide)
  have e3 : ¬ I 108 (104 + 96 * nI t + nI i).toNatClampNeg < 0 := by rw [hc]; exact nI_pos (by omega)
  have e4 : 10000 ≤ I 108 (104 + 96 * nI t + nI i).toNatClampNeg := by rw [hc]; exact nI_le (a := 10000) (by omega) (by omega)
  have e5 : vp_in (nI d) 96 := vpl hd (by decide)
  have f : I 108 (104 + 96 * nI t + nI i).toNatClampNeg - 10000 = nI j := by
    rw [hc, Nat.add_comm, ← nI_add, show nI 10000 = (10000 : Int32) from rfl]
    exact Int32.add_sub_cancel _ _
  have e6 : vp_in (I 108 (104 + 96 * nI t + nI i).toNatClampNeg - 10000) 4 := by rw [f]; exact vpl hj (by decide)
  rw [← nI_clamp (n := j) (by omega), ← f] at hv
  rw [nI_succ d, nI_succ i, ← hv, ← row_up I 123 g (d := d) (by omega)] at ih
  refine am_wq_T (cut := fun z pc => (Nat.beq z 188 && Nat.beq pc 21)) (inl := fun _ => false) 120 _ _ _ ?_
  refine And.intro (fun q => absurd q e1) (fun _ => And.intro rfl (And.intro ⟨rfl, e2⟩ (And.intro (fun q => absurd q e3) (fun _ => And.intro rfl (And.intro (fun _ => And.intro rfl (And.intro ⟨rfl, e6⟩ (And.intro ⟨rfl, e5⟩ ?_))) (fun q => absurd e4 q))))))
  exact ih _
theorem m_works_B (ht : t < 14) (hl : len ≤ 95) (hi : i < len) (hd : d < 96) (hc : I 108 (104 + 96 * nI t + nI i).toNatClampNeg = -10)
    (ih : ∀ v5, am_T am_C (188, 1, 21, [.ref 107, .int (nI t), .int (nI (d + 1)), .int (nI len), .int (nI (i + 1)), v5], []) (am_mk kt (am_row I 123 (up1 g d (if g d = 0 then 1 else 0))) J T n s) K) : am_T am_C (188, 1, 21, [.ref 107, .int (nI t), .int (nI (d + 1)), .int (nI len), .int (nI i), v5], []) (am_mk kt (am_row I 123 g) J T n s) K := by
  have e1 : ¬ nI len ≤ nI i := nI_ge hi (by omega)
  have e2 : vp_in (104 + 96 * nI t + nI i) 1448 := by rw [i104]; exact vpl (by omega) (by decide)
  have e3 : I 108 (104 + 96 * nI t + nI i).toNatClampNeg < 0 := by rw [hc]; decide
  have e4 : vp_in (nI (d + 1) - 1) 96 := by rw [nI_p1]; exact vpl hd (by decide)
  rw [nI_succ i] at ih
  refine am_wq_T (cut := fun z pc => (Nat.beq z 188 && Nat.beq pc 21)) (inl := fun _ => false) 120 _ _ _ ?_
  refine And.intro (fun q => absurd q e1) (fun _ => And.intro rfl (And.intro ⟨rfl, e2⟩ (And.intro (fun _ => And.intro (fun q => absurd hc q) (fun _ => And.intro rfl (And.intro rfl (And.intro ⟨rfl, e4⟩ ?_)))) (fun q => absurd e3 q))))
  refine And.intro (fun hx => And.intro ⟨rfl, e4⟩ ?_) (fun hx => And.intro ⟨rfl, e4⟩ ?_)
  · have hx : ¬ am_row I 123 g 123 (nI (d + 1) - 1).toNatClampNeg = 0 := hx
    rw [row_at' (nI_p1 d) (by omega)] at hx
    rw [if_neg hx, ← row_up' (nI_p1 d) (by omega)] at ih
    exact ih _
  · have hx : ¬ ¬ am_row I 123 g 123 (nI (d + 1) - 1).toNatClampNeg = 0 := hx
    rw [row_at' (nI_p1 d) (by omega)] at hx
    rw [if_pos (Classical.not_not.mp hx), ← row_up' (nI_p1 d) (by omega)] at ih
    exact ih _
theorem sg_tr_sg {a : Int32} (h : a ∈ tsg) : sg_tr a < 0 ∧ ¬ sg_tr a = -10 := by
  simp only [tsg, List.mem_cons, List.not_mem_nil, or_false] at h
  rcases h with rfl | rfl | rfl | rfl | rfl | rfl | rfl | rfl | rfl <;> decide
theorem m_works_C (ht : t < 14) (hl : len ≤ 95) (hi : i < len) (hd : d + 1 < 96) (hs : a ∈ tsg) (hc : I 108 (104 + 96 * nI t + nI i).toNatClampNeg = sg_tr a)
    (ih : ∀ v5, am_T am_C (188, 1, 21, [.ref 107, .int (nI t), .int (nI (d + 1)), .int (nI len), .int (nI (i + 1)), v5], []) (am_mk kt (am_row I 123 (up1 g d (tjn a (g d) (g (d + 1))))) J T n s) K) : am_T am_C (188, 1, 21, [.ref 107, .int (nI t), .int (nI (d + 2)), .int (nI len), .int (nI i), v5], []) (am_mk kt (am_row I 123 g) J T n s) K := by
  have e1 : ¬ nI len ≤ nI i := nI_ge hi (by omega)
  have e2 : vp_in (104 + 96 * nI t + nI i) 1448 := by rw [i104]; exact vpl (by omega) (by decide)
  have e3 : I 108 (104 + 96 * nI t + nI i).toNatClampNeg < 0 := by rw [hc]; exact (sg_tr_sg hs).1
  have e7 : ¬ I 108 (104 + 96 * nI t + nI i).toNatClampNeg = -10 := by rw [hc]; exact (sg_tr_sg hs).2
  have f1 : nI (d + 2) + -1 = nI (d + 1) := nI_m1 (d + 1)
  have f2 : nI (d + 2) + -1 - 1 = nI d := by rw [f1, nI_p1]
  have e4 : vp_in (nI (d + 2) + -1 - 1) 96 := by rw [f2]; exact vpl (by omega) (by decide)
  have e5 : vp_in (nI (d + 2) + -1) 96 := by rw [f1]; exact vpl hd (by decide)
  rw [nI_succ i] at ih
  refine am_wq_T (cut := fun z pc => (Nat.beq z 188 && Nat.beq pc 21)) (inl := fun _ => false) 120 _ _ _ ?_
  refine And.intro (fun q => absurd q e1) (fun _ => And.intro rfl (And.intro ⟨rfl, e2⟩ (And.intro (fun _ => And.intro (fun _ => ?_) (fun q => absurd e7 q)) (fun q => absurd e3 q))))
  refine And.intro rfl (And.intro rfl (And.intro ⟨rfl, e4⟩ (And.intro rfl (And.intro ⟨rfl, e5⟩ ?_))))
  show am_T am_C (187, 0, 0, [.int (I 108 (104 + 96 * nI t + nI i).toNatClampNeg), .int (am_row I 123 g 123 (nI (d + 2) + -1 - 1).toNatClampNeg), .int (am_row I 123 g 123 (nI (d + 2) + -1).toNatClampNeg)], []) (am_mk kt (am_row I 123 g) J T n s) _
  rw [hc]
  refine m_two hs (fun rv hr => ?_)
  rw [row_at' f2 (by omega), row_at' f1 (by omega)] at hr
  refine And.intro ⟨rfl, e4⟩ ?_
  rw [← hr, ← row_up' f2 (by omega), ← f1] at ih
  exact ih _
theorem m_works_r {cs0 : List Int32} (ht : t < 14) (hl : len ≤ 95) (hc0 : ∀ k, k < len → I 108 (104 + 96 * t + k) = sg_tr (cs0.getD k 0)) : ∀ (rest : List Int32) (i d : Nat) (g : Nat → Int32) (v5 : Value), i + rest.length = len → d ≤ i → (∀ k, k < rest.length → cs0.getD (i + k) 0 = rest.getD k 0) → (∀ k, k < rest.length → cdk (rest.getD k 0)) → sg_dp rest d = some 1 →
    (∀ g', g' 0 = evg (I 124 0) (I 124 1) (I 124 2) rest d g 0 → K (some (.int (g' 0))) (am_mk kt (am_row I 123 g') J T n s)) → am_T am_C (188, 1, 21, [.ref 107, .int (nI t), .int (nI d), .int (nI len), .int (nI i), v5], []) (am_mk kt (am_row I 123 g) J T n s) K
  | [], i, d, g, v5, hi, hd, hc, hk, hp, hK => by
    have e1 : i = len := by rw [← hi]; rfl
    have e2 : d = 1 := by injection hp
    subst e1; subst e2
    have e3 : nI i ≤ nI i := nI_le (Nat.le_refl _) (by omega)
    have key := hK g rfl
    have e4 : vp_in 0 96 := vpl (k := 0) (by decide) (by decide)
    refine am_wq_T (cut := fun z pc => (Nat.beq z 188 && Nat.beq pc 21)) (inl := fun _ => false) 120 _ _ _ ?_
    exact And.intro (fun _ => And.intro rfl (And.intro ⟨rfl, e4⟩ key)) (fun q => absurd e3 q)
  | a :: rest, i, d, g, v5, hi, hd, hc, hk, hp, hK => by
    have hlen : i + (rest.length + 1) = len := hi
    have c0 : I 108 (104 + 96 * nI t + nI i).toNatClampNeg = sg_tr a := by
      rw [i104, nI_clamp (by omega), hc0 i (by omega)]
      exact congrArg sg_tr (hc 0 (Nat.succ_pos _))
    have hc' : ∀ k, k < rest.length → cs0.getD (i + 1 + k) 0 = rest.getD k 0 := fun k h => by
      have := hc (k + 1) (Nat.succ_lt_succ h)
      rw [show i + (k + 1) = i + 1 + k by omega] at this
      exact this
    have hk' : ∀ k, k < rest.length → cdk (rest.getD k 0) := fun k h => hk (k + 1) (Nat.succ_lt_succ h)
    have hk0 : cdk a := hk 0 (Nat.succ_pos _)
    unfold sg_dp at hp
    unfold evg at hK
    by_cases ca : -3 ≤ a
    · rw [if_pos ca] at hp hK
      rcases cdk_c hk0 with c | c | c | c | c | c
      · rw [(sg_tr_pos c.1 c.2).1] at c0
        have e : tpl (I 124 0) (I 124 1) (I 124 2) a = a := by
          unfold tpl
          rw [if_neg (by clear hK hp ca; (simp only [Int32.lt_iff_toInt_lt, Int32.le_iff_toInt_le, gt_iff_lt, ge_iff_le, ← Int32.toInt_inj, Int32.reduceToInt, Int32.reduceMul, Int32.reduceAdd, Int32.reduceSub, ne_eq, true_and, and_true, false_and, and_false, not_true_eq_false, not_false_eq_true, true_or, or_true, false_or, or_false] at *; omega)), if_neg (by clear hK hp ca; (simp only [Int32.lt_iff_toInt_lt, Int32.le_iff_toInt_le, gt_iff_lt, ge_iff_le, ← Int32.toInt_inj, Int32.reduceToInt, Int32.reduceMul, Int32.reduceAdd, Int32.reduceSub, ne_eq, true_and, and_true, false_and, and_false, not_true_eq_false, not_false_eq_true, true_or, or_true, false_or, or_false] at *; omega)), if_neg (by clear hK hp ca; (simp only [Int32.lt_iff_toInt_lt, Int32.le_iff_toInt_le, gt_iff_lt, ge_iff_le, ← Int32.toInt_inj, Int32.reduceToInt, Int32.reduceMul, Int32.reduceAdd, Int32.reduceSub, ne_eq, true_and, and_true, false_and, and_false, not_true_eq_false, not_false_eq_true, true_or, or_true, false_or, or_false] at *; omega))]
        rw [e] at hK
        exact m_works_A1 ht hl (by omega) (by omega) c0 c.1 c.2 fun v => m_works_r ht hl hc0 rest (i + 1) (d + 1) _ v (by omega) (by omega) hc' hk' hp hK
      · subst c
        exact m_works_A2 (j := 0) (by decide) ht hl (by omega) (by omega) c0 rfl fun v => m_works_r ht hl hc0 rest (i + 1) (d + 1) _ v (by omega) (by omega) hc' hk' hp hK
      · subst c
        exact m_works_A2 (j := 1) (by decide) ht hl (by omega) (by omega) c0 rfl fun v => m_works_r ht hl hc0 rest (i + 1) (d + 1) _ v (by omega) (by omega) hc' hk' hp hK
      · subst c
        exact m_works_A2 (j := 2) (by decide) ht hl (by omega) (by omega) c0 rfl fun v => m_works_r ht hl hc0 rest (i + 1) (d + 1) _ v (by omega) (by omega) hc' hk' hp hK
      · subst c; exact absurd ca (by decide)
      · exfalso
        simp only [tsg, List.mem_cons, List.not_mem_nil, or_false] at c
        clear hK
        rcases c with rfl | rfl | rfl | rfl | rfl | rfl | rfl | rfl | rfl <;> exact absurd ca (by decide)
    · rw [if_neg ca] at hp hK
      by_cases cb : a = -33
      · rw [if_pos cb] at hp hK
        by_cases c0' : d = 0
        · rw [if_pos c0'] at hp; cases hp
        · rw [if_neg c0'] at hp
          obtain ⟨d, rfl⟩ : ∃ e, d = e + 1 := ⟨d - 1, by omega⟩
          rw [cb] at c0
          exact m_works_B ht hl (by omega) (by omega) c0 fun v => m_works_r ht hl hc0 rest (i + 1) (d + 1) _ v (by omega) (by omega) hc' hk' hp hK
      · rw [if_neg cb] at hp hK
        obtain ⟨hs, hs2⟩ := cdk_s hk0 ca cb
        by_cases c2 : d < 2
        · rw [if_pos c2] at hp; cases hp
        · rw [if_neg c2] at hp
          obtain ⟨d, rfl⟩ : ∃ e, d = e + 2 := ⟨d - 2, by omega⟩
          exact m_works_C ht hl (by omega) (by omega) hs c0 fun v => m_works_r ht hl hc0 rest (i + 1) (d + 1) _ v (by omega) (by omega) hc' hk' hp hK
theorem m_works {key len : Nat} {cs : List Int32} (ht : t < 14) (h : TX (I 108) t key len cs) (hK : ∀ I', ch (fun r => r = 123) I I' → K (some (.int (tvN (I 108) t (I 124 0) (I 124 1) (I 124 2)))) (am_mk kt I' J T n s)) : am_T am_C (188, 1, 0, [.ref 107, .int (nI t), .null, .null, .null, .null], []) (am_mk kt I J T n s) K := by
  have el := (TX_len h).1
  have ec := TX_cs h
  obtain ⟨h1, h2, h3, h4, h5, h6, h7⟩ := h
  have key0 := m_works_r (I := I) (t := t) (len := len) (K := K) (n := n) (s := s) (J := J) (T := T) (kt := kt) ht h2 h5 cs 0 0 (I 123) .null (by omega) (Nat.le_refl _) (fun k hk => by rw [Nat.zero_add]) (fun k hk => (h7 k (by omega)).1) h6 fun g' hg => by
    have e : g' 0 = tvN (I 108) t (I 124 0) (I 124 1) (I 124 2) := by
      rw [hg]
      unfold tvN tv
      rw [ec]
      exact evg_cg cs 0 1 _ _ h6 (fun k h => absurd h (by omega)) 0 (by decide)
    rw [e]; exact hK _ (ch_row rfl)
  rw [row_self] at key0
  have e1 : vp_in (76 + 2 * nI t) 1448 := by rw [i76]; exact vpl (by omega) (by decide)
  have e2 : I 108 (76 + 2 * nI t).toNatClampNeg - I 108 (76 + 2 * nI t).toNatClampNeg / 1000 * 1000 = nI len := by
    rw [i76, nI_clamp (by omega), h4, show (1000 : Int32) = nI 1000 from rfl, pk_rem (by omega) (by decide) (by decide), show (1000 * key + len) % 1000 = len by omega]
  rw [← e2] at key0
  refine am_wq_T (cut := fun z pc => (Nat.beq z 188 && Nat.beq pc 21)) (inl := fun _ => false) 120 _ _ _ ?_
  refine And.intro rfl (And.intro ⟨rfl, e1⟩ (And.intro (by decide) ?_))
  exact key0
/-! which text counts -/
theorem m_counts_l {N : Nat → Int32} (hN : I 108 = N) {key : Nat} : ∀ j, j ≤ 14 → K (some (.int (sg_cnt N key j))) (am_mk kt I J T n s) → am_T am_C (185, 0, 10, [.ref 107, .int (nI key), .int (nI j - 1)], []) (am_mk kt I J T n s) K
  | 0, _, hK => by
    refine am_wq_T (cut := fun z pc => (Nat.beq z 185 && Nat.beq pc 10)) (inl := fun _ => false) 120 _ _ _ ?_
    exact And.intro (fun _ => hK) (fun q => absurd (show nI 0 - 1 < 0 by decide) q)
  | j + 1, hj, hK => by
    have e1 : ¬ nI (j + 1) - 1 < 0 := by rw [nI_p1]; exact nI_pos (by omega)
    have f2 : (76 : Int32) + 2 * (nI (j + 1) - 1) = nI (76 + 2 * j) := by rw [nI_p1, i76]
    have e2 : vp_in (76 + 2 * (nI (j + 1) - 1)) 1448 := by rw [f2]; exact vpl (by omega) (by decide)
    have f3 : I 108 (76 + 2 * (nI (j + 1) - 1)).toNatClampNeg = N (76 + 2 * j) := by rw [f2, nI_clamp (by omega), hN]
    refine am_wq_T (cut := fun z pc => (Nat.beq z 185 && Nat.beq pc 10)) (inl := fun _ => false) 120 _ _ _ ?_
    refine And.intro (fun q => absurd q e1) (fun _ => And.intro rfl (And.intro ⟨rfl, e2⟩ (And.intro (by decide) (And.intro (fun hx => ?_) (fun hx => ?_)))))
    · have hx : ¬ I 108 (76 + 2 * (nI (j + 1) - 1)).toNatClampNeg / 1000 = nI key := hx
      rw [f3] at hx
      unfold sg_cnt at hK
      rw [if_neg hx] at hK
      have ih := m_counts_l hN j (by omega) hK
      rw [show nI j - 1 = nI (j + 1) - 1 + -1 by rw [nI_p1, Int32.sub_eq_add_neg]] at ih
      exact ih
    · have hx : ¬ ¬ I 108 (76 + 2 * (nI (j + 1) - 1)).toNatClampNeg / 1000 = nI key := hx
      rw [f3] at hx
      unfold sg_cnt at hK
      rw [if_pos (Classical.not_not.mp hx), ← nI_p1] at hK
      exact hK
theorem m_counts {N : Nat → Int32} (hN : I 108 = N) {key tc : Nat} {x : Int32} (hx : x = nI key) (ht : N 8 = nI tc) (h14 : tc ≤ 14) (hK : K (some (.int (sg_cnt N key tc))) (am_mk kt I J T n s)) : am_T am_C (185, 0, 0, [.ref 107, .int x, .null], []) (am_mk kt I J T n s) K := by
  subst hx
  have e1 : vp_in 8 1448 := vpl (k := 8) (by decide) (by decide)
  have key := m_counts_l (I := I) (J := J) (T := T) (kt := kt) (n := n) (s := s) (K := K) hN (key := key) tc h14 hK
  rw [← ht, ← hN] at key
  refine am_wq_T (cut := fun z pc => (Nat.beq z 185 && Nat.beq pc 10)) (inl := fun _ => false) 120 _ _ _ ?_
  exact And.intro rfl (And.intro ⟨rfl, e1⟩ key)
theorem cnt_c {N : Nat → Int32} {key : Nat} : ∀ tc, tc ≤ 14 → (sg_cnt N key tc = -1) ∨ ∃ t, t < tc ∧ sg_cnt N key tc = nI t ∧ N (76 + 2 * t) / 1000 = nI key
  | 0, _ => .inl rfl
  | t + 1, h => by
    unfold sg_cnt
    by_cases c : N (76 + 2 * t) / 1000 = nI key
    · rw [if_pos c]; exact .inr ⟨t, by omega, rfl, c⟩
    · rw [if_neg c]
      rcases cnt_c t (by omega) with q | ⟨t', q1, q2, q3⟩
      · exact .inl q
      · exact .inr ⟨t', by omega, q2, q3⟩
end MW
end T44
