/-! what a hole of the class takes, how it settles -/
section T46
variable {kt : Nat → Nat × Nat} {I I' : Nat → Nat → Int32} {J J' : Nat → Nat → Int64} {T : Nat → Nat → Nat} {n s : Nat} {L : Nat} {xs : Nat → Int32} {K : Option Value → am_M → Prop} {N : Nat → Int32} {hc wc tc : Nat}
theorem nth_none {α : Type} (d : α) : ∀ (l : List α) (i : Nat), l.length ≤ i → am_nth d l i = d
  | [], _, _ => rfl
  | _ :: _, 0, h => absurd h (by simp)
  | _ :: l, i + 1, h => nth_none d l i (by simpa using h)
theorem kr_own {r : Nat} (h : 134 ≤ r) : am_k kt r = kt r := by
  unfold am_k
  rw [nth_none none am_KO r (Nat.le_trans (show am_KO.length ≤ 134 by decide +kernel) h)]; rfl
theorem rr_own {r k : Nat} (h : 134 ≤ r) : am_r T r k = T r k := by
  unfold am_r
  rw [nth_none [] am_RO r (Nat.le_trans (show am_RO.length ≤ 134 by decide +kernel) h)]; rfl
/-- the texts' own rows of values -/
def CT (r : Nat) : Prop := 134 ≤ r ∧ r % 3 = 1
theorem c_valueT {r t : Nat} {p q x : Int32} (h : sg_Txt kt I T n r t N) (hK : ∀ I', ch CT I I' → K (some (.int (tvN N t p q x))) (am_mk kt I' J T n s)) : am_T am_C (58, 1, 0, [.ref r, .int p, .int q, .int x, .null, .null, .null], []) (am_mk kt I J T n s) K := by
  obtain ⟨key, len, cs, hx⟩ := Txt_TX h
  have ec := TX_cs hx
  obtain ⟨key', len', cs', h0, h1, h2, h3, h4, h5, h6, h7, h8, h9, h10, h11, h12, h13, h14, h15, h16⟩ := h
  have hx' : TX N t key' len' cs' := ⟨h8, h9, h10, h13, fun k hk => (h14 k hk).2, h15, h16⟩
  have r2 : am_r T r 2 = r + 1 := by rw [rr_own h0, h6]
  have r3 : am_r T r 3 = r + 2 := by rw [rr_own h0, h7]
  refine c_value (Kk := am_k kt) (R := am_r T) (len := len') (cs := cs') ?_ ?_ ?_ ?_ h9 h10 ?_ (fun k hk => (h16 k hk).1) h15 (fun g' => ?_)
  · rw [kr_own h0]; exact h3
  · rw [r2, kr_own (by omega)]; exact h4
  · rw [r3, kr_own (by omega)]; exact h5
  · rw [r2, r3]; omega
  · intro k hk; rw [r2]; exact (h14 k hk).1
  · have := hK (am_row I (am_r T r 3) g') (ch_row (by rw [r3]; unfold CT; omega))
    unfold tvN at this
    rw [TX_cs hx'] at this
    exact this
theorem CT_LR {b : Nat} (hb : b < 100) (h : ch CT I I') (q : sg_LR kt I T n b N hc wc tc) : sg_LR kt I' T n b N hc wc tc := LR_cg (fun r k hr => by rw [h r (by unfold CT; omega)]) q
/-- the bounds of holes alone -/
def HB (N : Nat → Int32) (hc : Nat) : Prop := ∀ h, h < hc → sg_in (N (21 + 5 * h)) 0 5 ∧ sg_in (N (21 + 5 * h + 1)) 0 29 ∧ sg_in (N (21 + 5 * h + 2)) 0 99 ∧ sg_in (N (21 + 5 * h + 3)) 0 7 ∧ sg_in (N (21 + 5 * h + 4)) 0 999
/-- places apart, as the class has it -/
def apc (a p : Int32) : Int32 := if 0 ≤ p - a then p - a else 0 - (p - a)
theorem held99 (v : Int32) : (if 0 < (if v < 99 then v else 99) then (if v < 99 then v else 99) else 0) = wth v 0 99 := by
  unfold wth
  repeat' split
  all_goals first | rfl | (simp only [Int32.lt_iff_toInt_lt, Int32.le_iff_toInt_le, gt_iff_lt, ge_iff_le, ← Int32.toInt_inj, Int32.reduceToInt, Int32.reduceMul, Int32.reduceAdd, Int32.reduceSub, ne_eq, true_and, and_true, false_and, and_false, not_true_eq_false, not_false_eq_true, true_or, or_true, false_or, or_false] at *; omega) | (exfalso; simp only [Int32.lt_iff_toInt_lt, Int32.le_iff_toInt_le, gt_iff_lt, ge_iff_le, ← Int32.toInt_inj, Int32.reduceToInt, Int32.reduceMul, Int32.reduceAdd, Int32.reduceSub, ne_eq, true_and, and_true, false_and, and_false, not_true_eq_false, not_false_eq_true, true_or, or_true, false_or, or_false] at *; omega)
theorem held9 (v : Int32) : (if 0 < (if v < 9 then v else 9) then (if v < 9 then v else 9) else 0) = wth v 0 9 := by
  unfold wth
  repeat' split
  all_goals first | rfl | (simp only [Int32.lt_iff_toInt_lt, Int32.le_iff_toInt_le, gt_iff_lt, ge_iff_le, ← Int32.toInt_inj, Int32.reduceToInt, Int32.reduceMul, Int32.reduceAdd, Int32.reduceSub, ne_eq, true_and, and_true, false_and, and_false, not_true_eq_false, not_false_eq_true, true_or, or_true, false_or, or_false] at *; omega) | (exfalso; simp only [Int32.lt_iff_toInt_lt, Int32.le_iff_toInt_le, gt_iff_lt, ge_iff_le, ← Int32.toInt_inj, Int32.reduceToInt, Int32.reduceMul, Int32.reduceAdd, Int32.reduceSub, ne_eq, true_and, and_true, false_and, and_false, not_true_eq_false, not_false_eq_true, true_or, or_true, false_or, or_false] at *; omega)
theorem ap_eqN : ∀ a, a < 30 → ∀ b, b < 30 → apc (nI a) (nI b) = apt (nI a) (nI b) ∧ (nI b = nI a ↔ apt (nI a) (nI b) = 0) := by decide +kernel
theorem in_nI {x : Int32} {m : Nat} (h : sg_in x 0 m) (hm : m < 2147483648) : ∃ k : Nat, k ≤ m ∧ x = nI k := by
  obtain ⟨h1, h2⟩ := h
  refine ⟨x.toInt.toNat, by omega, Int32.toInt_inj.mp ?_⟩
  rw [nI_toInt (by omega)]; omega
theorem ap_eq {a p : Int32} (ha : sg_in a 0 29) (hp : sg_in p 0 29) : apc a p = apt a p ∧ (p = a ↔ apt a p = 0) := by
  obtain ⟨i, hi, rfl⟩ := in_nI (m := 29) ha (by decide)
  obtain ⟨j, hj, rfl⟩ := in_nI (m := 29) hp (by decide)
  exact ap_eqN i (by omega) j (by omega)
theorem kL21 {h : Nat} (hh : h < 10) : am_k kt (27 + h) = (1, 5) := by
  match h, hh with
  | 0, _ => rfl
  | 1, _ => rfl
  | 2, _ => rfl
  | 3, _ => rfl
  | 4, _ => rfl
  | 5, _ => rfl
  | 6, _ => rfl
  | 7, _ => rfl
  | 8, _ => rfl
  | 9, _ => rfl
theorem c_textFor21_no {key : Nat} {x : Int32} (hx : x = nI key) (hkey : key < 3) (hR : sg_LR kt I T n 21 N hc wc tc) (hv : sg_cnt N key tc = -1) (hK : K (some (.ref 0)) (am_mk kt I J T n s)) : am_T am_C (31, 1, 0, [.ref 21, .int x], []) (am_mk kt I J T n s) K := by
  subst hx
  have e : I 26 (nI key).toNatClampNeg = -1 := by rw [nI_clamp (by omega), ← hv]; exact hR.2.2.2.2.2.2.2.2.2.2.2.2.2.2.2.2.2.2 key hkey
  have e1 : vp_in (nI key) 3 := vpl hkey (by decide)
  have e2 : I 26 (nI key).toNatClampNeg < 0 := by rw [e]; decide
  refine am_wq_T (cut := fun _ _ => false) (inl := fun _ => true) 120 _ _ _ ?_
  refine And.intro rfl (And.intro ⟨rfl, e1⟩ (And.intro rfl (And.intro (fun _ => ?_) (fun q => absurd e2 q))))
  exact hK
theorem c_textFor21 {key t : Nat} {x : Int32} (hx : x = nI key) (hkey : key < 3) (hR : sg_LR kt I T n 21 N hc wc tc) (ht : t < tc) (hv : sg_cnt N key tc = nI t) (hK : K (some (.ref (T 25 t))) (am_mk kt I J T n s)) : am_T am_C (31, 1, 0, [.ref 21, .int x], []) (am_mk kt I J T n s) K := by
  subst hx
  have h14 := hR.2.2.1
  have e : I 26 (nI key).toNatClampNeg = nI t := by rw [nI_clamp (by omega), ← hv]; exact hR.2.2.2.2.2.2.2.2.2.2.2.2.2.2.2.2.2.2 key hkey
  have e1 : vp_in (nI key) 3 := vpl hkey (by decide)
  have e2 : ¬ I 26 (nI key).toNatClampNeg < 0 := by rw [e]; exact nI_pos (by omega)
  have e3 : ¬ I 21 6 ≤ I 26 (nI key).toNatClampNeg := by rw [e, hR.2.2.2.2.2.2.2.2.1]; exact nI_ge ht (by omega)
  have e4 : vp_in (I 26 (nI key).toNatClampNeg) 14 := by rw [e]; exact vpl (by omega) (by decide)
  have e5 : (I 26 (nI key).toNatClampNeg).toNatClampNeg = t := by rw [e, nI_clamp (by omega)]
  rw [← e5] at hK
  refine am_wq_T (cut := fun _ _ => false) (inl := fun _ => true) 120 _ _ _ ?_
  refine And.intro rfl (And.intro ⟨rfl, e1⟩ (And.intro rfl (And.intro (fun q => absurd q e2) (fun _ => And.intro rfl (And.intro (fun q => absurd q e3) (fun _ => And.intro rfl (And.intro ⟨rfl, e4⟩ ?_)))))))
  exact hK
theorem c_isOld21 {x : Nat} {lw : Int32} (hk : am_k kt x = (1, 5)) (hR : sg_LR kt I T n 21 N hc wc tc) (hx : x < 134) (hv : lwv N tc (I x 2) (I x 3) = lw) (h1 : ∀ I', ch CT I I' → ¬ I x 4 < lw → K (some (.int 1)) (am_mk kt I' J T n s)) (h0 : ∀ I', ch CT I I' → I x 4 < lw → K (some (.int 0)) (am_mk kt I' J T n s)) : am_T am_C (22, 2, 0, [.ref 21, .ref x, .null], []) (am_mk kt I J T n s) K := by
  unfold lwv at hv
  rcases cnt_c (N := N) (key := 0) tc hR.2.2.1 with e | ⟨t, ht, e, ek⟩
  · rw [e, if_pos (by decide)] at hv
    subst hv
    refine am_wq_T (cut := fun _ _ => false) (inl := fun z => !((Nat.beq z 31 || (Nat.beq z 58 || Nat.beq z 107)))) 120 _ _ _ ?_
    refine And.intro rfl (c_textFor21_no (key := 0) rfl (by decide) hR e ?_)
    refine And.intro hk (And.intro (fun _ => ?_) (fun q => absurd rfl q))
    refine And.intro (fun q => ?_) (fun q => ?_)
    · exact And.intro rfl (h0 I ch_rfl q)
    · exact And.intro rfl (h1 I ch_rfl q)
  · have h14 := hR.2.2.1
    rw [e, if_neg (nI_pos (by omega)), nI_clamp (by omega)] at hv
    have hT := hR.2.2.2.2.2.2.2.2.2.2.2.2.2.2.2.2.2.1 t ht
    have hnz : ¬ T 25 t = 0 := by have := hT; obtain ⟨_, _, _, q, -⟩ := this; intro e; rw [show T (21 + 4) t = T 25 t from rfl, e] at q; omega
    refine am_wq_T (cut := fun _ _ => false) (inl := fun z => !((Nat.beq z 31 || Nat.beq z 58))) 120 _ _ _ ?_
    refine And.intro rfl (c_textFor21 (key := 0) rfl (by decide) hR ht e ?_)
    refine And.intro hk (And.intro (fun q => absurd q hnz) (fun _ => ?_))
    refine And.intro hk (And.intro hk (And.intro ?_ ?_))
    · obtain ⟨_, _, _, q0, _, _, q, -⟩ := hT
      exact (kr_own q0).trans q
    refine c_valueT hT fun I' hI' => ?_
    have h9 := held99 (tvN N t (I x 2) (I x 3) 0)
    rw [hv] at h9
    rw [← h9] at h0 h1
    exact And.intro (fun q => And.intro rfl (h0 I' hI' q)) (fun q => And.intro rfl (h1 I' hI' q))
theorem kL37 {h : Nat} (hh : h < 10) : am_k kt (43 + h) = (1, 5) := by
  match h, hh with
  | 0, _ => rfl
  | 1, _ => rfl
  | 2, _ => rfl
  | 3, _ => rfl
  | 4, _ => rfl
  | 5, _ => rfl
  | 6, _ => rfl
  | 7, _ => rfl
  | 8, _ => rfl
  | 9, _ => rfl
theorem c_textFor37_no {key : Nat} {x : Int32} (hx : x = nI key) (hkey : key < 3) (hR : sg_LR kt I T n 37 N hc wc tc) (hv : sg_cnt N key tc = -1) (hK : K (some (.ref 0)) (am_mk kt I J T n s)) : am_T am_C (31, 1, 0, [.ref 37, .int x], []) (am_mk kt I J T n s) K := by
  subst hx
  have e : I 42 (nI key).toNatClampNeg = -1 := by rw [nI_clamp (by omega), ← hv]; exact hR.2.2.2.2.2.2.2.2.2.2.2.2.2.2.2.2.2.2 key hkey
  have e1 : vp_in (nI key) 3 := vpl hkey (by decide)
  have e2 : I 42 (nI key).toNatClampNeg < 0 := by rw [e]; decide
  refine am_wq_T (cut := fun _ _ => false) (inl := fun _ => true) 120 _ _ _ ?_
  refine And.intro rfl (And.intro ⟨rfl, e1⟩ (And.intro rfl (And.intro (fun _ => ?_) (fun q => absurd e2 q))))
  exact hK
theorem c_textFor37 {key t : Nat} {x : Int32} (hx : x = nI key) (hkey : key < 3) (hR : sg_LR kt I T n 37 N hc wc tc) (ht : t < tc) (hv : sg_cnt N key tc = nI t) (hK : K (some (.ref (T 41 t))) (am_mk kt I J T n s)) : am_T am_C (31, 1, 0, [.ref 37, .int x], []) (am_mk kt I J T n s) K := by
  subst hx
  have h14 := hR.2.2.1
  have e : I 42 (nI key).toNatClampNeg = nI t := by rw [nI_clamp (by omega), ← hv]; exact hR.2.2.2.2.2.2.2.2.2.2.2.2.2.2.2.2.2.2 key hkey
  have e1 : vp_in (nI key) 3 := vpl hkey (by decide)
  have e2 : ¬ I 42 (nI key).toNatClampNeg < 0 := by rw [e]; exact nI_pos (by omega)
  have e3 : ¬ I 37 6 ≤ I 42 (nI key).toNatClampNeg := by rw [e, hR.2.2.2.2.2.2.2.2.1]; exact nI_ge ht (by omega)
  have e4 : vp_in (I 42 (nI key).toNatClampNeg) 14 := by rw [e]; exact vpl (by omega) (by decide)
  have e5 : (I 42 (nI key).toNatClampNeg).toNatClampNeg = t := by rw [e, nI_clamp (by omega)]
  rw [← e5] at hK
  refine am_wq_T (cut := fun _ _ => false) (inl := fun _ => true) 120 _ _ _ ?_
  refine And.intro rfl (And.intro ⟨rfl, e1⟩ (And.intro rfl (And.intro (fun q => absurd q e2) (fun _ => And.intro rfl (And.intro (fun q => absurd q e3) (fun _ => And.intro rfl (And.intro ⟨rfl, e4⟩ ?_)))))))
  exact hK
theorem c_isOld37 {x : Nat} {lw : Int32} (hk : am_k kt x = (1, 5)) (hR : sg_LR kt I T n 37 N hc wc tc) (hx : x < 134) (hv : lwv N tc (I x 2) (I x 3) = lw) (h1 : ∀ I', ch CT I I' → ¬ I x 4 < lw → K (some (.int 1)) (am_mk kt I' J T n s)) (h0 : ∀ I', ch CT I I' → I x 4 < lw → K (some (.int 0)) (am_mk kt I' J T n s)) : am_T am_C (22, 2, 0, [.ref 37, .ref x, .null], []) (am_mk kt I J T n s) K := by
  unfold lwv at hv
  rcases cnt_c (N := N) (key := 0) tc hR.2.2.1 with e | ⟨t, ht, e, ek⟩
  · rw [e, if_pos (by decide)] at hv
    subst hv
    refine am_wq_T (cut := fun _ _ => false) (inl := fun z => !((Nat.beq z 31 || (Nat.beq z 58 || Nat.beq z 107)))) 120 _ _ _ ?_
    refine And.intro rfl (c_textFor37_no (key := 0) rfl (by decide) hR e ?_)
    refine And.intro hk (And.intro (fun _ => ?_) (fun q => absurd rfl q))
    refine And.intro (fun q => ?_) (fun q => ?_)
    · exact And.intro rfl (h0 I ch_rfl q)
    · exact And.intro rfl (h1 I ch_rfl q)
  · have h14 := hR.2.2.1
    rw [e, if_neg (nI_pos (by omega)), nI_clamp (by omega)] at hv
    have hT := hR.2.2.2.2.2.2.2.2.2.2.2.2.2.2.2.2.2.1 t ht
    have hnz : ¬ T 41 t = 0 := by have := hT; obtain ⟨_, _, _, q, -⟩ := this; intro e; rw [show T (37 + 4) t = T 41 t from rfl, e] at q; omega
    refine am_wq_T (cut := fun _ _ => false) (inl := fun z => !((Nat.beq z 31 || Nat.beq z 58))) 120 _ _ _ ?_
    refine And.intro rfl (c_textFor37 (key := 0) rfl (by decide) hR ht e ?_)
    refine And.intro hk (And.intro (fun q => absurd q hnz) (fun _ => ?_))
    refine And.intro hk (And.intro hk (And.intro ?_ ?_))
    · obtain ⟨_, _, _, q0, _, _, q, -⟩ := hT
      exact (kr_own q0).trans q
    refine c_valueT hT fun I' hI' => ?_
    have h9 := held99 (tvN N t (I x 2) (I x 3) 0)
    rw [hv] at h9
    rw [← h9] at h0 h1
    exact And.intro (fun q => And.intro rfl (h0 I' hI' q)) (fun q => And.intro rfl (h1 I' hI' q))
section CFS
variable {x h b : Nat} {e p lw : Int32}
/-- the three tests ahead of the kinds -/
theorem c_cfA (hkb : am_k kt b = (2, 14)) (hk : am_k kt x = (1, 5)) (h : ∀ f nr ev : Int32, f = (if I x 2 < e then 0 else 1) → nr = (if I b 8 < apc (I x 1) p then 0 else 1) → ev = (if e - e / 2 * 2 = 0 then 1 else 0) → am_T am_C (21, 3, 51, [.ref b, .ref x, .int e, .int p, .int f, .int nr, .int ev], []) (am_mk kt I J T n s) K) : am_T am_C (21, 3, 0, [.ref b, .ref x, .int e, .int p, .null, .null, .null], []) (am_mk kt I J T n s) K := by
  have key := h _ _ _ rfl rfl rfl
  clear h
  have l2 : ¬ (2 : Int32) = 0 := by decide
  by_cases c1 : I x 2 < e
  · rw [if_pos c1] at key
    by_cases c2 : I b 8 < apc (I x 1) p
    · rw [if_pos c2] at key
      by_cases c4 : e - e / 2 * 2 = 0
      · rw [if_pos c4] at key
        refine am_wq_T (cut := fun z pc => (Nat.beq z 21 && Nat.beq pc 51)) (inl := fun _ => false) 120 _ _ _ ?_
        exact And.intro hk (And.intro (fun _ => And.intro hk (And.intro hkb (And.intro (fun _ => And.intro l2 (And.intro (fun q => absurd c4 q) (fun _ => key))) (fun q => absurd c2 q)))) (fun q => absurd c1 q))
      · rw [if_neg c4] at key
        refine am_wq_T (cut := fun z pc => (Nat.beq z 21 && Nat.beq pc 51)) (inl := fun _ => false) 120 _ _ _ ?_
        exact And.intro hk (And.intro (fun _ => And.intro hk (And.intro hkb (And.intro (fun _ => And.intro l2 (And.intro (fun _ => key) (fun q => absurd c4 q))) (fun q => absurd c2 q)))) (fun q => absurd c1 q))
    · rw [if_neg c2] at key
      by_cases c4 : e - e / 2 * 2 = 0
      · rw [if_pos c4] at key
        refine am_wq_T (cut := fun z pc => (Nat.beq z 21 && Nat.beq pc 51)) (inl := fun _ => false) 120 _ _ _ ?_
        exact And.intro hk (And.intro (fun _ => And.intro hk (And.intro hkb (And.intro (fun q => absurd q c2) (fun _ => And.intro l2 (And.intro (fun q => absurd c4 q) (fun _ => key)))))) (fun q => absurd c1 q))
      · rw [if_neg c4] at key
        refine am_wq_T (cut := fun z pc => (Nat.beq z 21 && Nat.beq pc 51)) (inl := fun _ => false) 120 _ _ _ ?_
        exact And.intro hk (And.intro (fun _ => And.intro hk (And.intro hkb (And.intro (fun q => absurd q c2) (fun _ => And.intro l2 (And.intro (fun _ => key) (fun q => absurd c4 q)))))) (fun q => absurd c1 q))
  · rw [if_neg c1] at key
    by_cases c2 : I b 8 < apc (I x 1) p
    · rw [if_pos c2] at key
      by_cases c4 : e - e / 2 * 2 = 0
      · rw [if_pos c4] at key
        refine am_wq_T (cut := fun z pc => (Nat.beq z 21 && Nat.beq pc 51)) (inl := fun _ => false) 120 _ _ _ ?_
        exact And.intro hk (And.intro (fun q => absurd q c1) (fun _ => And.intro hk (And.intro hkb (And.intro (fun _ => And.intro l2 (And.intro (fun q => absurd c4 q) (fun _ => key))) (fun q => absurd c2 q)))))
      · rw [if_neg c4] at key
        refine am_wq_T (cut := fun z pc => (Nat.beq z 21 && Nat.beq pc 51)) (inl := fun _ => false) 120 _ _ _ ?_
        exact And.intro hk (And.intro (fun q => absurd q c1) (fun _ => And.intro hk (And.intro hkb (And.intro (fun _ => And.intro l2 (And.intro (fun _ => key) (fun q => absurd c4 q))) (fun q => absurd c2 q)))))
    · rw [if_neg c2] at key
      by_cases c4 : e - e / 2 * 2 = 0
      · rw [if_pos c4] at key
        refine am_wq_T (cut := fun z pc => (Nat.beq z 21 && Nat.beq pc 51)) (inl := fun _ => false) 120 _ _ _ ?_
        exact And.intro hk (And.intro (fun q => absurd q c1) (fun _ => And.intro hk (And.intro hkb (And.intro (fun q => absurd q c2) (fun _ => And.intro l2 (And.intro (fun q => absurd c4 q) (fun _ => key)))))))
      · rw [if_neg c4] at key
        refine am_wq_T (cut := fun z pc => (Nat.beq z 21 && Nat.beq pc 51)) (inl := fun _ => false) 120 _ _ _ ?_
        exact And.intro hk (And.intro (fun q => absurd q c1) (fun _ => And.intro hk (And.intro hkb (And.intro (fun q => absurd q c2) (fun _ => And.intro l2 (And.intro (fun _ => key) (fun q => absurd c4 q)))))))
/-- whether it is old enough -/
def OLD (kt : Nat → Nat × Nat) (I : Nat → Nat → Int32) (J : Nat → Nat → Int64) (T : Nat → Nat → Nat) (n s b x : Nat) (lw : Int32) : Prop := ∀ K : Option Value → am_M → Prop, (∀ I', ch CT I I' → ¬ I x 4 < lw → K (some (.int 1)) (am_mk kt I' J T n s)) → (∀ I', ch CT I I' → I x 4 < lw → K (some (.int 0)) (am_mk kt I' J T n s)) → am_T am_C (22, 2, 0, [.ref b, .ref x, .null], []) (am_mk kt I J T n s) K
theorem c_cf_0 (hkb : am_k kt b = (2, 14)) (hk : am_k kt x = (1, 5)) (ek : I x 0 = 0) (old : OLD kt I J T n s b x lw) (h1 : ∀ I', ch CT I I' → TKv 0 (I x 2) (I x 4) lw (I b 8) e (apc (I x 1) p) → K (some (.int 1)) (am_mk kt I' J T n s)) (h0 : ∀ I', ch CT I I' → ¬ TKv 0 (I x 2) (I x 4) lw (I b 8) e (apc (I x 1) p) → K (some (.int 0)) (am_mk kt I' J T n s)) : am_T am_C (21, 3, 0, [.ref b, .ref x, .int e, .int p, .null, .null, .null], []) (am_mk kt I J T n s) K := by
  have l1 : ¬ (1 : Int32) = 0 := by decide
  have n1 : ¬ I x 0 = 1 := by rw [ek]; decide
  have n2 : ¬ I x 0 = 2 := by rw [ek]; decide
  have n3 : ¬ I x 0 = 3 := by rw [ek]; decide
  have n4 : ¬ I x 0 = 4 := by rw [ek]; decide
  have n5 : ¬ I x 0 = 5 := by rw [ek]; decide
  simp only [TKv_0] at h1 h0
  refine c_cfA hkb hk (fun f nr ev e1 e2 e3 => ?_)
  by_cases c1 : I x 2 < e
  · by_cases c2 : I b 8 < apc (I x 1) p
    · by_cases c4 : e - e / 2 * 2 = 0
      · rw [if_pos c1] at e1
        rw [if_pos c2] at e2
        rw [if_pos c4] at e3
        subst e1; subst e2; subst e3
        refine am_wq_T (cut := fun _ _ => false) (inl := fun z => !(Nat.beq z 22)) 120 _ _ _ ?_
        exact And.intro hk (And.intro (fun q => absurd q n1) (fun _ => And.intro (fun q => absurd q n2) (fun _ => And.intro (fun q => absurd q n3) (fun _ => And.intro (fun q => absurd q n4) (fun _ => And.intro (fun q => absurd q n5) (fun _ => And.intro (fun _ => And.intro rfl (h0 _ ch_rfl (by simp only [c1, c2, c4, not_true_eq_false, not_false_eq_true, true_and, and_true, false_and, and_false, or_true, true_or, or_false, false_or, and_self, or_self, Int32.lt_irrefl]))) (fun q => absurd rfl q)))))))
      · rw [if_pos c1] at e1
        rw [if_pos c2] at e2
        rw [if_neg c4] at e3
        subst e1; subst e2; subst e3
        refine am_wq_T (cut := fun _ _ => false) (inl := fun z => !(Nat.beq z 22)) 120 _ _ _ ?_
        exact And.intro hk (And.intro (fun q => absurd q n1) (fun _ => And.intro (fun q => absurd q n2) (fun _ => And.intro (fun q => absurd q n3) (fun _ => And.intro (fun q => absurd q n4) (fun _ => And.intro (fun q => absurd q n5) (fun _ => And.intro (fun _ => And.intro rfl (h0 _ ch_rfl (by simp only [c1, c2, c4, not_true_eq_false, not_false_eq_true, true_and, and_true, false_and, and_false, or_true, true_or, or_false, false_or, and_self, or_self, Int32.lt_irrefl]))) (fun q => absurd rfl q)))))))
    · by_cases c4 : e - e / 2 * 2 = 0
      · rw [if_pos c1] at e1
        rw [if_neg c2] at e2
        rw [if_pos c4] at e3
        subst e1; subst e2; subst e3
        refine am_wq_T (cut := fun _ _ => false) (inl := fun z => !(Nat.beq z 22)) 120 _ _ _ ?_
        exact And.intro hk (And.intro (fun q => absurd q n1) (fun _ => And.intro (fun q => absurd q n2) (fun _ => And.intro (fun q => absurd q n3) (fun _ => And.intro (fun q => absurd q n4) (fun _ => And.intro (fun q => absurd q n5) (fun _ => And.intro (fun _ => And.intro rfl (h0 _ ch_rfl (by simp only [c1, c2, c4, not_true_eq_false, not_false_eq_true, true_and, and_true, false_and, and_false, or_true, true_or, or_false, false_or, and_self, or_self, Int32.lt_irrefl]))) (fun q => absurd rfl q)))))))
      · rw [if_pos c1] at e1
        rw [if_neg c2] at e2
        rw [if_neg c4] at e3
        subst e1; subst e2; subst e3
        refine am_wq_T (cut := fun _ _ => false) (inl := fun z => !(Nat.beq z 22)) 120 _ _ _ ?_
        exact And.intro hk (And.intro (fun q => absurd q n1) (fun _ => And.intro (fun q => absurd q n2) (fun _ => And.intro (fun q => absurd q n3) (fun _ => And.intro (fun q => absurd q n4) (fun _ => And.intro (fun q => absurd q n5) (fun _ => And.intro (fun _ => And.intro rfl (h0 _ ch_rfl (by simp only [c1, c2, c4, not_true_eq_false, not_false_eq_true, true_and, and_true, false_and, and_false, or_true, true_or, or_false, false_or, and_self, or_self, Int32.lt_irrefl]))) (fun q => absurd rfl q)))))))
  · by_cases c2 : I b 8 < apc (I x 1) p
    · by_cases c4 : e - e / 2 * 2 = 0
      · rw [if_neg c1] at e1
        rw [if_pos c2] at e2
        rw [if_pos c4] at e3
        subst e1; subst e2; subst e3
        refine am_wq_T (cut := fun _ _ => false) (inl := fun z => !(Nat.beq z 22)) 120 _ _ _ ?_
        exact And.intro hk (And.intro (fun q => absurd q n1) (fun _ => And.intro (fun q => absurd q n2) (fun _ => And.intro (fun q => absurd q n3) (fun _ => And.intro (fun q => absurd q n4) (fun _ => And.intro (fun q => absurd q n5) (fun _ => And.intro (fun q => absurd q l1) (fun _ => And.intro (fun _ => And.intro rfl (h0 _ ch_rfl (by simp only [c1, c2, c4, not_true_eq_false, not_false_eq_true, true_and, and_true, false_and, and_false, or_true, true_or, or_false, false_or, and_self, or_self, Int32.lt_irrefl]))) (fun q => absurd rfl q))))))))
      · rw [if_neg c1] at e1
        rw [if_pos c2] at e2
        rw [if_neg c4] at e3
        subst e1; subst e2; subst e3
        refine am_wq_T (cut := fun _ _ => false) (inl := fun z => !(Nat.beq z 22)) 120 _ _ _ ?_
        exact And.intro hk (And.intro (fun q => absurd q n1) (fun _ => And.intro (fun q => absurd q n2) (fun _ => And.intro (fun q => absurd q n3) (fun _ => And.intro (fun q => absurd q n4) (fun _ => And.intro (fun q => absurd q n5) (fun _ => And.intro (fun q => absurd q l1) (fun _ => And.intro (fun _ => And.intro rfl (h0 _ ch_rfl (by simp only [c1, c2, c4, not_true_eq_false, not_false_eq_true, true_and, and_true, false_and, and_false, or_true, true_or, or_false, false_or, and_self, or_self, Int32.lt_irrefl]))) (fun q => absurd rfl q))))))))
    · by_cases c4 : e - e / 2 * 2 = 0
      · rw [if_neg c1] at e1
        rw [if_neg c2] at e2
        rw [if_pos c4] at e3
        subst e1; subst e2; subst e3
        refine am_wq_T (cut := fun _ _ => false) (inl := fun z => !(Nat.beq z 22)) 120 _ _ _ ?_
        exact And.intro hk (And.intro (fun q => absurd q n1) (fun _ => And.intro (fun q => absurd q n2) (fun _ => And.intro (fun q => absurd q n3) (fun _ => And.intro (fun q => absurd q n4) (fun _ => And.intro (fun q => absurd q n5) (fun _ => And.intro (fun q => absurd q l1) (fun _ => And.intro (fun q => absurd q l1) (fun _ => And.intro rfl (h1 _ ch_rfl (by simp only [c1, c2, c4, not_true_eq_false, not_false_eq_true, true_and, and_true, false_and, and_false, or_true, true_or, or_false, false_or, and_self, or_self, Int32.lt_irrefl]))))))))))
      · rw [if_neg c1] at e1
        rw [if_neg c2] at e2
        rw [if_neg c4] at e3
        subst e1; subst e2; subst e3
        refine am_wq_T (cut := fun _ _ => false) (inl := fun z => !(Nat.beq z 22)) 120 _ _ _ ?_
        exact And.intro hk (And.intro (fun q => absurd q n1) (fun _ => And.intro (fun q => absurd q n2) (fun _ => And.intro (fun q => absurd q n3) (fun _ => And.intro (fun q => absurd q n4) (fun _ => And.intro (fun q => absurd q n5) (fun _ => And.intro (fun q => absurd q l1) (fun _ => And.intro (fun q => absurd q l1) (fun _ => And.intro rfl (h1 _ ch_rfl (by simp only [c1, c2, c4, not_true_eq_false, not_false_eq_true, true_and, and_true, false_and, and_false, or_true, true_or, or_false, false_or, and_self, or_self, Int32.lt_irrefl]))))))))))
theorem c_cf_1 (hkb : am_k kt b = (2, 14)) (hk : am_k kt x = (1, 5)) (ek : I x 0 = 1) (old : OLD kt I J T n s b x lw) (h1 : ∀ I', ch CT I I' → TKv 1 (I x 2) (I x 4) lw (I b 8) e (apc (I x 1) p) → K (some (.int 1)) (am_mk kt I' J T n s)) (h0 : ∀ I', ch CT I I' → ¬ TKv 1 (I x 2) (I x 4) lw (I b 8) e (apc (I x 1) p) → K (some (.int 0)) (am_mk kt I' J T n s)) : am_T am_C (21, 3, 0, [.ref b, .ref x, .int e, .int p, .null, .null, .null], []) (am_mk kt I J T n s) K := by
  have l1 : ¬ (1 : Int32) = 0 := by decide
  have n1 : I x 0 = 1 := ek
  have n2 : ¬ I x 0 = 2 := by rw [ek]; decide
  have n3 : ¬ I x 0 = 3 := by rw [ek]; decide
  have n4 : ¬ I x 0 = 4 := by rw [ek]; decide
  have n5 : ¬ I x 0 = 5 := by rw [ek]; decide
  simp only [TKv_1] at h1 h0
  refine c_cfA hkb hk (fun f nr ev e1 e2 e3 => ?_)
  by_cases c1 : I x 2 < e
  · by_cases c2 : I b 8 < apc (I x 1) p
    · by_cases c4 : e - e / 2 * 2 = 0
      · rw [if_pos c1] at e1
        rw [if_pos c2] at e2
        rw [if_pos c4] at e3
        subst e1; subst e2; subst e3
        refine am_wq_T (cut := fun _ _ => false) (inl := fun z => !(Nat.beq z 22)) 120 _ _ _ ?_
        exact And.intro hk (And.intro (fun _ => And.intro (fun _ => And.intro rfl (h0 _ ch_rfl (by simp only [c1, c2, c4, not_true_eq_false, not_false_eq_true, true_and, and_true, false_and, and_false, or_true, true_or, or_false, false_or, and_self, or_self, Int32.lt_irrefl]))) (fun q => absurd rfl q)) (fun q => absurd n1 q))
      · rw [if_pos c1] at e1
        rw [if_pos c2] at e2
        rw [if_neg c4] at e3
        subst e1; subst e2; subst e3
        refine am_wq_T (cut := fun _ _ => false) (inl := fun z => !(Nat.beq z 22)) 120 _ _ _ ?_
        exact And.intro hk (And.intro (fun _ => And.intro (fun _ => And.intro rfl (h0 _ ch_rfl (by simp only [c1, c2, c4, not_true_eq_false, not_false_eq_true, true_and, and_true, false_and, and_false, or_true, true_or, or_false, false_or, and_self, or_self, Int32.lt_irrefl]))) (fun q => absurd rfl q)) (fun q => absurd n1 q))
    · by_cases c4 : e - e / 2 * 2 = 0
      · rw [if_pos c1] at e1
        rw [if_neg c2] at e2
        rw [if_pos c4] at e3
        subst e1; subst e2; subst e3
        refine am_wq_T (cut := fun _ _ => false) (inl := fun z => !(Nat.beq z 22)) 120 _ _ _ ?_
        exact And.intro hk (And.intro (fun _ => And.intro (fun _ => And.intro rfl (h0 _ ch_rfl (by simp only [c1, c2, c4, not_true_eq_false, not_false_eq_true, true_and, and_true, false_and, and_false, or_true, true_or, or_false, false_or, and_self, or_self, Int32.lt_irrefl]))) (fun q => absurd rfl q)) (fun q => absurd n1 q))
      · rw [if_pos c1] at e1
        rw [if_neg c2] at e2
        rw [if_neg c4] at e3
        subst e1; subst e2; subst e3
        refine am_wq_T (cut := fun _ _ => false) (inl := fun z => !(Nat.beq z 22)) 120 _ _ _ ?_
        exact And.intro hk (And.intro (fun _ => And.intro (fun _ => And.intro rfl (h0 _ ch_rfl (by simp only [c1, c2, c4, not_true_eq_false, not_false_eq_true, true_and, and_true, false_and, and_false, or_true, true_or, or_false, false_or, and_self, or_self, Int32.lt_irrefl]))) (fun q => absurd rfl q)) (fun q => absurd n1 q))
  · by_cases c2 : I b 8 < apc (I x 1) p
    · by_cases c4 : e - e / 2 * 2 = 0
      · rw [if_neg c1] at e1
        rw [if_pos c2] at e2
        rw [if_pos c4] at e3
        subst e1; subst e2; subst e3
        refine am_wq_T (cut := fun _ _ => false) (inl := fun z => !(Nat.beq z 22)) 120 _ _ _ ?_
        exact And.intro hk (And.intro (fun _ => And.intro (fun q => absurd q l1) (fun _ => And.intro (fun _ => And.intro rfl (h0 _ ch_rfl (by simp only [c1, c2, c4, not_true_eq_false, not_false_eq_true, true_and, and_true, false_and, and_false, or_true, true_or, or_false, false_or, and_self, or_self, Int32.lt_irrefl]))) (fun q => absurd rfl q))) (fun q => absurd n1 q))
      · rw [if_neg c1] at e1
        rw [if_pos c2] at e2
        rw [if_neg c4] at e3
        subst e1; subst e2; subst e3
        refine am_wq_T (cut := fun _ _ => false) (inl := fun z => !(Nat.beq z 22)) 120 _ _ _ ?_
        exact And.intro hk (And.intro (fun _ => And.intro (fun q => absurd q l1) (fun _ => And.intro (fun _ => And.intro rfl (h0 _ ch_rfl (by simp only [c1, c2, c4, not_true_eq_false, not_false_eq_true, true_and, and_true, false_and, and_false, or_true, true_or, or_false, false_or, and_self, or_self, Int32.lt_irrefl]))) (fun q => absurd rfl q))) (fun q => absurd n1 q))
    · by_cases c4 : e - e / 2 * 2 = 0
      · rw [if_neg c1] at e1
        rw [if_neg c2] at e2
        rw [if_pos c4] at e3
        subst e1; subst e2; subst e3
        refine am_wq_T (cut := fun _ _ => false) (inl := fun z => !(Nat.beq z 22)) 120 _ _ _ ?_
        exact And.intro hk (And.intro (fun _ => And.intro (fun q => absurd q l1) (fun _ => And.intro (fun q => absurd q l1) (fun _ => And.intro hkb (old _ (fun I' hI' q => And.intro (fun q2 => absurd q2 l1) (fun _ => And.intro rfl (h1 _ hI' (by simp only [c1, c2, c4, q, not_true_eq_false, not_false_eq_true, true_and, and_true, false_and, and_false, or_true, true_or, or_false, false_or, and_self, or_self, Int32.lt_irrefl])))) (fun I' hI' q => And.intro (fun _ => And.intro rfl (h0 _ hI' (by simp only [c1, c2, c4, q, not_true_eq_false, not_false_eq_true, true_and, and_true, false_and, and_false, or_true, true_or, or_false, false_or, and_self, or_self, Int32.lt_irrefl]))) (fun q2 => absurd rfl q2)))))) (fun q => absurd n1 q))
      · rw [if_neg c1] at e1
        rw [if_neg c2] at e2
        rw [if_neg c4] at e3
        subst e1; subst e2; subst e3
        refine am_wq_T (cut := fun _ _ => false) (inl := fun z => !(Nat.beq z 22)) 120 _ _ _ ?_
        exact And.intro hk (And.intro (fun _ => And.intro (fun q => absurd q l1) (fun _ => And.intro (fun q => absurd q l1) (fun _ => And.intro hkb (old _ (fun I' hI' q => And.intro (fun q2 => absurd q2 l1) (fun _ => And.intro rfl (h1 _ hI' (by simp only [c1, c2, c4, q, not_true_eq_false, not_false_eq_true, true_and, and_true, false_and, and_false, or_true, true_or, or_false, false_or, and_self, or_self, Int32.lt_irrefl])))) (fun I' hI' q => And.intro (fun _ => And.intro rfl (h0 _ hI' (by simp only [c1, c2, c4, q, not_true_eq_false, not_false_eq_true, true_and, and_true, false_and, and_false, or_true, true_or, or_false, false_or, and_self, or_self, Int32.lt_irrefl]))) (fun q2 => absurd rfl q2)))))) (fun q => absurd n1 q))
theorem c_cf_2 (hkb : am_k kt b = (2, 14)) (hk : am_k kt x = (1, 5)) (ek : I x 0 = 2) (old : OLD kt I J T n s b x lw) (h1 : ∀ I', ch CT I I' → TKv 2 (I x 2) (I x 4) lw (I b 8) e (apc (I x 1) p) → K (some (.int 1)) (am_mk kt I' J T n s)) (h0 : ∀ I', ch CT I I' → ¬ TKv 2 (I x 2) (I x 4) lw (I b 8) e (apc (I x 1) p) → K (some (.int 0)) (am_mk kt I' J T n s)) : am_T am_C (21, 3, 0, [.ref b, .ref x, .int e, .int p, .null, .null, .null], []) (am_mk kt I J T n s) K := by
  have l1 : ¬ (1 : Int32) = 0 := by decide
  have n1 : ¬ I x 0 = 1 := by rw [ek]; decide
  have n2 : I x 0 = 2 := ek
  have n3 : ¬ I x 0 = 3 := by rw [ek]; decide
  have n4 : ¬ I x 0 = 4 := by rw [ek]; decide
  have n5 : ¬ I x 0 = 5 := by rw [ek]; decide
  simp only [TKv_2] at h1 h0
  refine c_cfA hkb hk (fun f nr ev e1 e2 e3 => ?_)
  by_cases c1 : I x 2 < e
  · by_cases c2 : I b 8 < apc (I x 1) p
    · by_cases c4 : e - e / 2 * 2 = 0
      · rw [if_pos c1] at e1
        rw [if_pos c2] at e2
        rw [if_pos c4] at e3
        subst e1; subst e2; subst e3
        refine am_wq_T (cut := fun _ _ => false) (inl := fun z => !(Nat.beq z 22)) 120 _ _ _ ?_
        exact And.intro hk (And.intro (fun q => absurd q n1) (fun _ => And.intro (fun _ => And.intro (fun _ => And.intro rfl (h0 _ ch_rfl (by simp only [c1, c2, c4, not_true_eq_false, not_false_eq_true, true_and, and_true, false_and, and_false, or_true, true_or, or_false, false_or, and_self, or_self, Int32.lt_irrefl]))) (fun q => absurd rfl q)) (fun q => absurd n2 q)))
      · rw [if_pos c1] at e1
        rw [if_pos c2] at e2
        rw [if_neg c4] at e3
        subst e1; subst e2; subst e3
        refine am_wq_T (cut := fun _ _ => false) (inl := fun z => !(Nat.beq z 22)) 120 _ _ _ ?_
        exact And.intro hk (And.intro (fun q => absurd q n1) (fun _ => And.intro (fun _ => And.intro (fun _ => And.intro rfl (h0 _ ch_rfl (by simp only [c1, c2, c4, not_true_eq_false, not_false_eq_true, true_and, and_true, false_and, and_false, or_true, true_or, or_false, false_or, and_self, or_self, Int32.lt_irrefl]))) (fun q => absurd rfl q)) (fun q => absurd n2 q)))
    · by_cases c4 : e - e / 2 * 2 = 0
      · rw [if_pos c1] at e1
        rw [if_neg c2] at e2
        rw [if_pos c4] at e3
        subst e1; subst e2; subst e3
        refine am_wq_T (cut := fun _ _ => false) (inl := fun z => !(Nat.beq z 22)) 120 _ _ _ ?_
        exact And.intro hk (And.intro (fun q => absurd q n1) (fun _ => And.intro (fun _ => And.intro (fun _ => And.intro rfl (h0 _ ch_rfl (by simp only [c1, c2, c4, not_true_eq_false, not_false_eq_true, true_and, and_true, false_and, and_false, or_true, true_or, or_false, false_or, and_self, or_self, Int32.lt_irrefl]))) (fun q => absurd rfl q)) (fun q => absurd n2 q)))
      · rw [if_pos c1] at e1
        rw [if_neg c2] at e2
        rw [if_neg c4] at e3
        subst e1; subst e2; subst e3
        refine am_wq_T (cut := fun _ _ => false) (inl := fun z => !(Nat.beq z 22)) 120 _ _ _ ?_
        exact And.intro hk (And.intro (fun q => absurd q n1) (fun _ => And.intro (fun _ => And.intro (fun _ => And.intro rfl (h0 _ ch_rfl (by simp only [c1, c2, c4, not_true_eq_false, not_false_eq_true, true_and, and_true, false_and, and_false, or_true, true_or, or_false, false_or, and_self, or_self, Int32.lt_irrefl]))) (fun q => absurd rfl q)) (fun q => absurd n2 q)))
  · by_cases c2 : I b 8 < apc (I x 1) p
    · by_cases c4 : e - e / 2 * 2 = 0
      · rw [if_neg c1] at e1
        rw [if_pos c2] at e2
        rw [if_pos c4] at e3
        subst e1; subst e2; subst e3
        refine am_wq_T (cut := fun _ _ => false) (inl := fun z => !(Nat.beq z 22)) 120 _ _ _ ?_
        exact And.intro hk (And.intro (fun q => absurd q n1) (fun _ => And.intro (fun _ => And.intro (fun q => absurd q l1) (fun _ => And.intro (fun _ => And.intro rfl (h0 _ ch_rfl (by simp only [c1, c2, c4, not_true_eq_false, not_false_eq_true, true_and, and_true, false_and, and_false, or_true, true_or, or_false, false_or, and_self, or_self, Int32.lt_irrefl]))) (fun q => absurd rfl q))) (fun q => absurd n2 q)))
      · rw [if_neg c1] at e1
        rw [if_pos c2] at e2
        rw [if_neg c4] at e3
        subst e1; subst e2; subst e3
        refine am_wq_T (cut := fun _ _ => false) (inl := fun z => !(Nat.beq z 22)) 120 _ _ _ ?_
        exact And.intro hk (And.intro (fun q => absurd q n1) (fun _ => And.intro (fun _ => And.intro (fun q => absurd q l1) (fun _ => And.intro (fun _ => And.intro rfl (h0 _ ch_rfl (by simp only [c1, c2, c4, not_true_eq_false, not_false_eq_true, true_and, and_true, false_and, and_false, or_true, true_or, or_false, false_or, and_self, or_self, Int32.lt_irrefl]))) (fun q => absurd rfl q))) (fun q => absurd n2 q)))
    · by_cases c4 : e - e / 2 * 2 = 0
      · rw [if_neg c1] at e1
        rw [if_neg c2] at e2
        rw [if_pos c4] at e3
        subst e1; subst e2; subst e3
        refine am_wq_T (cut := fun _ _ => false) (inl := fun z => !(Nat.beq z 22)) 120 _ _ _ ?_
        exact And.intro hk (And.intro (fun q => absurd q n1) (fun _ => And.intro (fun _ => And.intro (fun q => absurd q l1) (fun _ => And.intro (fun q => absurd q l1) (fun _ => And.intro (fun q => absurd q l1) (fun _ => And.intro rfl (h1 _ ch_rfl (by simp only [c1, c2, c4, not_true_eq_false, not_false_eq_true, true_and, and_true, false_and, and_false, or_true, true_or, or_false, false_or, and_self, or_self, Int32.lt_irrefl])))))) (fun q => absurd n2 q)))
      · rw [if_neg c1] at e1
        rw [if_neg c2] at e2
        rw [if_neg c4] at e3
        subst e1; subst e2; subst e3
        refine am_wq_T (cut := fun _ _ => false) (inl := fun z => !(Nat.beq z 22)) 120 _ _ _ ?_
        exact And.intro hk (And.intro (fun q => absurd q n1) (fun _ => And.intro (fun _ => And.intro (fun q => absurd q l1) (fun _ => And.intro (fun q => absurd q l1) (fun _ => And.intro (fun _ => And.intro rfl (h0 _ ch_rfl (by simp only [c1, c2, c4, not_true_eq_false, not_false_eq_true, true_and, and_true, false_and, and_false, or_true, true_or, or_false, false_or, and_self, or_self, Int32.lt_irrefl]))) (fun q => absurd rfl q)))) (fun q => absurd n2 q)))
theorem c_cf_3 (hkb : am_k kt b = (2, 14)) (hk : am_k kt x = (1, 5)) (ek : I x 0 = 3) (old : OLD kt I J T n s b x lw) (h1 : ∀ I', ch CT I I' → TKv 3 (I x 2) (I x 4) lw (I b 8) e (apc (I x 1) p) → K (some (.int 1)) (am_mk kt I' J T n s)) (h0 : ∀ I', ch CT I I' → ¬ TKv 3 (I x 2) (I x 4) lw (I b 8) e (apc (I x 1) p) → K (some (.int 0)) (am_mk kt I' J T n s)) : am_T am_C (21, 3, 0, [.ref b, .ref x, .int e, .int p, .null, .null, .null], []) (am_mk kt I J T n s) K := by
  have l1 : ¬ (1 : Int32) = 0 := by decide
  have n1 : ¬ I x 0 = 1 := by rw [ek]; decide
  have n2 : ¬ I x 0 = 2 := by rw [ek]; decide
  have n3 : I x 0 = 3 := ek
  have n4 : ¬ I x 0 = 4 := by rw [ek]; decide
  have n5 : ¬ I x 0 = 5 := by rw [ek]; decide
  simp only [TKv_3] at h1 h0
  refine c_cfA hkb hk (fun f nr ev e1 e2 e3 => ?_)
  by_cases c1 : I x 2 < e
  · by_cases c2 : I b 8 < apc (I x 1) p
    · by_cases c4 : e - e / 2 * 2 = 0
      · by_cases c6 : e = I x 2
        · rw [if_pos c1] at e1
          rw [if_pos c2] at e2
          rw [if_pos c4] at e3
          subst e1; subst e2; subst e3
          refine am_wq_T (cut := fun _ _ => false) (inl := fun z => !(Nat.beq z 22)) 120 _ _ _ ?_
          exact And.intro hk (And.intro (fun q => absurd q n1) (fun _ => And.intro (fun q => absurd q n2) (fun _ => And.intro (fun _ => And.intro hk (And.intro (fun q => absurd c6 q) (fun _ => And.intro (fun _ => And.intro rfl (h0 _ ch_rfl (by simp only [c1, c2, c4, c6, not_true_eq_false, not_false_eq_true, true_and, and_true, false_and, and_false, or_true, true_or, or_false, false_or, and_self, or_self, Int32.lt_irrefl]))) (fun q => absurd rfl q)))) (fun q => absurd n3 q))))
        · rw [if_pos c1] at e1
          rw [if_pos c2] at e2
          rw [if_pos c4] at e3
          subst e1; subst e2; subst e3
          refine am_wq_T (cut := fun _ _ => false) (inl := fun z => !(Nat.beq z 22)) 120 _ _ _ ?_
          exact And.intro hk (And.intro (fun q => absurd q n1) (fun _ => And.intro (fun q => absurd q n2) (fun _ => And.intro (fun _ => And.intro hk (And.intro (fun _ => And.intro rfl (h0 _ ch_rfl (by simp only [c1, c2, c4, c6, not_true_eq_false, not_false_eq_true, true_and, and_true, false_and, and_false, or_true, true_or, or_false, false_or, and_self, or_self, Int32.lt_irrefl]))) (fun q => absurd c6 q))) (fun q => absurd n3 q))))
      · by_cases c6 : e = I x 2
        · rw [if_pos c1] at e1
          rw [if_pos c2] at e2
          rw [if_neg c4] at e3
          subst e1; subst e2; subst e3
          refine am_wq_T (cut := fun _ _ => false) (inl := fun z => !(Nat.beq z 22)) 120 _ _ _ ?_
          exact And.intro hk (And.intro (fun q => absurd q n1) (fun _ => And.intro (fun q => absurd q n2) (fun _ => And.intro (fun _ => And.intro hk (And.intro (fun q => absurd c6 q) (fun _ => And.intro (fun _ => And.intro rfl (h0 _ ch_rfl (by simp only [c1, c2, c4, c6, not_true_eq_false, not_false_eq_true, true_and, and_true, false_and, and_false, or_true, true_or, or_false, false_or, and_self, or_self, Int32.lt_irrefl]))) (fun q => absurd rfl q)))) (fun q => absurd n3 q))))
        · rw [if_pos c1] at e1
          rw [if_pos c2] at e2
          rw [if_neg c4] at e3
          subst e1; subst e2; subst e3
          refine am_wq_T (cut := fun _ _ => false) (inl := fun z => !(Nat.beq z 22)) 120 _ _ _ ?_
          exact And.intro hk (And.intro (fun q => absurd q n1) (fun _ => And.intro (fun q => absurd q n2) (fun _ => And.intro (fun _ => And.intro hk (And.intro (fun _ => And.intro rfl (h0 _ ch_rfl (by simp only [c1, c2, c4, c6, not_true_eq_false, not_false_eq_true, true_and, and_true, false_and, and_false, or_true, true_or, or_false, false_or, and_self, or_self, Int32.lt_irrefl]))) (fun q => absurd c6 q))) (fun q => absurd n3 q))))
    · by_cases c4 : e - e / 2 * 2 = 0
      · by_cases c6 : e = I x 2
        · rw [if_pos c1] at e1
          rw [if_neg c2] at e2
          rw [if_pos c4] at e3
          subst e1; subst e2; subst e3
          refine am_wq_T (cut := fun _ _ => false) (inl := fun z => !(Nat.beq z 22)) 120 _ _ _ ?_
          exact And.intro hk (And.intro (fun q => absurd q n1) (fun _ => And.intro (fun q => absurd q n2) (fun _ => And.intro (fun _ => And.intro hk (And.intro (fun q => absurd c6 q) (fun _ => And.intro (fun q => absurd q l1) (fun _ => And.intro hkb (old _ (fun I' hI' q => And.intro (fun q2 => absurd q2 l1) (fun _ => And.intro rfl (h1 _ hI' (by simp only [c1, c2, c4, c6, q, not_true_eq_false, not_false_eq_true, true_and, and_true, false_and, and_false, or_true, true_or, or_false, false_or, and_self, or_self, Int32.lt_irrefl])))) (fun I' hI' q => And.intro (fun _ => And.intro rfl (h0 _ hI' (by simp only [c1, c2, c4, c6, q, not_true_eq_false, not_false_eq_true, true_and, and_true, false_and, and_false, or_true, true_or, or_false, false_or, and_self, or_self, Int32.lt_irrefl]))) (fun q2 => absurd rfl q2))))))) (fun q => absurd n3 q))))
        · rw [if_pos c1] at e1
          rw [if_neg c2] at e2
          rw [if_pos c4] at e3
          subst e1; subst e2; subst e3
          refine am_wq_T (cut := fun _ _ => false) (inl := fun z => !(Nat.beq z 22)) 120 _ _ _ ?_
          exact And.intro hk (And.intro (fun q => absurd q n1) (fun _ => And.intro (fun q => absurd q n2) (fun _ => And.intro (fun _ => And.intro hk (And.intro (fun _ => And.intro rfl (h0 _ ch_rfl (by simp only [c1, c2, c4, c6, not_true_eq_false, not_false_eq_true, true_and, and_true, false_and, and_false, or_true, true_or, or_false, false_or, and_self, or_self, Int32.lt_irrefl]))) (fun q => absurd c6 q))) (fun q => absurd n3 q))))
      · by_cases c6 : e = I x 2
        · rw [if_pos c1] at e1
          rw [if_neg c2] at e2
          rw [if_neg c4] at e3
          subst e1; subst e2; subst e3
          refine am_wq_T (cut := fun _ _ => false) (inl := fun z => !(Nat.beq z 22)) 120 _ _ _ ?_
          exact And.intro hk (And.intro (fun q => absurd q n1) (fun _ => And.intro (fun q => absurd q n2) (fun _ => And.intro (fun _ => And.intro hk (And.intro (fun q => absurd c6 q) (fun _ => And.intro (fun q => absurd q l1) (fun _ => And.intro hkb (old _ (fun I' hI' q => And.intro (fun q2 => absurd q2 l1) (fun _ => And.intro rfl (h1 _ hI' (by simp only [c1, c2, c4, c6, q, not_true_eq_false, not_false_eq_true, true_and, and_true, false_and, and_false, or_true, true_or, or_false, false_or, and_self, or_self, Int32.lt_irrefl])))) (fun I' hI' q => And.intro (fun _ => And.intro rfl (h0 _ hI' (by simp only [c1, c2, c4, c6, q, not_true_eq_false, not_false_eq_true, true_and, and_true, false_and, and_false, or_true, true_or, or_false, false_or, and_self, or_self, Int32.lt_irrefl]))) (fun q2 => absurd rfl q2))))))) (fun q => absurd n3 q))))
        · rw [if_pos c1] at e1
          rw [if_neg c2] at e2
          rw [if_neg c4] at e3
          subst e1; subst e2; subst e3
          refine am_wq_T (cut := fun _ _ => false) (inl := fun z => !(Nat.beq z 22)) 120 _ _ _ ?_
          exact And.intro hk (And.intro (fun q => absurd q n1) (fun _ => And.intro (fun q => absurd q n2) (fun _ => And.intro (fun _ => And.intro hk (And.intro (fun _ => And.intro rfl (h0 _ ch_rfl (by simp only [c1, c2, c4, c6, not_true_eq_false, not_false_eq_true, true_and, and_true, false_and, and_false, or_true, true_or, or_false, false_or, and_self, or_self, Int32.lt_irrefl]))) (fun q => absurd c6 q))) (fun q => absurd n3 q))))
  · by_cases c2 : I b 8 < apc (I x 1) p
    · by_cases c4 : e - e / 2 * 2 = 0
      · by_cases c6 : e = I x 2
        · rw [if_neg c1] at e1
          rw [if_pos c2] at e2
          rw [if_pos c4] at e3
          subst e1; subst e2; subst e3
          refine am_wq_T (cut := fun _ _ => false) (inl := fun z => !(Nat.beq z 22)) 120 _ _ _ ?_
          exact And.intro hk (And.intro (fun q => absurd q n1) (fun _ => And.intro (fun q => absurd q n2) (fun _ => And.intro (fun _ => And.intro hk (And.intro (fun q => absurd c6 q) (fun _ => And.intro (fun _ => And.intro rfl (h0 _ ch_rfl (by simp only [c1, c2, c4, c6, not_true_eq_false, not_false_eq_true, true_and, and_true, false_and, and_false, or_true, true_or, or_false, false_or, and_self, or_self, Int32.lt_irrefl]))) (fun q => absurd rfl q)))) (fun q => absurd n3 q))))
        · rw [if_neg c1] at e1
          rw [if_pos c2] at e2
          rw [if_pos c4] at e3
          subst e1; subst e2; subst e3
          refine am_wq_T (cut := fun _ _ => false) (inl := fun z => !(Nat.beq z 22)) 120 _ _ _ ?_
          exact And.intro hk (And.intro (fun q => absurd q n1) (fun _ => And.intro (fun q => absurd q n2) (fun _ => And.intro (fun _ => And.intro hk (And.intro (fun _ => And.intro rfl (h0 _ ch_rfl (by simp only [c1, c2, c4, c6, not_true_eq_false, not_false_eq_true, true_and, and_true, false_and, and_false, or_true, true_or, or_false, false_or, and_self, or_self, Int32.lt_irrefl]))) (fun q => absurd c6 q))) (fun q => absurd n3 q))))
      · by_cases c6 : e = I x 2
        · rw [if_neg c1] at e1
          rw [if_pos c2] at e2
          rw [if_neg c4] at e3
          subst e1; subst e2; subst e3
          refine am_wq_T (cut := fun _ _ => false) (inl := fun z => !(Nat.beq z 22)) 120 _ _ _ ?_
          exact And.intro hk (And.intro (fun q => absurd q n1) (fun _ => And.intro (fun q => absurd q n2) (fun _ => And.intro (fun _ => And.intro hk (And.intro (fun q => absurd c6 q) (fun _ => And.intro (fun _ => And.intro rfl (h0 _ ch_rfl (by simp only [c1, c2, c4, c6, not_true_eq_false, not_false_eq_true, true_and, and_true, false_and, and_false, or_true, true_or, or_false, false_or, and_self, or_self, Int32.lt_irrefl]))) (fun q => absurd rfl q)))) (fun q => absurd n3 q))))
        · rw [if_neg c1] at e1
          rw [if_pos c2] at e2
          rw [if_neg c4] at e3
          subst e1; subst e2; subst e3
          refine am_wq_T (cut := fun _ _ => false) (inl := fun z => !(Nat.beq z 22)) 120 _ _ _ ?_
          exact And.intro hk (And.intro (fun q => absurd q n1) (fun _ => And.intro (fun q => absurd q n2) (fun _ => And.intro (fun _ => And.intro hk (And.intro (fun _ => And.intro rfl (h0 _ ch_rfl (by simp only [c1, c2, c4, c6, not_true_eq_false, not_false_eq_true, true_and, and_true, false_and, and_false, or_true, true_or, or_false, false_or, and_self, or_self, Int32.lt_irrefl]))) (fun q => absurd c6 q))) (fun q => absurd n3 q))))
    · by_cases c4 : e - e / 2 * 2 = 0
      · by_cases c6 : e = I x 2
        · rw [if_neg c1] at e1
          rw [if_neg c2] at e2
          rw [if_pos c4] at e3
          subst e1; subst e2; subst e3
          refine am_wq_T (cut := fun _ _ => false) (inl := fun z => !(Nat.beq z 22)) 120 _ _ _ ?_
          exact And.intro hk (And.intro (fun q => absurd q n1) (fun _ => And.intro (fun q => absurd q n2) (fun _ => And.intro (fun _ => And.intro hk (And.intro (fun q => absurd c6 q) (fun _ => And.intro (fun q => absurd q l1) (fun _ => And.intro hkb (old _ (fun I' hI' q => And.intro (fun q2 => absurd q2 l1) (fun _ => And.intro rfl (h1 _ hI' (by simp only [c1, c2, c4, c6, q, not_true_eq_false, not_false_eq_true, true_and, and_true, false_and, and_false, or_true, true_or, or_false, false_or, and_self, or_self, Int32.lt_irrefl])))) (fun I' hI' q => And.intro (fun _ => And.intro rfl (h0 _ hI' (by simp only [c1, c2, c4, c6, q, not_true_eq_false, not_false_eq_true, true_and, and_true, false_and, and_false, or_true, true_or, or_false, false_or, and_self, or_self, Int32.lt_irrefl]))) (fun q2 => absurd rfl q2))))))) (fun q => absurd n3 q))))
        · rw [if_neg c1] at e1
          rw [if_neg c2] at e2
          rw [if_pos c4] at e3
          subst e1; subst e2; subst e3
          refine am_wq_T (cut := fun _ _ => false) (inl := fun z => !(Nat.beq z 22)) 120 _ _ _ ?_
          exact And.intro hk (And.intro (fun q => absurd q n1) (fun _ => And.intro (fun q => absurd q n2) (fun _ => And.intro (fun _ => And.intro hk (And.intro (fun _ => And.intro rfl (h0 _ ch_rfl (by simp only [c1, c2, c4, c6, not_true_eq_false, not_false_eq_true, true_and, and_true, false_and, and_false, or_true, true_or, or_false, false_or, and_self, or_self, Int32.lt_irrefl]))) (fun q => absurd c6 q))) (fun q => absurd n3 q))))
      · by_cases c6 : e = I x 2
        · rw [if_neg c1] at e1
          rw [if_neg c2] at e2
          rw [if_neg c4] at e3
          subst e1; subst e2; subst e3
          refine am_wq_T (cut := fun _ _ => false) (inl := fun z => !(Nat.beq z 22)) 120 _ _ _ ?_
          exact And.intro hk (And.intro (fun q => absurd q n1) (fun _ => And.intro (fun q => absurd q n2) (fun _ => And.intro (fun _ => And.intro hk (And.intro (fun q => absurd c6 q) (fun _ => And.intro (fun q => absurd q l1) (fun _ => And.intro hkb (old _ (fun I' hI' q => And.intro (fun q2 => absurd q2 l1) (fun _ => And.intro rfl (h1 _ hI' (by simp only [c1, c2, c4, c6, q, not_true_eq_false, not_false_eq_true, true_and, and_true, false_and, and_false, or_true, true_or, or_false, false_or, and_self, or_self, Int32.lt_irrefl])))) (fun I' hI' q => And.intro (fun _ => And.intro rfl (h0 _ hI' (by simp only [c1, c2, c4, c6, q, not_true_eq_false, not_false_eq_true, true_and, and_true, false_and, and_false, or_true, true_or, or_false, false_or, and_self, or_self, Int32.lt_irrefl]))) (fun q2 => absurd rfl q2))))))) (fun q => absurd n3 q))))
        · rw [if_neg c1] at e1
          rw [if_neg c2] at e2
          rw [if_neg c4] at e3
          subst e1; subst e2; subst e3
          refine am_wq_T (cut := fun _ _ => false) (inl := fun z => !(Nat.beq z 22)) 120 _ _ _ ?_
          exact And.intro hk (And.intro (fun q => absurd q n1) (fun _ => And.intro (fun q => absurd q n2) (fun _ => And.intro (fun _ => And.intro hk (And.intro (fun _ => And.intro rfl (h0 _ ch_rfl (by simp only [c1, c2, c4, c6, not_true_eq_false, not_false_eq_true, true_and, and_true, false_and, and_false, or_true, true_or, or_false, false_or, and_self, or_self, Int32.lt_irrefl]))) (fun q => absurd c6 q))) (fun q => absurd n3 q))))
theorem c_cf_4 (hkb : am_k kt b = (2, 14)) (hk : am_k kt x = (1, 5)) (ek : I x 0 = 4) (old : OLD kt I J T n s b x lw) (h5 : p = I x 1 ↔ apc (I x 1) p = 0) (h1 : ∀ I', ch CT I I' → TKv 4 (I x 2) (I x 4) lw (I b 8) e (apc (I x 1) p) → K (some (.int 1)) (am_mk kt I' J T n s)) (h0 : ∀ I', ch CT I I' → ¬ TKv 4 (I x 2) (I x 4) lw (I b 8) e (apc (I x 1) p) → K (some (.int 0)) (am_mk kt I' J T n s)) : am_T am_C (21, 3, 0, [.ref b, .ref x, .int e, .int p, .null, .null, .null], []) (am_mk kt I J T n s) K := by
  have l1 : ¬ (1 : Int32) = 0 := by decide
  have n1 : ¬ I x 0 = 1 := by rw [ek]; decide
  have n2 : ¬ I x 0 = 2 := by rw [ek]; decide
  have n3 : ¬ I x 0 = 3 := by rw [ek]; decide
  have n4 : I x 0 = 4 := ek
  have n5 : ¬ I x 0 = 5 := by rw [ek]; decide
  simp only [TKv_4] at h1 h0
  refine c_cfA hkb hk (fun f nr ev e1 e2 e3 => ?_)
  by_cases c1 : I x 2 < e
  · by_cases c2 : I b 8 < apc (I x 1) p
    · by_cases c4 : e - e / 2 * 2 = 0
      · by_cases c5 : apc (I x 1) p = 0
        · have c5p := h5.mpr c5
          rw [if_pos c1] at e1
          rw [if_pos c2] at e2
          rw [if_pos c4] at e3
          subst e1; subst e2; subst e3
          refine am_wq_T (cut := fun _ _ => false) (inl := fun z => !(Nat.beq z 22)) 120 _ _ _ ?_
          exact And.intro hk (And.intro (fun q => absurd q n1) (fun _ => And.intro (fun q => absurd q n2) (fun _ => And.intro (fun q => absurd q n3) (fun _ => And.intro (fun _ => And.intro (fun _ => And.intro rfl (h0 _ ch_rfl (by simp only [c1, c2, c4, c5, not_true_eq_false, not_false_eq_true, true_and, and_true, false_and, and_false, or_true, true_or, or_false, false_or, and_self, or_self, Int32.lt_irrefl]))) (fun q => absurd rfl q)) (fun q => absurd n4 q)))))
        · have c5p := fun q => c5 (h5.mp q)
          rw [if_pos c1] at e1
          rw [if_pos c2] at e2
          rw [if_pos c4] at e3
          subst e1; subst e2; subst e3
          refine am_wq_T (cut := fun _ _ => false) (inl := fun z => !(Nat.beq z 22)) 120 _ _ _ ?_
          exact And.intro hk (And.intro (fun q => absurd q n1) (fun _ => And.intro (fun q => absurd q n2) (fun _ => And.intro (fun q => absurd q n3) (fun _ => And.intro (fun _ => And.intro (fun _ => And.intro rfl (h0 _ ch_rfl (by simp only [c1, c2, c4, c5, not_true_eq_false, not_false_eq_true, true_and, and_true, false_and, and_false, or_true, true_or, or_false, false_or, and_self, or_self, Int32.lt_irrefl]))) (fun q => absurd rfl q)) (fun q => absurd n4 q)))))
      · by_cases c5 : apc (I x 1) p = 0
        · have c5p := h5.mpr c5
          rw [if_pos c1] at e1
          rw [if_pos c2] at e2
          rw [if_neg c4] at e3
          subst e1; subst e2; subst e3
          refine am_wq_T (cut := fun _ _ => false) (inl := fun z => !(Nat.beq z 22)) 120 _ _ _ ?_
          exact And.intro hk (And.intro (fun q => absurd q n1) (fun _ => And.intro (fun q => absurd q n2) (fun _ => And.intro (fun q => absurd q n3) (fun _ => And.intro (fun _ => And.intro (fun _ => And.intro rfl (h0 _ ch_rfl (by simp only [c1, c2, c4, c5, not_true_eq_false, not_false_eq_true, true_and, and_true, false_and, and_false, or_true, true_or, or_false, false_or, and_self, or_self, Int32.lt_irrefl]))) (fun q => absurd rfl q)) (fun q => absurd n4 q)))))
        · have c5p := fun q => c5 (h5.mp q)
          rw [if_pos c1] at e1
          rw [if_pos c2] at e2
          rw [if_neg c4] at e3
          subst e1; subst e2; subst e3
          refine am_wq_T (cut := fun _ _ => false) (inl := fun z => !(Nat.beq z 22)) 120 _ _ _ ?_
          exact And.intro hk (And.intro (fun q => absurd q n1) (fun _ => And.intro (fun q => absurd q n2) (fun _ => And.intro (fun q => absurd q n3) (fun _ => And.intro (fun _ => And.intro (fun _ => And.intro rfl (h0 _ ch_rfl (by simp only [c1, c2, c4, c5, not_true_eq_false, not_false_eq_true, true_and, and_true, false_and, and_false, or_true, true_or, or_false, false_or, and_self, or_self, Int32.lt_irrefl]))) (fun q => absurd rfl q)) (fun q => absurd n4 q)))))
    · by_cases c4 : e - e / 2 * 2 = 0
      · by_cases c5 : apc (I x 1) p = 0
        · have c5p := h5.mpr c5
          rw [if_pos c1] at e1
          rw [if_neg c2] at e2
          rw [if_pos c4] at e3
          subst e1; subst e2; subst e3
          refine am_wq_T (cut := fun _ _ => false) (inl := fun z => !(Nat.beq z 22)) 120 _ _ _ ?_
          exact And.intro hk (And.intro (fun q => absurd q n1) (fun _ => And.intro (fun q => absurd q n2) (fun _ => And.intro (fun q => absurd q n3) (fun _ => And.intro (fun _ => And.intro (fun _ => And.intro rfl (h0 _ ch_rfl (by simp only [c1, c2, c4, c5, not_true_eq_false, not_false_eq_true, true_and, and_true, false_and, and_false, or_true, true_or, or_false, false_or, and_self, or_self, Int32.lt_irrefl]))) (fun q => absurd rfl q)) (fun q => absurd n4 q)))))
        · have c5p := fun q => c5 (h5.mp q)
          rw [if_pos c1] at e1
          rw [if_neg c2] at e2
          rw [if_pos c4] at e3
          subst e1; subst e2; subst e3
          refine am_wq_T (cut := fun _ _ => false) (inl := fun z => !(Nat.beq z 22)) 120 _ _ _ ?_
          exact And.intro hk (And.intro (fun q => absurd q n1) (fun _ => And.intro (fun q => absurd q n2) (fun _ => And.intro (fun q => absurd q n3) (fun _ => And.intro (fun _ => And.intro (fun _ => And.intro rfl (h0 _ ch_rfl (by simp only [c1, c2, c4, c5, not_true_eq_false, not_false_eq_true, true_and, and_true, false_and, and_false, or_true, true_or, or_false, false_or, and_self, or_self, Int32.lt_irrefl]))) (fun q => absurd rfl q)) (fun q => absurd n4 q)))))
      · by_cases c5 : apc (I x 1) p = 0
        · have c5p := h5.mpr c5
          rw [if_pos c1] at e1
          rw [if_neg c2] at e2
          rw [if_neg c4] at e3
          subst e1; subst e2; subst e3
          refine am_wq_T (cut := fun _ _ => false) (inl := fun z => !(Nat.beq z 22)) 120 _ _ _ ?_
          exact And.intro hk (And.intro (fun q => absurd q n1) (fun _ => And.intro (fun q => absurd q n2) (fun _ => And.intro (fun q => absurd q n3) (fun _ => And.intro (fun _ => And.intro (fun _ => And.intro rfl (h0 _ ch_rfl (by simp only [c1, c2, c4, c5, not_true_eq_false, not_false_eq_true, true_and, and_true, false_and, and_false, or_true, true_or, or_false, false_or, and_self, or_self, Int32.lt_irrefl]))) (fun q => absurd rfl q)) (fun q => absurd n4 q)))))
        · have c5p := fun q => c5 (h5.mp q)
          rw [if_pos c1] at e1
          rw [if_neg c2] at e2
          rw [if_neg c4] at e3
          subst e1; subst e2; subst e3
          refine am_wq_T (cut := fun _ _ => false) (inl := fun z => !(Nat.beq z 22)) 120 _ _ _ ?_
          exact And.intro hk (And.intro (fun q => absurd q n1) (fun _ => And.intro (fun q => absurd q n2) (fun _ => And.intro (fun q => absurd q n3) (fun _ => And.intro (fun _ => And.intro (fun _ => And.intro rfl (h0 _ ch_rfl (by simp only [c1, c2, c4, c5, not_true_eq_false, not_false_eq_true, true_and, and_true, false_and, and_false, or_true, true_or, or_false, false_or, and_self, or_self, Int32.lt_irrefl]))) (fun q => absurd rfl q)) (fun q => absurd n4 q)))))
  · by_cases c2 : I b 8 < apc (I x 1) p
    · by_cases c4 : e - e / 2 * 2 = 0
      · by_cases c5 : apc (I x 1) p = 0
        · have c5p := h5.mpr c5
          rw [if_neg c1] at e1
          rw [if_pos c2] at e2
          rw [if_pos c4] at e3
          subst e1; subst e2; subst e3
          refine am_wq_T (cut := fun _ _ => false) (inl := fun z => !(Nat.beq z 22)) 120 _ _ _ ?_
          exact And.intro hk (And.intro (fun q => absurd q n1) (fun _ => And.intro (fun q => absurd q n2) (fun _ => And.intro (fun q => absurd q n3) (fun _ => And.intro (fun _ => And.intro (fun q => absurd q l1) (fun _ => And.intro (fun _ => And.intro hk (And.intro (fun q => absurd c5p q) (fun _ => And.intro rfl (h1 _ ch_rfl (by simp only [c1, c2, c4, c5, not_true_eq_false, not_false_eq_true, true_and, and_true, false_and, and_false, or_true, true_or, or_false, false_or, and_self, or_self, Int32.lt_irrefl]))))) (fun q => absurd rfl q))) (fun q => absurd n4 q)))))
        · have c5p := fun q => c5 (h5.mp q)
          rw [if_neg c1] at e1
          rw [if_pos c2] at e2
          rw [if_pos c4] at e3
          subst e1; subst e2; subst e3
          refine am_wq_T (cut := fun _ _ => false) (inl := fun z => !(Nat.beq z 22)) 120 _ _ _ ?_
          exact And.intro hk (And.intro (fun q => absurd q n1) (fun _ => And.intro (fun q => absurd q n2) (fun _ => And.intro (fun q => absurd q n3) (fun _ => And.intro (fun _ => And.intro (fun q => absurd q l1) (fun _ => And.intro (fun _ => And.intro hk (And.intro (fun _ => And.intro rfl (h0 _ ch_rfl (by simp only [c1, c2, c4, c5, not_true_eq_false, not_false_eq_true, true_and, and_true, false_and, and_false, or_true, true_or, or_false, false_or, and_self, or_self, Int32.lt_irrefl]))) (fun q => absurd c5p q))) (fun q => absurd rfl q))) (fun q => absurd n4 q)))))
      · by_cases c5 : apc (I x 1) p = 0
        · have c5p := h5.mpr c5
          rw [if_neg c1] at e1
          rw [if_pos c2] at e2
          rw [if_neg c4] at e3
          subst e1; subst e2; subst e3
          refine am_wq_T (cut := fun _ _ => false) (inl := fun z => !(Nat.beq z 22)) 120 _ _ _ ?_
          exact And.intro hk (And.intro (fun q => absurd q n1) (fun _ => And.intro (fun q => absurd q n2) (fun _ => And.intro (fun q => absurd q n3) (fun _ => And.intro (fun _ => And.intro (fun q => absurd q l1) (fun _ => And.intro (fun _ => And.intro hk (And.intro (fun q => absurd c5p q) (fun _ => And.intro rfl (h1 _ ch_rfl (by simp only [c1, c2, c4, c5, not_true_eq_false, not_false_eq_true, true_and, and_true, false_and, and_false, or_true, true_or, or_false, false_or, and_self, or_self, Int32.lt_irrefl]))))) (fun q => absurd rfl q))) (fun q => absurd n4 q)))))
        · have c5p := fun q => c5 (h5.mp q)
          rw [if_neg c1] at e1
          rw [if_pos c2] at e2
          rw [if_neg c4] at e3
          subst e1; subst e2; subst e3
          refine am_wq_T (cut := fun _ _ => false) (inl := fun z => !(Nat.beq z 22)) 120 _ _ _ ?_
          exact And.intro hk (And.intro (fun q => absurd q n1) (fun _ => And.intro (fun q => absurd q n2) (fun _ => And.intro (fun q => absurd q n3) (fun _ => And.intro (fun _ => And.intro (fun q => absurd q l1) (fun _ => And.intro (fun _ => And.intro hk (And.intro (fun _ => And.intro rfl (h0 _ ch_rfl (by simp only [c1, c2, c4, c5, not_true_eq_false, not_false_eq_true, true_and, and_true, false_and, and_false, or_true, true_or, or_false, false_or, and_self, or_self, Int32.lt_irrefl]))) (fun q => absurd c5p q))) (fun q => absurd rfl q))) (fun q => absurd n4 q)))))
    · by_cases c4 : e - e / 2 * 2 = 0
      · by_cases c5 : apc (I x 1) p = 0
        · have c5p := h5.mpr c5
          rw [if_neg c1] at e1
          rw [if_neg c2] at e2
          rw [if_pos c4] at e3
          subst e1; subst e2; subst e3
          refine am_wq_T (cut := fun _ _ => false) (inl := fun z => !(Nat.beq z 22)) 120 _ _ _ ?_
          exact And.intro hk (And.intro (fun q => absurd q n1) (fun _ => And.intro (fun q => absurd q n2) (fun _ => And.intro (fun q => absurd q n3) (fun _ => And.intro (fun _ => And.intro (fun q => absurd q l1) (fun _ => And.intro (fun q => absurd q l1) (fun _ => And.intro (fun _ => And.intro rfl (h1 _ ch_rfl (by simp only [c1, c2, c4, c5, not_true_eq_false, not_false_eq_true, true_and, and_true, false_and, and_false, or_true, true_or, or_false, false_or, and_self, or_self, Int32.lt_irrefl]))) (fun q => absurd l1 q)))) (fun q => absurd n4 q)))))
        · have c5p := fun q => c5 (h5.mp q)
          rw [if_neg c1] at e1
          rw [if_neg c2] at e2
          rw [if_pos c4] at e3
          subst e1; subst e2; subst e3
          refine am_wq_T (cut := fun _ _ => false) (inl := fun z => !(Nat.beq z 22)) 120 _ _ _ ?_
          exact And.intro hk (And.intro (fun q => absurd q n1) (fun _ => And.intro (fun q => absurd q n2) (fun _ => And.intro (fun q => absurd q n3) (fun _ => And.intro (fun _ => And.intro (fun q => absurd q l1) (fun _ => And.intro (fun q => absurd q l1) (fun _ => And.intro (fun _ => And.intro rfl (h1 _ ch_rfl (by simp only [c1, c2, c4, c5, not_true_eq_false, not_false_eq_true, true_and, and_true, false_and, and_false, or_true, true_or, or_false, false_or, and_self, or_self, Int32.lt_irrefl]))) (fun q => absurd l1 q)))) (fun q => absurd n4 q)))))
      · by_cases c5 : apc (I x 1) p = 0
        · have c5p := h5.mpr c5
          rw [if_neg c1] at e1
          rw [if_neg c2] at e2
          rw [if_neg c4] at e3
          subst e1; subst e2; subst e3
          refine am_wq_T (cut := fun _ _ => false) (inl := fun z => !(Nat.beq z 22)) 120 _ _ _ ?_
          exact And.intro hk (And.intro (fun q => absurd q n1) (fun _ => And.intro (fun q => absurd q n2) (fun _ => And.intro (fun q => absurd q n3) (fun _ => And.intro (fun _ => And.intro (fun q => absurd q l1) (fun _ => And.intro (fun q => absurd q l1) (fun _ => And.intro (fun q => absurd rfl q) (fun _ => And.intro hk (And.intro (fun q => absurd c5p q) (fun _ => And.intro rfl (h1 _ ch_rfl (by simp only [c1, c2, c4, c5, not_true_eq_false, not_false_eq_true, true_and, and_true, false_and, and_false, or_true, true_or, or_false, false_or, and_self, or_self, Int32.lt_irrefl])))))))) (fun q => absurd n4 q)))))
        · have c5p := fun q => c5 (h5.mp q)
          rw [if_neg c1] at e1
          rw [if_neg c2] at e2
          rw [if_neg c4] at e3
          subst e1; subst e2; subst e3
          refine am_wq_T (cut := fun _ _ => false) (inl := fun z => !(Nat.beq z 22)) 120 _ _ _ ?_
          exact And.intro hk (And.intro (fun q => absurd q n1) (fun _ => And.intro (fun q => absurd q n2) (fun _ => And.intro (fun q => absurd q n3) (fun _ => And.intro (fun _ => And.intro (fun q => absurd q l1) (fun _ => And.intro (fun q => absurd q l1) (fun _ => And.intro (fun q => absurd rfl q) (fun _ => And.intro hk (And.intro (fun _ => And.intro rfl (h0 _ ch_rfl (by simp only [c1, c2, c4, c5, not_true_eq_false, not_false_eq_true, true_and, and_true, false_and, and_false, or_true, true_or, or_false, false_or, and_self, or_self, Int32.lt_irrefl]))) (fun q => absurd c5p q)))))) (fun q => absurd n4 q)))))
theorem c_cf_5 (hkb : am_k kt b = (2, 14)) (hk : am_k kt x = (1, 5)) (ek : I x 0 = 5) (old : OLD kt I J T n s b x lw) (h1 : ∀ I', ch CT I I' → TKv 5 (I x 2) (I x 4) lw (I b 8) e (apc (I x 1) p) → K (some (.int 1)) (am_mk kt I' J T n s)) (h0 : ∀ I', ch CT I I' → ¬ TKv 5 (I x 2) (I x 4) lw (I b 8) e (apc (I x 1) p) → K (some (.int 0)) (am_mk kt I' J T n s)) : am_T am_C (21, 3, 0, [.ref b, .ref x, .int e, .int p, .null, .null, .null], []) (am_mk kt I J T n s) K := by
  have l1 : ¬ (1 : Int32) = 0 := by decide
  have n1 : ¬ I x 0 = 1 := by rw [ek]; decide
  have n2 : ¬ I x 0 = 2 := by rw [ek]; decide
  have n3 : ¬ I x 0 = 3 := by rw [ek]; decide
  have n4 : ¬ I x 0 = 4 := by rw [ek]; decide
  have n5 : I x 0 = 5 := ek
  simp only [TKv_5] at h1 h0
  refine c_cfA hkb hk (fun f nr ev e1 e2 e3 => ?_)
  by_cases c1 : I x 2 < e
  · by_cases c2 : I b 8 < apc (I x 1) p
    · by_cases c4 : e - e / 2 * 2 = 0
      · rw [if_pos c1] at e1
        rw [if_pos c2] at e2
        rw [if_pos c4] at e3
        subst e1; subst e2; subst e3
        refine am_wq_T (cut := fun _ _ => false) (inl := fun z => !(Nat.beq z 22)) 120 _ _ _ ?_
        exact And.intro hk (And.intro (fun q => absurd q n1) (fun _ => And.intro (fun q => absurd q n2) (fun _ => And.intro (fun q => absurd q n3) (fun _ => And.intro (fun q => absurd q n4) (fun _ => And.intro (fun _ => And.intro rfl (h0 _ ch_rfl (by simp only [c1, c2, c4, not_true_eq_false, not_false_eq_true, true_and, and_true, false_and, and_false, or_true, true_or, or_false, false_or, and_self, or_self, Int32.lt_irrefl]))) (fun q => absurd n5 q))))))
      · rw [if_pos c1] at e1
        rw [if_pos c2] at e2
        rw [if_neg c4] at e3
        subst e1; subst e2; subst e3
        refine am_wq_T (cut := fun _ _ => false) (inl := fun z => !(Nat.beq z 22)) 120 _ _ _ ?_
        exact And.intro hk (And.intro (fun q => absurd q n1) (fun _ => And.intro (fun q => absurd q n2) (fun _ => And.intro (fun q => absurd q n3) (fun _ => And.intro (fun q => absurd q n4) (fun _ => And.intro (fun _ => And.intro rfl (h0 _ ch_rfl (by simp only [c1, c2, c4, not_true_eq_false, not_false_eq_true, true_and, and_true, false_and, and_false, or_true, true_or, or_false, false_or, and_self, or_self, Int32.lt_irrefl]))) (fun q => absurd n5 q))))))
    · by_cases c4 : e - e / 2 * 2 = 0
      · rw [if_pos c1] at e1
        rw [if_neg c2] at e2
        rw [if_pos c4] at e3
        subst e1; subst e2; subst e3
        refine am_wq_T (cut := fun _ _ => false) (inl := fun z => !(Nat.beq z 22)) 120 _ _ _ ?_
        exact And.intro hk (And.intro (fun q => absurd q n1) (fun _ => And.intro (fun q => absurd q n2) (fun _ => And.intro (fun q => absurd q n3) (fun _ => And.intro (fun q => absurd q n4) (fun _ => And.intro (fun _ => And.intro rfl (h0 _ ch_rfl (by simp only [c1, c2, c4, not_true_eq_false, not_false_eq_true, true_and, and_true, false_and, and_false, or_true, true_or, or_false, false_or, and_self, or_self, Int32.lt_irrefl]))) (fun q => absurd n5 q))))))
      · rw [if_pos c1] at e1
        rw [if_neg c2] at e2
        rw [if_neg c4] at e3
        subst e1; subst e2; subst e3
        refine am_wq_T (cut := fun _ _ => false) (inl := fun z => !(Nat.beq z 22)) 120 _ _ _ ?_
        exact And.intro hk (And.intro (fun q => absurd q n1) (fun _ => And.intro (fun q => absurd q n2) (fun _ => And.intro (fun q => absurd q n3) (fun _ => And.intro (fun q => absurd q n4) (fun _ => And.intro (fun _ => And.intro rfl (h0 _ ch_rfl (by simp only [c1, c2, c4, not_true_eq_false, not_false_eq_true, true_and, and_true, false_and, and_false, or_true, true_or, or_false, false_or, and_self, or_self, Int32.lt_irrefl]))) (fun q => absurd n5 q))))))
  · by_cases c2 : I b 8 < apc (I x 1) p
    · by_cases c4 : e - e / 2 * 2 = 0
      · rw [if_neg c1] at e1
        rw [if_pos c2] at e2
        rw [if_pos c4] at e3
        subst e1; subst e2; subst e3
        refine am_wq_T (cut := fun _ _ => false) (inl := fun z => !(Nat.beq z 22)) 120 _ _ _ ?_
        exact And.intro hk (And.intro (fun q => absurd q n1) (fun _ => And.intro (fun q => absurd q n2) (fun _ => And.intro (fun q => absurd q n3) (fun _ => And.intro (fun q => absurd q n4) (fun _ => And.intro (fun _ => And.intro rfl (h1 _ ch_rfl (by simp only [c1, c2, c4, not_true_eq_false, not_false_eq_true, true_and, and_true, false_and, and_false, or_true, true_or, or_false, false_or, and_self, or_self, Int32.lt_irrefl]))) (fun q => absurd n5 q))))))
      · rw [if_neg c1] at e1
        rw [if_pos c2] at e2
        rw [if_neg c4] at e3
        subst e1; subst e2; subst e3
        refine am_wq_T (cut := fun _ _ => false) (inl := fun z => !(Nat.beq z 22)) 120 _ _ _ ?_
        exact And.intro hk (And.intro (fun q => absurd q n1) (fun _ => And.intro (fun q => absurd q n2) (fun _ => And.intro (fun q => absurd q n3) (fun _ => And.intro (fun q => absurd q n4) (fun _ => And.intro (fun _ => And.intro rfl (h1 _ ch_rfl (by simp only [c1, c2, c4, not_true_eq_false, not_false_eq_true, true_and, and_true, false_and, and_false, or_true, true_or, or_false, false_or, and_self, or_self, Int32.lt_irrefl]))) (fun q => absurd n5 q))))))
    · by_cases c4 : e - e / 2 * 2 = 0
      · rw [if_neg c1] at e1
        rw [if_neg c2] at e2
        rw [if_pos c4] at e3
        subst e1; subst e2; subst e3
        refine am_wq_T (cut := fun _ _ => false) (inl := fun z => !(Nat.beq z 22)) 120 _ _ _ ?_
        exact And.intro hk (And.intro (fun q => absurd q n1) (fun _ => And.intro (fun q => absurd q n2) (fun _ => And.intro (fun q => absurd q n3) (fun _ => And.intro (fun q => absurd q n4) (fun _ => And.intro (fun _ => And.intro rfl (h1 _ ch_rfl (by simp only [c1, c2, c4, not_true_eq_false, not_false_eq_true, true_and, and_true, false_and, and_false, or_true, true_or, or_false, false_or, and_self, or_self, Int32.lt_irrefl]))) (fun q => absurd n5 q))))))
      · rw [if_neg c1] at e1
        rw [if_neg c2] at e2
        rw [if_neg c4] at e3
        subst e1; subst e2; subst e3
        refine am_wq_T (cut := fun _ _ => false) (inl := fun z => !(Nat.beq z 22)) 120 _ _ _ ?_
        exact And.intro hk (And.intro (fun q => absurd q n1) (fun _ => And.intro (fun q => absurd q n2) (fun _ => And.intro (fun q => absurd q n3) (fun _ => And.intro (fun q => absurd q n4) (fun _ => And.intro (fun _ => And.intro rfl (h1 _ ch_rfl (by simp only [c1, c2, c4, not_true_eq_false, not_false_eq_true, true_and, and_true, false_and, and_false, or_true, true_or, or_false, false_or, and_self, or_self, Int32.lt_irrefl]))) (fun q => absurd n5 q))))))
theorem c_canFill21 (hR : sg_LR kt I T n 21 N hc wc tc) (hB : HB N hc) (hh : h < hc) (hx : x = 27 + h) (hp : sg_in p 0 29) (h1 : ∀ I', ch CT I I' → TK N tc h e p → K (some (.int 1)) (am_mk kt I' J T n s)) (h0 : ∀ I', ch CT I I' → ¬ TK N tc h e p → K (some (.int 0)) (am_mk kt I' J T n s)) : am_T am_C (21, 3, 0, [.ref 21, .ref x, .int e, .int p, .null, .null, .null], []) (am_mk kt I J T n s) K := by
  have hc10 := hR.1
  have hf : ∀ k, k < 5 → I x k = N (21 + 5 * h + k) := fun k hk => by rw [hx]; exact hR.2.2.2.2.2.2.2.2.2.1 h hh k hk
  have hm : I 21 8 = N 3 := hR.2.2.2.2.2.2.2.2.2.2.2.1
  have hb := hB h hh
  obtain ⟨ap, ap0⟩ := ap_eq hb.2.1 hp
  unfold TK at h1 h0
  rw [← hf 0 (by decide), ← hf 1 (by decide), ← hf 2 (by decide), ← hf 3 (by decide), ← hf 4 (by decide), ← hm] at h1 h0
  rw [← hf 1 (by decide)] at ap ap0
  rw [← ap] at h1 h0 ap0
  have hk := in6k (show sg_in (I x 0) 0 5 by rw [hf 0 (by decide)]; exact hb.1)
  have hkx : am_k kt x = (1, 5) := by rw [hx]; exact kL21 (by omega)
  have old : OLD kt I J T n s 21 x (lwv N tc (I x 2) (I x 3)) := fun K a b => c_isOld21 hkx hR (by omega) rfl a b
  rcases hk with e | e | e | e | e | e
  · rw [e] at h1 h0; exact c_cf_0 rfl hkx e old h1 h0
  · rw [e] at h1 h0; exact c_cf_1 rfl hkx e old h1 h0
  · rw [e] at h1 h0; exact c_cf_2 rfl hkx e old h1 h0
  · rw [e] at h1 h0; exact c_cf_3 rfl hkx e old h1 h0
  · rw [e] at h1 h0; exact c_cf_4 rfl hkx e old ap0 h1 h0
  · rw [e] at h1 h0; exact c_cf_5 rfl hkx e old h1 h0
theorem c_canFill37 (hR : sg_LR kt I T n 37 N hc wc tc) (hB : HB N hc) (hh : h < hc) (hx : x = 43 + h) (hp : sg_in p 0 29) (h1 : ∀ I', ch CT I I' → TK N tc h e p → K (some (.int 1)) (am_mk kt I' J T n s)) (h0 : ∀ I', ch CT I I' → ¬ TK N tc h e p → K (some (.int 0)) (am_mk kt I' J T n s)) : am_T am_C (21, 3, 0, [.ref 37, .ref x, .int e, .int p, .null, .null, .null], []) (am_mk kt I J T n s) K := by
  have hc10 := hR.1
  have hf : ∀ k, k < 5 → I x k = N (21 + 5 * h + k) := fun k hk => by rw [hx]; exact hR.2.2.2.2.2.2.2.2.2.1 h hh k hk
  have hm : I 37 8 = N 3 := hR.2.2.2.2.2.2.2.2.2.2.2.1
  have hb := hB h hh
  obtain ⟨ap, ap0⟩ := ap_eq hb.2.1 hp
  unfold TK at h1 h0
  rw [← hf 0 (by decide), ← hf 1 (by decide), ← hf 2 (by decide), ← hf 3 (by decide), ← hf 4 (by decide), ← hm] at h1 h0
  rw [← hf 1 (by decide)] at ap ap0
  rw [← ap] at h1 h0 ap0
  have hk := in6k (show sg_in (I x 0) 0 5 by rw [hf 0 (by decide)]; exact hb.1)
  have hkx : am_k kt x = (1, 5) := by rw [hx]; exact kL37 (by omega)
  have old : OLD kt I J T n s 37 x (lwv N tc (I x 2) (I x 3)) := fun K a b => c_isOld37 hkx hR (by omega) rfl a b
  rcases hk with e | e | e | e | e | e
  · rw [e] at h1 h0; exact c_cf_0 rfl hkx e old h1 h0
  · rw [e] at h1 h0; exact c_cf_1 rfl hkx e old h1 h0
  · rw [e] at h1 h0; exact c_cf_2 rfl hkx e old h1 h0
  · rw [e] at h1 h0; exact c_cf_3 rfl hkx e old h1 h0
  · rw [e] at h1 h0; exact c_cf_4 rfl hkx e old ap0 h1 h0
  · rw [e] at h1 h0; exact c_cf_5 rfl hkx e old h1 h0
end CFS
end T46
