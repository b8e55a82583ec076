/-! how holes settle -/
section T47
variable {kt : Nat → Nat × Nat} {I I' : Nat → Nat → Int32} {J J' : Nat → Nat → Int64} {T : Nat → Nat → Nat} {n s : Nat} {L : Nat} {xs : Nat → Int32} {K : Option Value → am_M → Prop} {N : Nat → Int32} {hc wc tc h : Nat}
theorem STv_0 (pl x : Int32) : STv 0 pl x = pl := by unfold STv; rw [if_neg (by decide), if_neg (by decide), if_neg (by decide), if_neg (by decide), if_neg (by decide)]
theorem STv_1 (pl x : Int32) : STv 1 pl x = pl + 1 := by unfold STv; rw [if_pos rfl]
theorem STv_2 (pl x : Int32) : STv 2 pl x = wth (2 * pl) 0 9 := by unfold STv; rw [if_neg (by decide), if_pos rfl]
theorem STv_3 (pl x : Int32) : STv 3 pl x = 0 := by unfold STv; rw [if_neg (by decide), if_neg (by decide), if_pos rfl]
theorem STv_4 (pl x : Int32) : STv 4 pl x = wth (2 * pl) 0 9 / 2 := by unfold STv; rw [if_neg (by decide), if_neg (by decide), if_neg (by decide), if_pos rfl]
theorem STv_5 (pl x : Int32) : STv 5 pl x = x / 9 := by unfold STv; rw [if_neg (by decide), if_neg (by decide), if_neg (by decide), if_neg (by decide), if_pos rfl]
theorem l2 : ¬ (2 : Int32) = 0 := by decide
theorem l5 : ¬ (5 : Int32) = 0 := by decide
theorem l9 : ¬ (9 : Int32) = 0 := by decide
theorem m_st60 {k pl x : Int32} {v3 v5 : Value} (hN : I 108 = N) (hh : h ≤ 10) (ek : N (21 + 5 * h + 0) = k) (hk : k = 0 ∨ k = 1 ∨ k = 2 ∨ k = 3 ∨ k = 4 ∨ k = 5) (hK : K (some (.int (STv k pl x))) (am_mk kt I J T n s)) : am_T am_C (133, 2, 60, [.ref 107, .int (nI h), .int x, v3, .int pl, v5], []) (am_mk kt I J T n s) K := by
  have d : ∀ a b : Int32, decide (a = b) = true → a = b := fun a b q => of_decide_eq_true q
  rcases hk with rfl | rfl | rfl | rfl | rfl | rfl
  · rw [STv_0] at hK
    refine am_wq_T (cut := fun _ _ => false) (inl := fun z => !((Nat.beq z 114 || Nat.beq z 121))) 120 _ _ _ ?_
    refine m_within (And.intro rfl (m_ofV (h := h) (w := 0) hN rfl rfl hh (by decide) ek ?_))
    exact And.intro (fun q => absurd q (by decide)) (fun _ => And.intro (fun q => absurd q (by decide)) (fun _ => And.intro (fun q => absurd q (by decide)) (fun _ => And.intro (fun q => absurd q (by decide)) (fun _ => And.intro (fun q => absurd q (by decide)) (fun _ => hK)))))
  · rw [STv_1] at hK
    refine am_wq_T (cut := fun _ _ => false) (inl := fun z => !((Nat.beq z 114 || Nat.beq z 121))) 120 _ _ _ ?_
    refine m_within (And.intro rfl (m_ofV (h := h) (w := 0) hN rfl rfl hh (by decide) ek ?_))
    exact And.intro (fun _ => hK) (fun q => absurd rfl q)
  · rw [STv_2] at hK
    refine am_wq_T (cut := fun _ _ => false) (inl := fun z => !((Nat.beq z 114 || Nat.beq z 121))) 120 _ _ _ ?_
    refine m_within (And.intro rfl (m_ofV (h := h) (w := 0) hN rfl rfl hh (by decide) ek ?_))
    exact And.intro (fun q => absurd q (by decide)) (fun _ => And.intro (fun _ => hK) (fun q => absurd rfl q))
  · rw [STv_3] at hK
    refine am_wq_T (cut := fun _ _ => false) (inl := fun z => !((Nat.beq z 114 || Nat.beq z 121))) 120 _ _ _ ?_
    refine m_within (And.intro rfl (m_ofV (h := h) (w := 0) hN rfl rfl hh (by decide) ek ?_))
    exact And.intro (fun q => absurd q (by decide)) (fun _ => And.intro (fun q => absurd q (by decide)) (fun _ => And.intro (fun _ => hK) (fun q => absurd rfl q)))
  · rw [STv_4] at hK
    refine am_wq_T (cut := fun _ _ => false) (inl := fun z => !((Nat.beq z 114 || Nat.beq z 121))) 120 _ _ _ ?_
    refine m_within (And.intro rfl (m_ofV (h := h) (w := 0) hN rfl rfl hh (by decide) ek ?_))
    exact And.intro (fun q => absurd q (by decide)) (fun _ => And.intro (fun q => absurd q (by decide)) (fun _ => And.intro (fun q => absurd q (by decide)) (fun _ => And.intro (fun _ => And.intro l2 hK) (fun q => absurd rfl q))))
  · rw [STv_5] at hK
    refine am_wq_T (cut := fun _ _ => false) (inl := fun z => !((Nat.beq z 114 || Nat.beq z 121))) 120 _ _ _ ?_
    refine m_within (And.intro rfl (m_ofV (h := h) (w := 0) hN rfl rfl hh (by decide) ek ?_))
    exact And.intro (fun q => absurd q (by decide)) (fun _ => And.intro (fun q => absurd q (by decide)) (fun _ => And.intro (fun q => absurd q (by decide)) (fun _ => And.intro (fun q => absurd q (by decide)) (fun _ => And.intro (fun _ => And.intro l9 hK) (fun q => absurd rfl q)))))
theorem m_settles {x : Int32} (hN : I 108 = N) (ho : RO N hc wc tc) (hh : h ≤ 10) (hb : sg_in (N (21 + 5 * h + 0)) 0 5) (hK : ∀ I', ch PF I I' → I' 108 = N → K (some (.int (ST N tc h x))) (am_mk kt I' J T n s)) : am_T am_C (133, 2, 0, [.ref 107, .int (nI h), .int x, .null, .null, .null], []) (am_mk kt I J T n s) K := by
  have hk := in6k hb
  unfold ST at hK
  obtain ⟨d, hd⟩ : ∃ d, N (21 + 5 * h + 2) = d := ⟨_, rfl⟩
  obtain ⟨a, ha⟩ : ∃ d, N (21 + 5 * h + 4) = d := ⟨_, rfl⟩
  rw [hd, ha] at hK
  have e0 : vp_in 0 4 := vpl (k := 0) (by decide) (by decide)
  have e1 : vp_in 1 4 := vpl (k := 1) (by decide) (by decide)
  have e2 : vp_in 2 4 := vpl (k := 2) (by decide) (by decide)
  have u : am_up (am_up (am_up I 124 0 x) 124 1 d) 124 2 a 108 = N := by rw [up_off (by decide), up_off (by decide), up_off (by decide), hN]
  have hc1 : ch PF I (am_up (am_up (am_up I 124 0 x) 124 1 d) 124 2 a) := ch_tr (ch_up (P := PF) (.inr rfl)) (ch_tr (S := PF) (ch_up (P := PF) (.inr rfl)) (ch_up (P := PF) (.inr rfl)) fun r q => q.elim id id) fun r q => q.elim id id
  unfold plv at hK
  rcases cnt_c (N := N) (key := 1) tc ho.2.2.1 with e | ⟨t, ht, e, ek⟩
  · rw [e, if_pos (by decide)] at hK
    refine am_wq_T (cut := fun z pc => (Nat.beq z 133 && Nat.beq pc 60)) (inl := fun z => !((Nat.beq z 185 || (Nat.beq z 121 || (Nat.beq z 188 || Nat.beq z 114))))) 120 _ _ _ ?_
    refine And.intro rfl (m_countsV hN (key := 1) rfl ho e ?_)
    refine And.intro rfl (And.intro ⟨rfl, e0⟩ (And.intro rfl (And.intro rfl (m_ofV (I := am_up I 124 0 x) (h := h) (w := 2) ((up_off (by decide)).trans hN) rfl rfl hh (by decide) hd ?_))))
    refine And.intro ⟨rfl, e1⟩ (And.intro rfl (And.intro rfl (m_ofV (h := h) (w := 4) (I := am_up (am_up I 124 0 x) 124 1 d) (N := N) ((up_off (by decide)).trans ((up_off (by decide)).trans hN)) rfl rfl hh (by decide) ha ?_)))
    refine And.intro ⟨rfl, e2⟩ (And.intro (fun q => absurd q (by decide)) (fun _ => And.intro l5 ?_))
    exact m_st60 u hh rfl hk (hK _ hc1 u)
  · have ht14 := ho.2.2.1
    have tp : ¬ nI t < 0 := nI_pos (by omega)
    have tp2 : 0 ≤ nI t := nI_pos' (by omega)
    rw [e, if_neg tp, nI_clamp (by omega)] at hK
    refine am_wq_T (cut := fun z pc => (Nat.beq z 133 && Nat.beq pc 60)) (inl := fun z => !((Nat.beq z 185 || (Nat.beq z 121 || (Nat.beq z 188 || Nat.beq z 114))))) 120 _ _ _ ?_
    refine And.intro rfl (m_countsV hN (key := 1) rfl ho e ?_)
    refine And.intro rfl (And.intro ⟨rfl, e0⟩ (And.intro rfl (And.intro rfl (m_ofV (I := am_up I 124 0 x) (h := h) (w := 2) ((up_off (by decide)).trans hN) rfl rfl hh (by decide) hd ?_))))
    refine And.intro ⟨rfl, e1⟩ (And.intro rfl (And.intro rfl (m_ofV (h := h) (w := 4) (I := am_up (am_up I 124 0 x) 124 1 d) (N := N) ((up_off (by decide)).trans ((up_off (by decide)).trans hN)) rfl rfl hh (by decide) ha ?_)))
    refine And.intro ⟨rfl, e2⟩ (And.intro (fun _ => And.intro rfl ?_) (fun q => absurd tp2 q))
    refine m_worksV (I := am_up (am_up (am_up I 124 0 x) 124 1 d) 124 2 a) (p := x) (q := d) (x := a) (v := tvN N t x d a) u ho ht ?_ ?_ ?_ rfl (fun I' h1 h2 => ?_)
    · rw [up_ne (by omega), up_ne (by omega), up_eq]
    · rw [up_ne (by omega), up_eq]
    · rw [up_eq]
    · refine m_within ?_
      exact m_st60 h2 hh rfl hk (hK _ (ch_tr hc1 h1 fun r q => q.elim id id) h2)
theorem plv_b {x d a : Int32} (hx : sg_in x 0 9) : ∃ j : Nat, j ≤ 9 ∧ plv N tc x d a = nI j := by
  unfold plv
  split
  · obtain ⟨j, hj, rfl⟩ := in_nI (m := 9) hx (by decide)
    exact ⟨j / 5, by omega, by rw [show (5 : Int32) = nI 5 from rfl, pk_div (by omega) (by decide) (by decide)]⟩
  · refine in_nI (m := 9) ?_ (by decide)
    unfold wth sg_in
    split
    · decide
    · split
      · decide
      · (simp only [Int32.lt_iff_toInt_lt, Int32.le_iff_toInt_le, gt_iff_lt, ge_iff_le, ← Int32.toInt_inj, Int32.reduceToInt, Int32.reduceMul, Int32.reduceAdd, Int32.reduceSub, ne_eq, true_and, and_true, false_and, and_false, not_true_eq_false, not_false_eq_true, true_or, or_true, false_or, or_false] at *; omega)
theorem min9 : ∀ j, j ≤ 9 → (if 2 * nI j < 9 then 2 * nI j else 9) = wth (2 * nI j) 0 9 := by decide +kernel
theorem c_sinksPlain21 {x : Nat} {y pl : Int32} (hk : am_k kt x = (1, 5)) (hR : sg_LR kt I T n 21 N hc wc tc) (hv : plv N tc y (I x 2) (I x 4) = pl) (hK : ∀ I', ch CT I I' → K (some (.int pl)) (am_mk kt I' J T n s)) : am_T am_C (24, 2, 0, [.ref 21, .ref x, .int y, .null], []) (am_mk kt I J T n s) K := by
  unfold plv at hv
  rcases cnt_c (N := N) (key := 1) tc hR.2.2.1 with e | ⟨t, ht, e, ek⟩
  · rw [e, if_pos (by decide)] at hv
    subst hv
    refine am_wq_T (cut := fun _ _ => false) (inl := fun z => !((Nat.beq z 31 || Nat.beq z 58))) 120 _ _ _ ?_
    refine And.intro rfl (c_textFor21_no (key := 1) rfl (by decide) hR e ?_)
    exact And.intro (fun _ => And.intro l5 (hK I ch_rfl)) (fun q => absurd rfl q)
  · have h14 := hR.2.2.1
    rw [e, if_neg (nI_pos (by omega)), nI_clamp (by omega)] at hv
    have hT := hR.2.2.2.2.2.2.2.2.2.2.2.2.2.2.2.2.2.1 t ht
    have hnz : ¬ T 25 t = 0 := by have := hT; obtain ⟨_, _, _, q, -⟩ := this; intro e; rw [show T (21 + 4) t = T 25 t from rfl, e] at q; omega
    refine am_wq_T (cut := fun _ _ => false) (inl := fun z => !((Nat.beq z 31 || Nat.beq z 58))) 120 _ _ _ ?_
    refine And.intro rfl (c_textFor21 (key := 1) rfl (by decide) hR ht e ?_)
    refine And.intro (fun q => absurd q hnz) (fun _ => ?_)
    refine And.intro hk (And.intro hk (And.intro ?_ ?_))
    · obtain ⟨_, _, _, q0, _, _, q, -⟩ := hT
      exact (kr_own q0).trans q
    refine c_valueT hT fun I' hI' => ?_
    have h9 := held9 (tvN N t y (I x 2) (I x 4))
    rw [hv] at h9
    rw [← h9] at hK
    exact hK I' hI'
theorem c_sinks21 {x : Nat} {y : Int32} (hR : sg_LR kt I T n 21 N hc wc tc) (hB : HB N hc) (hh : h < hc) (hx : x = 27 + h) (hy : sg_in y 0 9) (hK : ∀ I', ch CT I I' → K (some (.int (ST N tc h y))) (am_mk kt I' J T n s)) : am_T am_C (23, 3, 0, [.ref 21, .ref x, .int y], []) (am_mk kt I J T n s) K := by
  have hc10 := hR.1
  have hf : ∀ k, k < 5 → I x k = N (21 + 5 * h + k) := fun k hk => by rw [hx]; exact hR.2.2.2.2.2.2.2.2.2.1 h hh k hk
  have hkx : am_k kt x = (1, 5) := by rw [hx]; exact kL21 (by omega)
  have hb := hB h hh
  unfold ST at hK
  rw [← hf 0 (by decide), ← hf 2 (by decide), ← hf 4 (by decide)] at hK
  have hk := in6k (show sg_in (I x 0) 0 5 by rw [hf 0 (by decide)]; exact hb.1)
  obtain ⟨j, hj, ej⟩ := plv_b (N := N) (tc := tc) (d := I x 2) (a := I x 4) hy
  have m9 := min9 j hj
  rw [ej] at hK
  rcases hk with e | e | e | e | e | e
  · have n1 : ¬ I x 0 = 1 := by rw [e]; decide
    have n2 : ¬ I x 0 = 2 := by rw [e]; decide
    have n3 : ¬ I x 0 = 3 := by rw [e]; decide
    have n4 : ¬ I x 0 = 4 := by rw [e]; decide
    have n5 : ¬ I x 0 = 5 := by rw [e]; decide
    rw [e, STv_0] at hK
    refine am_wq_T (cut := fun _ _ => false) (inl := fun z => !(Nat.beq z 24)) 120 _ _ _ ?_
    exact And.intro hkx (And.intro (fun q => absurd q n1) (fun _ => And.intro (fun q => absurd q n2) (fun _ => And.intro (fun q => absurd q n3) (fun _ => And.intro (fun q => absurd q n4) (fun _ => And.intro (fun q => absurd q n5) (fun _ => And.intro rfl (c_sinksPlain21 hkx hR ej hK)))))))
  · rw [e, STv_1] at hK
    refine am_wq_T (cut := fun _ _ => false) (inl := fun z => !(Nat.beq z 24)) 120 _ _ _ ?_
    exact And.intro hkx (And.intro (fun _ => And.intro rfl (c_sinksPlain21 hkx hR ej hK)) (fun q => absurd e q))
  · have n1 : ¬ I x 0 = 1 := by rw [e]; decide
    rw [e, STv_2, ← m9] at hK
    refine am_wq_T (cut := fun _ _ => false) (inl := fun z => !(Nat.beq z 24)) 120 _ _ _ ?_
    exact And.intro hkx (And.intro (fun q => absurd q n1) (fun _ => And.intro (fun _ => And.intro rfl (c_sinksPlain21 hkx hR ej hK)) (fun q => absurd e q)))
  · have n1 : ¬ I x 0 = 1 := by rw [e]; decide
    have n2 : ¬ I x 0 = 2 := by rw [e]; decide
    rw [e, STv_3] at hK
    refine am_wq_T (cut := fun _ _ => false) (inl := fun z => !(Nat.beq z 24)) 120 _ _ _ ?_
    exact And.intro hkx (And.intro (fun q => absurd q n1) (fun _ => And.intro (fun q => absurd q n2) (fun _ => And.intro (fun _ => hK I ch_rfl) (fun q => absurd e q))))
  · have n1 : ¬ I x 0 = 1 := by rw [e]; decide
    have n2 : ¬ I x 0 = 2 := by rw [e]; decide
    have n3 : ¬ I x 0 = 3 := by rw [e]; decide
    rw [e, STv_4, ← m9] at hK
    refine am_wq_T (cut := fun _ _ => false) (inl := fun z => !(Nat.beq z 24)) 120 _ _ _ ?_
    exact And.intro hkx (And.intro (fun q => absurd q n1) (fun _ => And.intro (fun q => absurd q n2) (fun _ => And.intro (fun q => absurd q n3) (fun _ => And.intro (fun _ => And.intro rfl (c_sinksPlain21 hkx hR ej fun I' hI' => And.intro l2 (hK I' hI'))) (fun q => absurd e q)))))
  · have n1 : ¬ I x 0 = 1 := by rw [e]; decide
    have n2 : ¬ I x 0 = 2 := by rw [e]; decide
    have n3 : ¬ I x 0 = 3 := by rw [e]; decide
    have n4 : ¬ I x 0 = 4 := by rw [e]; decide
    rw [e, STv_5] at hK
    refine am_wq_T (cut := fun _ _ => false) (inl := fun z => !(Nat.beq z 24)) 120 _ _ _ ?_
    exact And.intro hkx (And.intro (fun q => absurd q n1) (fun _ => And.intro (fun q => absurd q n2) (fun _ => And.intro (fun q => absurd q n3) (fun _ => And.intro (fun q => absurd q n4) (fun _ => And.intro (fun _ => And.intro l9 (hK I ch_rfl)) (fun q => absurd e q))))))
theorem c_sinksPlain37 {x : Nat} {y pl : Int32} (hk : am_k kt x = (1, 5)) (hR : sg_LR kt I T n 37 N hc wc tc) (hv : plv N tc y (I x 2) (I x 4) = pl) (hK : ∀ I', ch CT I I' → K (some (.int pl)) (am_mk kt I' J T n s)) : am_T am_C (24, 2, 0, [.ref 37, .ref x, .int y, .null], []) (am_mk kt I J T n s) K := by
  unfold plv at hv
  rcases cnt_c (N := N) (key := 1) tc hR.2.2.1 with e | ⟨t, ht, e, ek⟩
  · rw [e, if_pos (by decide)] at hv
    subst hv
    refine am_wq_T (cut := fun _ _ => false) (inl := fun z => !((Nat.beq z 31 || Nat.beq z 58))) 120 _ _ _ ?_
    refine And.intro rfl (c_textFor37_no (key := 1) rfl (by decide) hR e ?_)
    exact And.intro (fun _ => And.intro l5 (hK I ch_rfl)) (fun q => absurd rfl q)
  · have h14 := hR.2.2.1
    rw [e, if_neg (nI_pos (by omega)), nI_clamp (by omega)] at hv
    have hT := hR.2.2.2.2.2.2.2.2.2.2.2.2.2.2.2.2.2.1 t ht
    have hnz : ¬ T 41 t = 0 := by have := hT; obtain ⟨_, _, _, q, -⟩ := this; intro e; rw [show T (37 + 4) t = T 41 t from rfl, e] at q; omega
    refine am_wq_T (cut := fun _ _ => false) (inl := fun z => !((Nat.beq z 31 || Nat.beq z 58))) 120 _ _ _ ?_
    refine And.intro rfl (c_textFor37 (key := 1) rfl (by decide) hR ht e ?_)
    refine And.intro (fun q => absurd q hnz) (fun _ => ?_)
    refine And.intro hk (And.intro hk (And.intro ?_ ?_))
    · obtain ⟨_, _, _, q0, _, _, q, -⟩ := hT
      exact (kr_own q0).trans q
    refine c_valueT hT fun I' hI' => ?_
    have h9 := held9 (tvN N t y (I x 2) (I x 4))
    rw [hv] at h9
    rw [← h9] at hK
    exact hK I' hI'
theorem c_sinks37 {x : Nat} {y : Int32} (hR : sg_LR kt I T n 37 N hc wc tc) (hB : HB N hc) (hh : h < hc) (hx : x = 43 + h) (hy : sg_in y 0 9) (hK : ∀ I', ch CT I I' → K (some (.int (ST N tc h y))) (am_mk kt I' J T n s)) : am_T am_C (23, 3, 0, [.ref 37, .ref x, .int y], []) (am_mk kt I J T n s) K := by
  have hc10 := hR.1
  have hf : ∀ k, k < 5 → I x k = N (21 + 5 * h + k) := fun k hk => by rw [hx]; exact hR.2.2.2.2.2.2.2.2.2.1 h hh k hk
  have hkx : am_k kt x = (1, 5) := by rw [hx]; exact kL37 (by omega)
  have hb := hB h hh
  unfold ST at hK
  rw [← hf 0 (by decide), ← hf 2 (by decide), ← hf 4 (by decide)] at hK
  have hk := in6k (show sg_in (I x 0) 0 5 by rw [hf 0 (by decide)]; exact hb.1)
  obtain ⟨j, hj, ej⟩ := plv_b (N := N) (tc := tc) (d := I x 2) (a := I x 4) hy
  have m9 := min9 j hj
  rw [ej] at hK
  rcases hk with e | e | e | e | e | e
  · have n1 : ¬ I x 0 = 1 := by rw [e]; decide
    have n2 : ¬ I x 0 = 2 := by rw [e]; decide
    have n3 : ¬ I x 0 = 3 := by rw [e]; decide
    have n4 : ¬ I x 0 = 4 := by rw [e]; decide
    have n5 : ¬ I x 0 = 5 := by rw [e]; decide
    rw [e, STv_0] at hK
    refine am_wq_T (cut := fun _ _ => false) (inl := fun z => !(Nat.beq z 24)) 120 _ _ _ ?_
    exact And.intro hkx (And.intro (fun q => absurd q n1) (fun _ => And.intro (fun q => absurd q n2) (fun _ => And.intro (fun q => absurd q n3) (fun _ => And.intro (fun q => absurd q n4) (fun _ => And.intro (fun q => absurd q n5) (fun _ => And.intro rfl (c_sinksPlain37 hkx hR ej hK)))))))
  · rw [e, STv_1] at hK
    refine am_wq_T (cut := fun _ _ => false) (inl := fun z => !(Nat.beq z 24)) 120 _ _ _ ?_
    exact And.intro hkx (And.intro (fun _ => And.intro rfl (c_sinksPlain37 hkx hR ej hK)) (fun q => absurd e q))
  · have n1 : ¬ I x 0 = 1 := by rw [e]; decide
    rw [e, STv_2, ← m9] at hK
    refine am_wq_T (cut := fun _ _ => false) (inl := fun z => !(Nat.beq z 24)) 120 _ _ _ ?_
    exact And.intro hkx (And.intro (fun q => absurd q n1) (fun _ => And.intro (fun _ => And.intro rfl (c_sinksPlain37 hkx hR ej hK)) (fun q => absurd e q)))
  · have n1 : ¬ I x 0 = 1 := by rw [e]; decide
    have n2 : ¬ I x 0 = 2 := by rw [e]; decide
    rw [e, STv_3] at hK
    refine am_wq_T (cut := fun _ _ => false) (inl := fun z => !(Nat.beq z 24)) 120 _ _ _ ?_
    exact And.intro hkx (And.intro (fun q => absurd q n1) (fun _ => And.intro (fun q => absurd q n2) (fun _ => And.intro (fun _ => hK I ch_rfl) (fun q => absurd e q))))
  · have n1 : ¬ I x 0 = 1 := by rw [e]; decide
    have n2 : ¬ I x 0 = 2 := by rw [e]; decide
    have n3 : ¬ I x 0 = 3 := by rw [e]; decide
    rw [e, STv_4, ← m9] at hK
    refine am_wq_T (cut := fun _ _ => false) (inl := fun z => !(Nat.beq z 24)) 120 _ _ _ ?_
    exact And.intro hkx (And.intro (fun q => absurd q n1) (fun _ => And.intro (fun q => absurd q n2) (fun _ => And.intro (fun q => absurd q n3) (fun _ => And.intro (fun _ => And.intro rfl (c_sinksPlain37 hkx hR ej fun I' hI' => And.intro l2 (hK I' hI'))) (fun q => absurd e q)))))
  · have n1 : ¬ I x 0 = 1 := by rw [e]; decide
    have n2 : ¬ I x 0 = 2 := by rw [e]; decide
    have n3 : ¬ I x 0 = 3 := by rw [e]; decide
    have n4 : ¬ I x 0 = 4 := by rw [e]; decide
    rw [e, STv_5] at hK
    refine am_wq_T (cut := fun _ _ => false) (inl := fun z => !(Nat.beq z 24)) 120 _ _ _ ?_
    exact And.intro hkx (And.intro (fun q => absurd q n1) (fun _ => And.intro (fun q => absurd q n2) (fun _ => And.intro (fun q => absurd q n3) (fun _ => And.intro (fun q => absurd q n4) (fun _ => And.intro (fun _ => And.intro l9 (hK I ch_rfl)) (fun q => absurd e q))))))
end T47
