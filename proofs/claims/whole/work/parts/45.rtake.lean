/-! what a hole of the reference takes, how it settles -/
section T45
def wth (v a b : Int32) : Int32 := if v < a then a else if b < v then b else v
/-- a row of the reference, in order -/
def RO (N : Nat → Int32) (hc wc tc : Nat) : Prop := hc ≤ 11 ∧ wc ≤ 6 ∧ tc ≤ 14 ∧ N 1 = nI hc ∧ N 7 = nI wc ∧ N 8 = nI tc ∧ ∀ t, t < tc → ∃ key len cs, TX N t key len cs
def lwv (N : Nat → Int32) (tc : Nat) (d o : Int32) : Int32 := if sg_cnt N 0 tc < 0 then 3 else wth (tvN N (sg_cnt N 0 tc).toNatClampNeg d o 0) 0 99
def plv (N : Nat → Int32) (tc : Nat) (x d a : Int32) : Int32 := if sg_cnt N 1 tc < 0 then x / 5 else wth (tvN N (sg_cnt N 1 tc).toNatClampNeg x d a) 0 9
def fiv (N : Nat → Int32) (tc : Nat) (o l : Int32) : Int32 := if sg_cnt N 2 tc < 0 then o else tvN N (sg_cnt N 2 tc).toNatClampNeg o l 0
def TKv (k d ag lw mi e ap : Int32) : Prop :=
  if k = 1 then ¬ d < e ∧ ¬ mi < ap ∧ ¬ ag < lw else if k = 2 then ¬ d < e ∧ ¬ mi < ap ∧ e - e / 2 * 2 = 0 else if k = 3 then ¬ d < e ∧ ¬ mi < ap ∧ ¬ ag < lw ∧ e = d
  else if k = 4 then (¬ d < e ∧ ¬ mi < ap ∧ e - e / 2 * 2 = 0) ∨ (¬ d < e ∧ ap = 0) else if k = 5 then ¬ d < e else ¬ d < e ∧ ¬ mi < ap
def TK (N : Nat → Int32) (tc h : Nat) (e p : Int32) : Prop := TKv (N (21 + 5 * h + 0)) (N (21 + 5 * h + 2)) (N (21 + 5 * h + 4)) (lwv N tc (N (21 + 5 * h + 2)) (N (21 + 5 * h + 3))) (N 3) e (apt (N (21 + 5 * h + 1)) p)
def STv (k pl x : Int32) : Int32 := if k = 1 then pl + 1 else if k = 2 then wth (2 * pl) 0 9 else if k = 3 then 0 else if k = 4 then wth (2 * pl) 0 9 / 2 else if k = 5 then x / 9 else pl
def ST (N : Nat → Int32) (tc h : Nat) (x : Int32) : Int32 := STv (N (21 + 5 * h + 0)) (plv N tc x (N (21 + 5 * h + 2)) (N (21 + 5 * h + 4))) x
def PF (r : Nat) : Prop := r = 123 ∨ r = 124
variable {kt : Nat → Nat × Nat} {I I' : Nat → Nat → Int32} {J J' : Nat → Nat → Int64} {T : Nat → Nat → Nat} {n s : Nat} {L : Nat} {xs : Nat → Int32} {K : Option Value → am_M → Prop} {N : Nat → Int32} {hc wc tc : Nat}
theorem m_ofV {h w : Nat} {x y v : Int32} (hN : I 108 = N) (hx : x = nI h) (hy : y = nI w) (hh : h ≤ 10) (hw : w < 5) (hv : N (21 + 5 * h + w) = v) (hK : K (some (.int v)) (am_mk kt I J T n s)) : am_T am_C (121, 0, 0, [.ref 107, .int x, .int y], []) (am_mk kt I J T n s) K :=
  m_of hx hy hh hw (by rw [hN, hv]; exact hK)
theorem m_countsV {key : Nat} {x v : Int32} (hN : I 108 = N) (hx : x = nI key) (ho : RO N hc wc tc) (hv : sg_cnt N key tc = v) (hK : K (some (.int v)) (am_mk kt I J T n s)) : am_T am_C (185, 0, 0, [.ref 107, .int x, .null], []) (am_mk kt I J T n s) K :=
  m_counts hN hx ho.2.2.2.2.2.1 ho.2.2.1 (by rw [hv]; exact hK)
theorem m_worksV {t : Nat} {p q x v : Int32} (hN : I 108 = N) (ho : RO N hc wc tc) (ht : t < tc) (h0 : I 124 0 = p) (h1 : I 124 1 = q) (h2 : I 124 2 = x) (hv : tvN N t p q x = v) (hK : ∀ I', ch PF I I' → I' 108 = N → K (some (.int v)) (am_mk kt I' J T n s)) : am_T am_C (188, 1, 0, [.ref 107, .int (nI t), .null, .null, .null, .null], []) (am_mk kt I J T n s) K := by
  obtain ⟨key, len, cs, h⟩ := ho.2.2.2.2.2.2 t ht
  have h14 := ho.2.2.1
  subst hN
  refine m_works (by omega) h fun I' hI => ?_
  rw [h0, h1, h2, hv]
  exact hK I' (ch_w hI fun r q => .inl q) (hI 108 (by decide))
theorem m_within {v a b : Int32} (hK : K (some (.int (wth v a b))) (am_mk kt I J T n s)) : am_T am_C (114, 0, 0, [.int v, .int a, .int b], []) (am_mk kt I J T n s) K := by
  unfold wth at hK
  by_cases c : v < a
  · have c' : ¬ a ≤ v := Int32.not_le.mpr c
    rw [if_pos c] at hK
    refine am_wq_T (cut := fun _ _ => false) (inl := fun _ => true) 120 _ _ _ ?_
    repeat' first
       | (refine And.intro (fun hx_ => ?_) (fun hx_ => ?_) <;> first | exact absurd hx_ (by assumption) | exact absurd (by assumption) hx_ | skip)
       | (refine And.intro (by assumption) ?_)
       | (refine And.intro ⟨by assumption, by assumption⟩ ?_)
       | (refine And.intro ⟨rfl, by assumption⟩ ?_)
       | (refine And.intro rfl ?_)
       | (refine And.intro (show ¬ ((_ : Int32) = 0) from of_decide_eq_true rfl) ?_)
    exact hK
  · have c' : a ≤ v := Int32.not_lt.mp c
    rw [if_neg c] at hK
    by_cases c2 : b < v
    · have c2' : ¬ v ≤ b := Int32.not_le.mpr c2
      rw [if_pos c2] at hK
      refine am_wq_T (cut := fun _ _ => false) (inl := fun _ => true) 120 _ _ _ ?_
      repeat' first
         | (refine And.intro (fun hx_ => ?_) (fun hx_ => ?_) <;> first | exact absurd hx_ (by assumption) | exact absurd (by assumption) hx_ | skip)
         | (refine And.intro (by assumption) ?_)
         | (refine And.intro ⟨by assumption, by assumption⟩ ?_)
         | (refine And.intro ⟨rfl, by assumption⟩ ?_)
         | (refine And.intro rfl ?_)
         | (refine And.intro (show ¬ ((_ : Int32) = 0) from of_decide_eq_true rfl) ?_)
      exact hK
    · have c2' : v ≤ b := Int32.not_lt.mp c2
      rw [if_neg c2] at hK
      refine am_wq_T (cut := fun _ _ => false) (inl := fun _ => true) 120 _ _ _ ?_
      repeat' first
         | (refine And.intro (fun hx_ => ?_) (fun hx_ => ?_) <;> first | exact absurd hx_ (by assumption) | exact absurd (by assumption) hx_ | skip)
         | (refine And.intro (by assumption) ?_)
         | (refine And.intro ⟨by assumption, by assumption⟩ ?_)
         | (refine And.intro ⟨rfl, by assumption⟩ ?_)
         | (refine And.intro rfl ?_)
         | (refine And.intro (show ¬ ((_ : Int32) = 0) from of_decide_eq_true rfl) ?_)
      exact hK
theorem m_law {h : Nat} {d o lw : Int32} (hN : I 108 = N) (ho : RO N hc wc tc) (hh : h ≤ 10) (hd : N (21 + 5 * h + 2) = d) (hw : N (21 + 5 * h + 3) = o) (hv : lwv N tc d o = lw) (hK : ∀ I', ch PF I I' → I' 108 = N → K (some (.int lw)) (am_mk kt I' J T n s)) : am_T am_C (141, 2, 0, [.ref 107, .int (nI h), .null], []) (am_mk kt I J T n s) K := by
  unfold lwv at hv
  have e0 : vp_in 0 4 := vpl (k := 0) (by decide) (by decide)
  have e1 : vp_in 1 4 := vpl (k := 1) (by decide) (by decide)
  have u : ∀ v w, am_up (am_up I 124 0 v) 124 1 w 108 = N := fun v w => by rw [up_off (by decide), up_off (by decide), hN]
  have hc1 : ∀ v w, ch PF I (am_up (am_up I 124 0 v) 124 1 w) := fun v w => ch_tr (ch_up (P := PF) (.inr rfl)) (ch_up (P := PF) (.inr rfl)) fun r q => q.elim id id
  rcases cnt_c (N := N) (key := 0) tc ho.2.2.1 with e | ⟨t, ht, e, ek⟩
  · rw [e] at hv
    rw [if_pos (by decide)] at hv
    subst hv
    refine am_wq_T (cut := fun _ _ => false) (inl := fun z => !((Nat.beq z 185 || (Nat.beq z 121 || (Nat.beq z 188 || Nat.beq z 114))))) 120 _ _ _ ?_
    refine And.intro rfl (m_countsV hN (key := 0) rfl ho e ?_)
    refine And.intro rfl (And.intro rfl (m_ofV (h := h) (w := 2) hN rfl rfl hh (by decide) hd ?_))
    refine And.intro ⟨rfl, e0⟩ (And.intro rfl (And.intro rfl (m_ofV (h := h) (w := 3) (I := am_up I 124 0 d) (N := N) ((up_off (by decide)).trans hN) rfl rfl hh (by decide) hw ?_)))
    refine And.intro ⟨rfl, e1⟩ ?_
    refine And.intro (fun q => absurd q (by decide)) (fun _ => ?_)
    exact hK _ (hc1 _ _) (u _ _)
  · have ht14 := ho.2.2.1
    have tp : ¬ nI t < 0 := nI_pos (by omega)
    have tp2 : 0 ≤ nI t := nI_pos' (by omega)
    rw [e] at hv
    rw [if_neg tp, nI_clamp (by omega)] at hv
    obtain ⟨key, len, cs, hx⟩ := ho.2.2.2.2.2.2 t ht
    have hk : key ≠ 1 := by
      have q := (TX_len hx).2
      rw [ek] at q
      have := (nI_eq (by decide) (by have := hx.1; omega)).mp q
      omega
    refine am_wq_T (cut := fun _ _ => false) (inl := fun z => !((Nat.beq z 185 || (Nat.beq z 121 || (Nat.beq z 188 || Nat.beq z 114))))) 120 _ _ _ ?_
    refine And.intro rfl (m_countsV hN (key := 0) rfl ho e ?_)
    refine And.intro rfl (And.intro rfl (m_ofV (h := h) (w := 2) hN rfl rfl hh (by decide) hd ?_))
    refine And.intro ⟨rfl, e0⟩ (And.intro rfl (And.intro rfl (m_ofV (h := h) (w := 3) (I := am_up I 124 0 d) (N := N) ((up_off (by decide)).trans hN) rfl rfl hh (by decide) hw ?_)))
    refine And.intro ⟨rfl, e1⟩ ?_
    refine And.intro (fun _ => ?_) (fun q => absurd tp2 q)
    refine And.intro rfl ?_
    refine m_worksV (I := am_up (am_up I 124 0 d) 124 1 o) (p := d) (q := o) (x := I 124 2) (v := tvN N t d o 0) (u _ _) ho ht ?_ ?_ ?_ (TX_x hx hk _ _) (fun I' h1 h2 => ?_)
    · rw [up_ne (by omega), up_eq]
    · rw [up_eq]
    · rw [up_ne (by omega), up_ne (by omega)]
    · refine m_within ?_
      rw [hv]
      exact hK _ (ch_tr (hc1 _ _) h1 fun r q => q.elim id id) h2
theorem m_apartV {h : Nat} {y ap : Int32} (hN : I 108 = N) (hh : h ≤ 10) (hv : apt (N (21 + 5 * h + 1)) y = ap) (hK : K (some (.int ap)) (am_mk kt I J T n s)) : am_T am_C (140, 1, 0, [.ref 107, .int (nI h), .int y, .null], []) (am_mk kt I J T n s) K :=
  m_apart rfl hh (by rw [hN, hv]; exact hK)
theorem in6k {v : Int32} (h : sg_in v 0 5) : v = 0 ∨ v = 1 ∨ v = 2 ∨ v = 3 ∨ v = 4 ∨ v = 5 := by unfold sg_in at h; (simp only [Int32.lt_iff_toInt_lt, Int32.le_iff_toInt_le, gt_iff_lt, ge_iff_le, ← Int32.toInt_inj, Int32.reduceToInt, Int32.reduceMul, Int32.reduceAdd, Int32.reduceSub, ne_eq, true_and, and_true, false_and, and_false, not_true_eq_false, not_false_eq_true, true_or, or_true, false_or, or_false] at *; omega)
def DT (N : Nat → Int32) (hc wc tc h : Nat) (p k d o ag ap mi lw : Int32) (I : Nat → Nat → Int32) : Prop := I 108 = N ∧ RO N hc wc tc ∧ h ≤ 10 ∧ N (21 + 5 * h + 0) = k ∧ N (21 + 5 * h + 2) = d ∧ N (21 + 5 * h + 3) = o ∧ N (21 + 5 * h + 4) = ag ∧ apt (N (21 + 5 * h + 1)) p = ap ∧ N 3 = mi ∧ lwv N tc d o = lw
theorem TKv_0 (d ag lw mi e ap : Int32) : TKv 0 d ag lw mi e ap = (¬ d < e ∧ ¬ mi < ap) := by
  unfold TKv; rw [if_neg (by decide), if_neg (by decide), if_neg (by decide), if_neg (by decide), if_neg (by decide)]
theorem TKv_1 (d ag lw mi e ap : Int32) : TKv 1 d ag lw mi e ap = (¬ d < e ∧ ¬ mi < ap ∧ ¬ ag < lw) := by
  unfold TKv; rw [if_pos rfl]
theorem TKv_2 (d ag lw mi e ap : Int32) : TKv 2 d ag lw mi e ap = (¬ d < e ∧ ¬ mi < ap ∧ e - e / 2 * 2 = 0) := by
  unfold TKv; rw [if_neg (by decide), if_pos rfl]
theorem TKv_3 (d ag lw mi e ap : Int32) : TKv 3 d ag lw mi e ap = (¬ d < e ∧ ¬ mi < ap ∧ ¬ ag < lw ∧ e = d) := by
  unfold TKv; rw [if_neg (by decide), if_neg (by decide), if_pos rfl]
theorem TKv_4 (d ag lw mi e ap : Int32) : TKv 4 d ag lw mi e ap = ((¬ d < e ∧ ¬ mi < ap ∧ e - e / 2 * 2 = 0) ∨ (¬ d < e ∧ ap = 0)) := by
  unfold TKv; rw [if_neg (by decide), if_neg (by decide), if_neg (by decide), if_pos rfl]
theorem TKv_5 (d ag lw mi e ap : Int32) : TKv 5 d ag lw mi e ap = (¬ d < e) := by
  unfold TKv; rw [if_neg (by decide), if_neg (by decide), if_neg (by decide), if_neg (by decide), if_pos rfl]
section DTS
variable {h : Nat} {e p d o ag ap mi lw : Int32}
theorem dt_m1 {k : Int32} (H : DT N hc wc tc h p k d o ag ap mi lw I) (q : ¬ mi < ap) : ¬ I 108 (Int32.toNatClampNeg 3) < ap := by
  obtain ⟨hN, -, -, -, -, -, -, -, em, -⟩ := H
  rw [hN]; show ¬ N 3 < ap; rw [em]; exact q
theorem dt_m2 {k : Int32} (H : DT N hc wc tc h p k d o ag ap mi lw I) (q : mi < ap) : I 108 (Int32.toNatClampNeg 3) < ap := by
  obtain ⟨hN, -, -, -, -, -, -, -, em, -⟩ := H
  rw [hN]; show N 3 < ap; rw [em]; exact q
theorem m_dt0 (H : DT N hc wc tc h p 0 d o ag ap mi lw I) (h1 : ∀ I', ch PF I I' → I' 108 = N → TKv 0 d ag lw mi e ap → K (some (.int 1)) (am_mk kt I' J T n s)) (h0 : ∀ I', ch PF I I' → I' 108 = N → ¬ TKv 0 d ag lw mi e ap → K (some (.int 0)) (am_mk kt I' J T n s)) : am_T am_C (142, 3, 0, [.ref 107, .int (nI h), .int e, .int p, .null, .null], []) (am_mk kt I J T n s) K := by
  have e3 : vp_in 3 1448 := vpl (k := 3) (by decide) (by decide)
  have m1 := dt_m1 H
  have m2 := dt_m2 H
  obtain ⟨hN, ho, hh, ek, ed, eo, ea, eap, em, el⟩ := H
  simp only [TKv_0, TKv_1, TKv_2, TKv_3, TKv_4, TKv_5] at h1 h0
  by_cases c1 : d < e
  · replace h0 := h0 _ ch_rfl hN (fun q => q.1 c1)
    refine am_wq_T (cut := fun _ _ => false) (inl := fun z => !((Nat.beq z 121 || (Nat.beq z 140 || Nat.beq z 141)))) 120 _ _ _ ?_
    repeat' first
       | (refine m_ofV (h := h) (w := 0) hN rfl rfl hh (by decide) ek ?_)
       | (refine m_ofV (h := h) (w := 2) hN rfl rfl hh (by decide) ed ?_)
       | (refine And.intro (fun hx_ => ?_) (fun hx_ => ?_) <;> first | exact absurd hx_ (of_decide_eq_false rfl) | exact absurd (of_decide_eq_true rfl) hx_ | exact absurd hx_ (by assumption) | exact absurd (by assumption) hx_ | skip)
       | (refine And.intro rfl ?_)
       | (refine And.intro ⟨rfl, vpd rfl⟩ ?_)
       | (refine And.intro ⟨rfl, by assumption⟩ ?_)
       | (refine And.intro (by assumption) ?_)
       | (refine And.intro ⟨rfl, ?_⟩ ?_)
       | (refine And.intro ?_ ?_)
    all_goals first | exact h0 | decide
  · by_cases c2 : mi < ap
    · replace h0 := h0 _ ch_rfl hN (fun q => q.2 c2)
      replace c2 := m2 c2
      refine am_wq_T (cut := fun _ _ => false) (inl := fun z => !((Nat.beq z 121 || (Nat.beq z 140 || Nat.beq z 141)))) 120 _ _ _ ?_
      repeat' first
         | (refine m_ofV (h := h) (w := 0) hN rfl rfl hh (by decide) ek ?_)
         | (refine m_ofV (h := h) (w := 2) hN rfl rfl hh (by decide) ed ?_)
         | (refine m_apartV hN hh eap ?_)
         | (refine And.intro (fun hx_ => ?_) (fun hx_ => ?_) <;> first | exact absurd hx_ (of_decide_eq_false rfl) | exact absurd (of_decide_eq_true rfl) hx_ | exact absurd hx_ (by assumption) | exact absurd (by assumption) hx_ | skip)
         | (refine And.intro rfl ?_)
         | (refine And.intro ⟨rfl, vpd rfl⟩ ?_)
         | (refine And.intro ⟨rfl, by assumption⟩ ?_)
         | (refine And.intro (by assumption) ?_)
         | (refine And.intro ⟨rfl, ?_⟩ ?_)
         | (refine And.intro ?_ ?_)
      all_goals first | exact h0 | decide
    · replace h1 := h1 _ ch_rfl hN ⟨c1, c2⟩
      replace c2 := m1 c2
      refine am_wq_T (cut := fun _ _ => false) (inl := fun z => !((Nat.beq z 121 || (Nat.beq z 140 || Nat.beq z 141)))) 120 _ _ _ ?_
      repeat' first
         | (refine m_ofV (h := h) (w := 0) hN rfl rfl hh (by decide) ek ?_)
         | (refine m_ofV (h := h) (w := 2) hN rfl rfl hh (by decide) ed ?_)
         | (refine m_apartV hN hh eap ?_)
         | (refine And.intro (fun hx_ => ?_) (fun hx_ => ?_) <;> first | exact absurd hx_ (of_decide_eq_false rfl) | exact absurd (of_decide_eq_true rfl) hx_ | exact absurd hx_ (by assumption) | exact absurd (by assumption) hx_ | skip)
         | (refine And.intro rfl ?_)
         | (refine And.intro ⟨rfl, vpd rfl⟩ ?_)
         | (refine And.intro ⟨rfl, by assumption⟩ ?_)
         | (refine And.intro (by assumption) ?_)
         | (refine And.intro ⟨rfl, ?_⟩ ?_)
         | (refine And.intro ?_ ?_)
      all_goals first | exact h1 | decide
theorem m_dt1 (H : DT N hc wc tc h p 1 d o ag ap mi lw I) (h1 : ∀ I', ch PF I I' → I' 108 = N → TKv 1 d ag lw mi e ap → K (some (.int 1)) (am_mk kt I' J T n s)) (h0 : ∀ I', ch PF I I' → I' 108 = N → ¬ TKv 1 d ag lw mi e ap → K (some (.int 0)) (am_mk kt I' J T n s)) : am_T am_C (142, 3, 0, [.ref 107, .int (nI h), .int e, .int p, .null, .null], []) (am_mk kt I J T n s) K := by
  have e3 : vp_in 3 1448 := vpl (k := 3) (by decide) (by decide)
  have m1 := dt_m1 H
  have m2 := dt_m2 H
  obtain ⟨hN, ho, hh, ek, ed, eo, ea, eap, em, el⟩ := H
  simp only [TKv_0, TKv_1, TKv_2, TKv_3, TKv_4, TKv_5] at h1 h0
  by_cases c1 : d < e
  · replace h0 := h0 _ ch_rfl hN (fun q => q.1 c1)
    refine am_wq_T (cut := fun _ _ => false) (inl := fun z => !((Nat.beq z 121 || (Nat.beq z 140 || Nat.beq z 141)))) 120 _ _ _ ?_
    repeat' first
       | (refine m_ofV (h := h) (w := 0) hN rfl rfl hh (by decide) ek ?_)
       | (refine m_ofV (h := h) (w := 2) hN rfl rfl hh (by decide) ed ?_)
       | (refine And.intro (fun hx_ => ?_) (fun hx_ => ?_) <;> first | exact absurd hx_ (of_decide_eq_false rfl) | exact absurd (of_decide_eq_true rfl) hx_ | exact absurd hx_ (by assumption) | exact absurd (by assumption) hx_ | skip)
       | (refine And.intro rfl ?_)
       | (refine And.intro ⟨rfl, vpd rfl⟩ ?_)
       | (refine And.intro ⟨rfl, by assumption⟩ ?_)
       | (refine And.intro (by assumption) ?_)
       | (refine And.intro ⟨rfl, ?_⟩ ?_)
       | (refine And.intro ?_ ?_)
    all_goals first | exact h0 | decide
  · by_cases c2 : mi < ap
    · replace h0 := h0 _ ch_rfl hN (fun q => q.2.1 c2)
      replace c2 := m2 c2
      refine am_wq_T (cut := fun _ _ => false) (inl := fun z => !((Nat.beq z 121 || (Nat.beq z 140 || Nat.beq z 141)))) 120 _ _ _ ?_
      repeat' first
         | (refine m_ofV (h := h) (w := 0) hN rfl rfl hh (by decide) ek ?_)
         | (refine m_ofV (h := h) (w := 2) hN rfl rfl hh (by decide) ed ?_)
         | (refine m_apartV hN hh eap ?_)
         | (refine And.intro (fun hx_ => ?_) (fun hx_ => ?_) <;> first | exact absurd hx_ (of_decide_eq_false rfl) | exact absurd (of_decide_eq_true rfl) hx_ | exact absurd hx_ (by assumption) | exact absurd (by assumption) hx_ | skip)
         | (refine And.intro rfl ?_)
         | (refine And.intro ⟨rfl, vpd rfl⟩ ?_)
         | (refine And.intro ⟨rfl, by assumption⟩ ?_)
         | (refine And.intro (by assumption) ?_)
         | (refine And.intro ⟨rfl, ?_⟩ ?_)
         | (refine And.intro ?_ ?_)
      all_goals first | exact h0 | decide
    · by_cases c3 : ag < lw
      · replace h0 := fun I' a b => h0 I' a b (fun q => q.2.2 c3)
        replace c2 := m1 c2
        refine am_wq_T (cut := fun _ _ => false) (inl := fun z => !((Nat.beq z 121 || (Nat.beq z 140 || Nat.beq z 141)))) 120 _ _ _ ?_
        repeat' first
           | (refine m_ofV (h := h) (w := 0) hN rfl rfl hh (by decide) ek ?_)
           | (refine m_ofV (h := h) (w := 2) hN rfl rfl hh (by decide) ed ?_)
           | (refine m_apartV hN hh eap ?_)
           | (refine m_ofV (h := h) (w := 4) hN rfl rfl hh (by decide) ea ?_)
           | (refine m_law hN ho hh ed eo el (fun I' hI' hN' => ?_))
           | (refine And.intro (fun hx_ => ?_) (fun hx_ => ?_) <;> first | exact absurd hx_ (of_decide_eq_false rfl) | exact absurd (of_decide_eq_true rfl) hx_ | exact absurd hx_ (by assumption) | exact absurd (by assumption) hx_ | skip)
           | (refine And.intro rfl ?_)
           | (refine And.intro ⟨rfl, vpd rfl⟩ ?_)
           | (refine And.intro ⟨rfl, by assumption⟩ ?_)
           | (refine And.intro (by assumption) ?_)
           | (refine And.intro ⟨rfl, ?_⟩ ?_)
           | (refine And.intro ?_ ?_)
        all_goals first | exact h0 _ hI' hN' | decide
      · replace h1 := fun I' a b => h1 I' a b ⟨c1, c2, c3⟩
        replace c2 := m1 c2
        refine am_wq_T (cut := fun _ _ => false) (inl := fun z => !((Nat.beq z 121 || (Nat.beq z 140 || Nat.beq z 141)))) 120 _ _ _ ?_
        repeat' first
           | (refine m_ofV (h := h) (w := 0) hN rfl rfl hh (by decide) ek ?_)
           | (refine m_ofV (h := h) (w := 2) hN rfl rfl hh (by decide) ed ?_)
           | (refine m_apartV hN hh eap ?_)
           | (refine m_ofV (h := h) (w := 4) hN rfl rfl hh (by decide) ea ?_)
           | (refine m_law hN ho hh ed eo el (fun I' hI' hN' => ?_))
           | (refine And.intro (fun hx_ => ?_) (fun hx_ => ?_) <;> first | exact absurd hx_ (of_decide_eq_false rfl) | exact absurd (of_decide_eq_true rfl) hx_ | exact absurd hx_ (by assumption) | exact absurd (by assumption) hx_ | skip)
           | (refine And.intro rfl ?_)
           | (refine And.intro ⟨rfl, vpd rfl⟩ ?_)
           | (refine And.intro ⟨rfl, by assumption⟩ ?_)
           | (refine And.intro (by assumption) ?_)
           | (refine And.intro ⟨rfl, ?_⟩ ?_)
           | (refine And.intro ?_ ?_)
        all_goals first | exact h1 _ hI' hN' | decide
theorem m_dt2 (H : DT N hc wc tc h p 2 d o ag ap mi lw I) (h1 : ∀ I', ch PF I I' → I' 108 = N → TKv 2 d ag lw mi e ap → K (some (.int 1)) (am_mk kt I' J T n s)) (h0 : ∀ I', ch PF I I' → I' 108 = N → ¬ TKv 2 d ag lw mi e ap → K (some (.int 0)) (am_mk kt I' J T n s)) : am_T am_C (142, 3, 0, [.ref 107, .int (nI h), .int e, .int p, .null, .null], []) (am_mk kt I J T n s) K := by
  have e3 : vp_in 3 1448 := vpl (k := 3) (by decide) (by decide)
  have m1 := dt_m1 H
  have m2 := dt_m2 H
  obtain ⟨hN, ho, hh, ek, ed, eo, ea, eap, em, el⟩ := H
  simp only [TKv_0, TKv_1, TKv_2, TKv_3, TKv_4, TKv_5] at h1 h0
  by_cases c1 : d < e
  · replace h0 := h0 _ ch_rfl hN (fun q => q.1 c1)
    refine am_wq_T (cut := fun _ _ => false) (inl := fun z => !((Nat.beq z 121 || (Nat.beq z 140 || Nat.beq z 141)))) 120 _ _ _ ?_
    repeat' first
       | (refine m_ofV (h := h) (w := 0) hN rfl rfl hh (by decide) ek ?_)
       | (refine m_ofV (h := h) (w := 2) hN rfl rfl hh (by decide) ed ?_)
       | (refine And.intro (fun hx_ => ?_) (fun hx_ => ?_) <;> first | exact absurd hx_ (of_decide_eq_false rfl) | exact absurd (of_decide_eq_true rfl) hx_ | exact absurd hx_ (by assumption) | exact absurd (by assumption) hx_ | skip)
       | (refine And.intro rfl ?_)
       | (refine And.intro ⟨rfl, vpd rfl⟩ ?_)
       | (refine And.intro ⟨rfl, by assumption⟩ ?_)
       | (refine And.intro (by assumption) ?_)
       | (refine And.intro ⟨rfl, ?_⟩ ?_)
       | (refine And.intro ?_ ?_)
    all_goals first | exact h0 | decide
  · by_cases c2 : mi < ap
    · replace h0 := h0 _ ch_rfl hN (fun q => q.2.1 c2)
      replace c2 := m2 c2
      refine am_wq_T (cut := fun _ _ => false) (inl := fun z => !((Nat.beq z 121 || (Nat.beq z 140 || Nat.beq z 141)))) 120 _ _ _ ?_
      repeat' first
         | (refine m_ofV (h := h) (w := 0) hN rfl rfl hh (by decide) ek ?_)
         | (refine m_ofV (h := h) (w := 2) hN rfl rfl hh (by decide) ed ?_)
         | (refine m_apartV hN hh eap ?_)
         | (refine And.intro (fun hx_ => ?_) (fun hx_ => ?_) <;> first | exact absurd hx_ (of_decide_eq_false rfl) | exact absurd (of_decide_eq_true rfl) hx_ | exact absurd hx_ (by assumption) | exact absurd (by assumption) hx_ | skip)
         | (refine And.intro rfl ?_)
         | (refine And.intro ⟨rfl, vpd rfl⟩ ?_)
         | (refine And.intro ⟨rfl, by assumption⟩ ?_)
         | (refine And.intro (by assumption) ?_)
         | (refine And.intro ⟨rfl, ?_⟩ ?_)
         | (refine And.intro ?_ ?_)
      all_goals first | exact h0 | decide
    · by_cases c4 : e - e / 2 * 2 = 0
      · replace h1 := h1 _ ch_rfl hN ⟨c1, c2, c4⟩
        replace c2 := m1 c2
        refine am_wq_T (cut := fun _ _ => false) (inl := fun z => !((Nat.beq z 121 || (Nat.beq z 140 || Nat.beq z 141)))) 120 _ _ _ ?_
        repeat' first
           | (refine m_ofV (h := h) (w := 0) hN rfl rfl hh (by decide) ek ?_)
           | (refine m_ofV (h := h) (w := 2) hN rfl rfl hh (by decide) ed ?_)
           | (refine m_apartV hN hh eap ?_)
           | (refine And.intro (fun hx_ => ?_) (fun hx_ => ?_) <;> first | exact absurd hx_ (of_decide_eq_false rfl) | exact absurd (of_decide_eq_true rfl) hx_ | exact absurd hx_ (by assumption) | exact absurd (by assumption) hx_ | skip)
           | (refine And.intro rfl ?_)
           | (refine And.intro ⟨rfl, vpd rfl⟩ ?_)
           | (refine And.intro ⟨rfl, by assumption⟩ ?_)
           | (refine And.intro (by assumption) ?_)
           | (refine And.intro ⟨rfl, ?_⟩ ?_)
           | (refine And.intro ?_ ?_)
        all_goals first | exact h1 | decide
      · replace h0 := h0 _ ch_rfl hN (fun q => c4 q.2.2)
        replace c2 := m1 c2
        refine am_wq_T (cut := fun _ _ => false) (inl := fun z => !((Nat.beq z 121 || (Nat.beq z 140 || Nat.beq z 141)))) 120 _ _ _ ?_
        repeat' first
           | (refine m_ofV (h := h) (w := 0) hN rfl rfl hh (by decide) ek ?_)
           | (refine m_ofV (h := h) (w := 2) hN rfl rfl hh (by decide) ed ?_)
           | (refine m_apartV hN hh eap ?_)
           | (refine And.intro (fun hx_ => ?_) (fun hx_ => ?_) <;> first | exact absurd hx_ (of_decide_eq_false rfl) | exact absurd (of_decide_eq_true rfl) hx_ | exact absurd hx_ (by assumption) | exact absurd (by assumption) hx_ | skip)
           | (refine And.intro rfl ?_)
           | (refine And.intro ⟨rfl, vpd rfl⟩ ?_)
           | (refine And.intro ⟨rfl, by assumption⟩ ?_)
           | (refine And.intro (by assumption) ?_)
           | (refine And.intro ⟨rfl, ?_⟩ ?_)
           | (refine And.intro ?_ ?_)
        all_goals first | exact h0 | decide
theorem m_dt3 (H : DT N hc wc tc h p 3 d o ag ap mi lw I) (h1 : ∀ I', ch PF I I' → I' 108 = N → TKv 3 d ag lw mi e ap → K (some (.int 1)) (am_mk kt I' J T n s)) (h0 : ∀ I', ch PF I I' → I' 108 = N → ¬ TKv 3 d ag lw mi e ap → K (some (.int 0)) (am_mk kt I' J T n s)) : am_T am_C (142, 3, 0, [.ref 107, .int (nI h), .int e, .int p, .null, .null], []) (am_mk kt I J T n s) K := by
  have e3 : vp_in 3 1448 := vpl (k := 3) (by decide) (by decide)
  have m1 := dt_m1 H
  have m2 := dt_m2 H
  obtain ⟨hN, ho, hh, ek, ed, eo, ea, eap, em, el⟩ := H
  simp only [TKv_0, TKv_1, TKv_2, TKv_3, TKv_4, TKv_5] at h1 h0
  by_cases c1 : d < e
  · replace h0 := h0 _ ch_rfl hN (fun q => q.1 c1)
    refine am_wq_T (cut := fun _ _ => false) (inl := fun z => !((Nat.beq z 121 || (Nat.beq z 140 || Nat.beq z 141)))) 120 _ _ _ ?_
    repeat' first
       | (refine m_ofV (h := h) (w := 0) hN rfl rfl hh (by decide) ek ?_)
       | (refine m_ofV (h := h) (w := 2) hN rfl rfl hh (by decide) ed ?_)
       | (refine And.intro (fun hx_ => ?_) (fun hx_ => ?_) <;> first | exact absurd hx_ (of_decide_eq_false rfl) | exact absurd (of_decide_eq_true rfl) hx_ | exact absurd hx_ (by assumption) | exact absurd (by assumption) hx_ | skip)
       | (refine And.intro rfl ?_)
       | (refine And.intro ⟨rfl, vpd rfl⟩ ?_)
       | (refine And.intro ⟨rfl, by assumption⟩ ?_)
       | (refine And.intro (by assumption) ?_)
       | (refine And.intro ⟨rfl, ?_⟩ ?_)
       | (refine And.intro ?_ ?_)
    all_goals first | exact h0 | decide
  · by_cases c2 : mi < ap
    · replace h0 := h0 _ ch_rfl hN (fun q => q.2.1 c2)
      replace c2 := m2 c2
      refine am_wq_T (cut := fun _ _ => false) (inl := fun z => !((Nat.beq z 121 || (Nat.beq z 140 || Nat.beq z 141)))) 120 _ _ _ ?_
      repeat' first
         | (refine m_ofV (h := h) (w := 0) hN rfl rfl hh (by decide) ek ?_)
         | (refine m_ofV (h := h) (w := 2) hN rfl rfl hh (by decide) ed ?_)
         | (refine m_apartV hN hh eap ?_)
         | (refine And.intro (fun hx_ => ?_) (fun hx_ => ?_) <;> first | exact absurd hx_ (of_decide_eq_false rfl) | exact absurd (of_decide_eq_true rfl) hx_ | exact absurd hx_ (by assumption) | exact absurd (by assumption) hx_ | skip)
         | (refine And.intro rfl ?_)
         | (refine And.intro ⟨rfl, vpd rfl⟩ ?_)
         | (refine And.intro ⟨rfl, by assumption⟩ ?_)
         | (refine And.intro (by assumption) ?_)
         | (refine And.intro ⟨rfl, ?_⟩ ?_)
         | (refine And.intro ?_ ?_)
      all_goals first | exact h0 | decide
    · by_cases c3 : ag < lw
      · replace h0 := fun I' a b => h0 I' a b (fun q => q.2.2.1 c3)
        replace c2 := m1 c2
        refine am_wq_T (cut := fun _ _ => false) (inl := fun z => !((Nat.beq z 121 || (Nat.beq z 140 || Nat.beq z 141)))) 120 _ _ _ ?_
        repeat' first
           | (refine m_ofV (h := h) (w := 0) hN rfl rfl hh (by decide) ek ?_)
           | (refine m_ofV (h := h) (w := 2) hN rfl rfl hh (by decide) ed ?_)
           | (refine m_apartV hN hh eap ?_)
           | (refine m_ofV (h := h) (w := 4) hN rfl rfl hh (by decide) ea ?_)
           | (refine m_law hN ho hh ed eo el (fun I' hI' hN' => ?_))
           | (refine And.intro (fun hx_ => ?_) (fun hx_ => ?_) <;> first | exact absurd hx_ (of_decide_eq_false rfl) | exact absurd (of_decide_eq_true rfl) hx_ | exact absurd hx_ (by assumption) | exact absurd (by assumption) hx_ | skip)
           | (refine And.intro rfl ?_)
           | (refine And.intro ⟨rfl, vpd rfl⟩ ?_)
           | (refine And.intro ⟨rfl, by assumption⟩ ?_)
           | (refine And.intro (by assumption) ?_)
           | (refine And.intro ⟨rfl, ?_⟩ ?_)
           | (refine And.intro ?_ ?_)
        all_goals first | exact h0 _ hI' hN' | decide
      · by_cases c6 : e = d
        · replace h1 := fun I' a b => h1 I' a b ⟨c1, c2, c3, c6⟩
          replace c2 := m1 c2
          refine am_wq_T (cut := fun _ _ => false) (inl := fun z => !((Nat.beq z 121 || (Nat.beq z 140 || Nat.beq z 141)))) 120 _ _ _ ?_
          repeat' first
             | (refine m_ofV (h := h) (w := 0) hN rfl rfl hh (by decide) ek ?_)
             | (refine m_ofV (h := h) (w := 2) hN rfl rfl hh (by decide) ed ?_)
             | (refine m_apartV hN hh eap ?_)
             | (refine m_ofV (h := h) (w := 4) hN rfl rfl hh (by decide) ea ?_)
             | (refine m_law hN ho hh ed eo el (fun I' hI' hN' => ?_))
             | (refine m_ofV (h := h) (w := 2) hN' rfl rfl hh (by decide) ed ?_)
             | (refine And.intro (fun hx_ => ?_) (fun hx_ => ?_) <;> first | exact absurd hx_ (of_decide_eq_false rfl) | exact absurd (of_decide_eq_true rfl) hx_ | exact absurd hx_ (by assumption) | exact absurd (by assumption) hx_ | skip)
             | (refine And.intro rfl ?_)
             | (refine And.intro ⟨rfl, vpd rfl⟩ ?_)
             | (refine And.intro ⟨rfl, by assumption⟩ ?_)
             | (refine And.intro (by assumption) ?_)
             | (refine And.intro ⟨rfl, ?_⟩ ?_)
             | (refine And.intro ?_ ?_)
          all_goals first | exact h1 _ hI' hN' | decide
        · replace h0 := fun I' a b => h0 I' a b (fun q => c6 q.2.2.2)
          replace c2 := m1 c2
          refine am_wq_T (cut := fun _ _ => false) (inl := fun z => !((Nat.beq z 121 || (Nat.beq z 140 || Nat.beq z 141)))) 120 _ _ _ ?_
          repeat' first
             | (refine m_ofV (h := h) (w := 0) hN rfl rfl hh (by decide) ek ?_)
             | (refine m_ofV (h := h) (w := 2) hN rfl rfl hh (by decide) ed ?_)
             | (refine m_apartV hN hh eap ?_)
             | (refine m_ofV (h := h) (w := 4) hN rfl rfl hh (by decide) ea ?_)
             | (refine m_law hN ho hh ed eo el (fun I' hI' hN' => ?_))
             | (refine m_ofV (h := h) (w := 2) hN' rfl rfl hh (by decide) ed ?_)
             | (refine And.intro (fun hx_ => ?_) (fun hx_ => ?_) <;> first | exact absurd hx_ (of_decide_eq_false rfl) | exact absurd (of_decide_eq_true rfl) hx_ | exact absurd hx_ (by assumption) | exact absurd (by assumption) hx_ | skip)
             | (refine And.intro rfl ?_)
             | (refine And.intro ⟨rfl, vpd rfl⟩ ?_)
             | (refine And.intro ⟨rfl, by assumption⟩ ?_)
             | (refine And.intro (by assumption) ?_)
             | (refine And.intro ⟨rfl, ?_⟩ ?_)
             | (refine And.intro ?_ ?_)
          all_goals first | exact h0 _ hI' hN' | decide
theorem m_dt4 (H : DT N hc wc tc h p 4 d o ag ap mi lw I) (h1 : ∀ I', ch PF I I' → I' 108 = N → TKv 4 d ag lw mi e ap → K (some (.int 1)) (am_mk kt I' J T n s)) (h0 : ∀ I', ch PF I I' → I' 108 = N → ¬ TKv 4 d ag lw mi e ap → K (some (.int 0)) (am_mk kt I' J T n s)) : am_T am_C (142, 3, 0, [.ref 107, .int (nI h), .int e, .int p, .null, .null], []) (am_mk kt I J T n s) K := by
  have e3 : vp_in 3 1448 := vpl (k := 3) (by decide) (by decide)
  have m1 := dt_m1 H
  have m2 := dt_m2 H
  obtain ⟨hN, ho, hh, ek, ed, eo, ea, eap, em, el⟩ := H
  simp only [TKv_0, TKv_1, TKv_2, TKv_3, TKv_4, TKv_5] at h1 h0
  by_cases c1 : d < e
  · replace h0 := h0 _ ch_rfl hN (fun q => q.elim (fun q => q.1 c1) (fun q => q.1 c1))
    refine am_wq_T (cut := fun _ _ => false) (inl := fun z => !((Nat.beq z 121 || (Nat.beq z 140 || Nat.beq z 141)))) 120 _ _ _ ?_
    repeat' first
       | (refine m_ofV (h := h) (w := 0) hN rfl rfl hh (by decide) ek ?_)
       | (refine m_ofV (h := h) (w := 2) hN rfl rfl hh (by decide) ed ?_)
       | (refine And.intro (fun hx_ => ?_) (fun hx_ => ?_) <;> first | exact absurd hx_ (of_decide_eq_false rfl) | exact absurd (of_decide_eq_true rfl) hx_ | exact absurd hx_ (by assumption) | exact absurd (by assumption) hx_ | skip)
       | (refine And.intro rfl ?_)
       | (refine And.intro ⟨rfl, vpd rfl⟩ ?_)
       | (refine And.intro ⟨rfl, by assumption⟩ ?_)
       | (refine And.intro (by assumption) ?_)
       | (refine And.intro ⟨rfl, ?_⟩ ?_)
       | (refine And.intro ?_ ?_)
    all_goals first | exact h0 | decide
  · by_cases c5 : ap = 0
    · replace h1 := h1 _ ch_rfl hN (.inr ⟨c1, c5⟩)
      by_cases c2 : mi < ap
      · replace c2 := m2 c2
        refine am_wq_T (cut := fun _ _ => false) (inl := fun z => !((Nat.beq z 121 || (Nat.beq z 140 || Nat.beq z 141)))) 120 _ _ _ ?_
        repeat' first
           | (refine m_ofV (h := h) (w := 0) hN rfl rfl hh (by decide) ek ?_)
           | (refine m_ofV (h := h) (w := 2) hN rfl rfl hh (by decide) ed ?_)
           | (refine m_apartV hN hh eap ?_)
           | (refine And.intro (fun hx_ => ?_) (fun hx_ => ?_) <;> first | exact absurd hx_ (of_decide_eq_false rfl) | exact absurd (of_decide_eq_true rfl) hx_ | exact absurd hx_ (by assumption) | exact absurd (by assumption) hx_ | skip)
           | (refine And.intro rfl ?_)
           | (refine And.intro ⟨rfl, vpd rfl⟩ ?_)
           | (refine And.intro ⟨rfl, by assumption⟩ ?_)
           | (refine And.intro (by assumption) ?_)
           | (refine And.intro ⟨rfl, ?_⟩ ?_)
           | (refine And.intro ?_ ?_)
        all_goals first | exact h1 | decide
      · replace c2 := m1 c2
        by_cases c4 : e - e / 2 * 2 = 0
        · refine am_wq_T (cut := fun _ _ => false) (inl := fun z => !((Nat.beq z 121 || (Nat.beq z 140 || Nat.beq z 141)))) 120 _ _ _ ?_
          repeat' first
             | (refine m_ofV (h := h) (w := 0) hN rfl rfl hh (by decide) ek ?_)
             | (refine m_ofV (h := h) (w := 2) hN rfl rfl hh (by decide) ed ?_)
             | (refine m_apartV hN hh eap ?_)
             | (refine And.intro (fun hx_ => ?_) (fun hx_ => ?_) <;> first | exact absurd hx_ (of_decide_eq_false rfl) | exact absurd (of_decide_eq_true rfl) hx_ | exact absurd hx_ (by assumption) | exact absurd (by assumption) hx_ | skip)
             | (refine And.intro rfl ?_)
             | (refine And.intro ⟨rfl, vpd rfl⟩ ?_)
             | (refine And.intro ⟨rfl, by assumption⟩ ?_)
             | (refine And.intro (by assumption) ?_)
             | (refine And.intro ⟨rfl, ?_⟩ ?_)
             | (refine And.intro ?_ ?_)
          all_goals first | exact h1 | decide
        · refine am_wq_T (cut := fun _ _ => false) (inl := fun z => !((Nat.beq z 121 || (Nat.beq z 140 || Nat.beq z 141)))) 120 _ _ _ ?_
          repeat' first
             | (refine m_ofV (h := h) (w := 0) hN rfl rfl hh (by decide) ek ?_)
             | (refine m_ofV (h := h) (w := 2) hN rfl rfl hh (by decide) ed ?_)
             | (refine m_apartV hN hh eap ?_)
             | (refine And.intro (fun hx_ => ?_) (fun hx_ => ?_) <;> first | exact absurd hx_ (of_decide_eq_false rfl) | exact absurd (of_decide_eq_true rfl) hx_ | exact absurd hx_ (by assumption) | exact absurd (by assumption) hx_ | skip)
             | (refine And.intro rfl ?_)
             | (refine And.intro ⟨rfl, vpd rfl⟩ ?_)
             | (refine And.intro ⟨rfl, by assumption⟩ ?_)
             | (refine And.intro (by assumption) ?_)
             | (refine And.intro ⟨rfl, ?_⟩ ?_)
             | (refine And.intro ?_ ?_)
          all_goals first | exact h1 | decide
    · by_cases c2 : mi < ap
      · replace h0 := h0 _ ch_rfl hN (fun q => q.elim (fun q => q.2.1 c2) (fun q => c5 q.2))
        replace c2 := m2 c2
        refine am_wq_T (cut := fun _ _ => false) (inl := fun z => !((Nat.beq z 121 || (Nat.beq z 140 || Nat.beq z 141)))) 120 _ _ _ ?_
        repeat' first
           | (refine m_ofV (h := h) (w := 0) hN rfl rfl hh (by decide) ek ?_)
           | (refine m_ofV (h := h) (w := 2) hN rfl rfl hh (by decide) ed ?_)
           | (refine m_apartV hN hh eap ?_)
           | (refine And.intro (fun hx_ => ?_) (fun hx_ => ?_) <;> first | exact absurd hx_ (of_decide_eq_false rfl) | exact absurd (of_decide_eq_true rfl) hx_ | exact absurd hx_ (by assumption) | exact absurd (by assumption) hx_ | skip)
           | (refine And.intro rfl ?_)
           | (refine And.intro ⟨rfl, vpd rfl⟩ ?_)
           | (refine And.intro ⟨rfl, by assumption⟩ ?_)
           | (refine And.intro (by assumption) ?_)
           | (refine And.intro ⟨rfl, ?_⟩ ?_)
           | (refine And.intro ?_ ?_)
        all_goals first | exact h0 | decide
      · by_cases c4 : e - e / 2 * 2 = 0
        · replace h1 := h1 _ ch_rfl hN (.inl ⟨c1, c2, c4⟩)
          replace c2 := m1 c2
          refine am_wq_T (cut := fun _ _ => false) (inl := fun z => !((Nat.beq z 121 || (Nat.beq z 140 || Nat.beq z 141)))) 120 _ _ _ ?_
          repeat' first
             | (refine m_ofV (h := h) (w := 0) hN rfl rfl hh (by decide) ek ?_)
             | (refine m_ofV (h := h) (w := 2) hN rfl rfl hh (by decide) ed ?_)
             | (refine m_apartV hN hh eap ?_)
             | (refine And.intro (fun hx_ => ?_) (fun hx_ => ?_) <;> first | exact absurd hx_ (of_decide_eq_false rfl) | exact absurd (of_decide_eq_true rfl) hx_ | exact absurd hx_ (by assumption) | exact absurd (by assumption) hx_ | skip)
             | (refine And.intro rfl ?_)
             | (refine And.intro ⟨rfl, vpd rfl⟩ ?_)
             | (refine And.intro ⟨rfl, by assumption⟩ ?_)
             | (refine And.intro (by assumption) ?_)
             | (refine And.intro ⟨rfl, ?_⟩ ?_)
             | (refine And.intro ?_ ?_)
          all_goals first | exact h1 | decide
        · replace h0 := h0 _ ch_rfl hN (fun q => q.elim (fun q => c4 q.2.2) (fun q => c5 q.2))
          replace c2 := m1 c2
          refine am_wq_T (cut := fun _ _ => false) (inl := fun z => !((Nat.beq z 121 || (Nat.beq z 140 || Nat.beq z 141)))) 120 _ _ _ ?_
          repeat' first
             | (refine m_ofV (h := h) (w := 0) hN rfl rfl hh (by decide) ek ?_)
             | (refine m_ofV (h := h) (w := 2) hN rfl rfl hh (by decide) ed ?_)
             | (refine m_apartV hN hh eap ?_)
             | (refine And.intro (fun hx_ => ?_) (fun hx_ => ?_) <;> first | exact absurd hx_ (of_decide_eq_false rfl) | exact absurd (of_decide_eq_true rfl) hx_ | exact absurd hx_ (by assumption) | exact absurd (by assumption) hx_ | skip)
             | (refine And.intro rfl ?_)
             | (refine And.intro ⟨rfl, vpd rfl⟩ ?_)
             | (refine And.intro ⟨rfl, by assumption⟩ ?_)
             | (refine And.intro (by assumption) ?_)
             | (refine And.intro ⟨rfl, ?_⟩ ?_)
             | (refine And.intro ?_ ?_)
          all_goals first | exact h0 | decide
theorem m_dt5 (H : DT N hc wc tc h p 5 d o ag ap mi lw I) (h1 : ∀ I', ch PF I I' → I' 108 = N → TKv 5 d ag lw mi e ap → K (some (.int 1)) (am_mk kt I' J T n s)) (h0 : ∀ I', ch PF I I' → I' 108 = N → ¬ TKv 5 d ag lw mi e ap → K (some (.int 0)) (am_mk kt I' J T n s)) : am_T am_C (142, 3, 0, [.ref 107, .int (nI h), .int e, .int p, .null, .null], []) (am_mk kt I J T n s) K := by
  have e3 : vp_in 3 1448 := vpl (k := 3) (by decide) (by decide)
  have m1 := dt_m1 H
  have m2 := dt_m2 H
  obtain ⟨hN, ho, hh, ek, ed, eo, ea, eap, em, el⟩ := H
  simp only [TKv_0, TKv_1, TKv_2, TKv_3, TKv_4, TKv_5] at h1 h0
  by_cases c1 : d < e
  · replace h0 := h0 _ ch_rfl hN (fun q => q c1)
    refine am_wq_T (cut := fun _ _ => false) (inl := fun z => !((Nat.beq z 121 || (Nat.beq z 140 || Nat.beq z 141)))) 120 _ _ _ ?_
    repeat' first
       | (refine m_ofV (h := h) (w := 0) hN rfl rfl hh (by decide) ek ?_)
       | (refine m_ofV (h := h) (w := 2) hN rfl rfl hh (by decide) ed ?_)
       | (refine And.intro (fun hx_ => ?_) (fun hx_ => ?_) <;> first | exact absurd hx_ (of_decide_eq_false rfl) | exact absurd (of_decide_eq_true rfl) hx_ | exact absurd hx_ (by assumption) | exact absurd (by assumption) hx_ | skip)
       | (refine And.intro rfl ?_)
       | (refine And.intro ⟨rfl, vpd rfl⟩ ?_)
       | (refine And.intro ⟨rfl, by assumption⟩ ?_)
       | (refine And.intro (by assumption) ?_)
       | (refine And.intro ⟨rfl, ?_⟩ ?_)
       | (refine And.intro ?_ ?_)
    all_goals first | exact h0 | decide
  · replace h1 := h1 _ ch_rfl hN c1
    by_cases c2 : mi < ap
    · replace c2 := m2 c2
      refine am_wq_T (cut := fun _ _ => false) (inl := fun z => !((Nat.beq z 121 || (Nat.beq z 140 || Nat.beq z 141)))) 120 _ _ _ ?_
      repeat' first
         | (refine m_ofV (h := h) (w := 0) hN rfl rfl hh (by decide) ek ?_)
         | (refine m_ofV (h := h) (w := 2) hN rfl rfl hh (by decide) ed ?_)
         | (refine m_apartV hN hh eap ?_)
         | (refine And.intro (fun hx_ => ?_) (fun hx_ => ?_) <;> first | exact absurd hx_ (of_decide_eq_false rfl) | exact absurd (of_decide_eq_true rfl) hx_ | exact absurd hx_ (by assumption) | exact absurd (by assumption) hx_ | skip)
         | (refine And.intro rfl ?_)
         | (refine And.intro ⟨rfl, vpd rfl⟩ ?_)
         | (refine And.intro ⟨rfl, by assumption⟩ ?_)
         | (refine And.intro (by assumption) ?_)
         | (refine And.intro ⟨rfl, ?_⟩ ?_)
         | (refine And.intro ?_ ?_)
      all_goals first | exact h1 | decide
    · replace c2 := m1 c2
      refine am_wq_T (cut := fun _ _ => false) (inl := fun z => !((Nat.beq z 121 || (Nat.beq z 140 || Nat.beq z 141)))) 120 _ _ _ ?_
      repeat' first
         | (refine m_ofV (h := h) (w := 0) hN rfl rfl hh (by decide) ek ?_)
         | (refine m_ofV (h := h) (w := 2) hN rfl rfl hh (by decide) ed ?_)
         | (refine m_apartV hN hh eap ?_)
         | (refine And.intro (fun hx_ => ?_) (fun hx_ => ?_) <;> first | exact absurd hx_ (of_decide_eq_false rfl) | exact absurd (of_decide_eq_true rfl) hx_ | exact absurd hx_ (by assumption) | exact absurd (by assumption) hx_ | skip)
         | (refine And.intro rfl ?_)
         | (refine And.intro ⟨rfl, vpd rfl⟩ ?_)
         | (refine And.intro ⟨rfl, by assumption⟩ ?_)
         | (refine And.intro (by assumption) ?_)
         | (refine And.intro ⟨rfl, ?_⟩ ?_)
         | (refine And.intro ?_ ?_)
      all_goals first | exact h1 | decide
theorem m_doesTake (hN : I 108 = N) (ho : RO N hc wc tc) (hh : h ≤ 10) (hb : sg_in (N (21 + 5 * h + 0)) 0 5) (h1 : ∀ I', ch PF I I' → I' 108 = N → TK N tc h e p → K (some (.int 1)) (am_mk kt I' J T n s)) (h0 : ∀ I', ch PF I I' → I' 108 = N → ¬ TK N tc h e p → K (some (.int 0)) (am_mk kt I' J T n s)) : am_T am_C (142, 3, 0, [.ref 107, .int (nI h), .int e, .int p, .null, .null], []) (am_mk kt I J T n s) K := by
  have hk := in6k hb
  unfold TK at h1 h0
  have H : ∀ k, N (21 + 5 * h + 0) = k → DT N hc wc tc h p k (N (21 + 5 * h + 2)) (N (21 + 5 * h + 3)) (N (21 + 5 * h + 4)) (apt (N (21 + 5 * h + 1)) p) (N 3) (lwv N tc (N (21 + 5 * h + 2)) (N (21 + 5 * h + 3))) I := fun k e => ⟨hN, ho, hh, e, rfl, rfl, rfl, rfl, rfl, rfl⟩
  rcases hk with e | e | e | e | e | e
  · rw [e] at h1 h0; exact m_dt0 (H _ e) h1 h0
  · rw [e] at h1 h0; exact m_dt1 (H _ e) h1 h0
  · rw [e] at h1 h0; exact m_dt2 (H _ e) h1 h0
  · rw [e] at h1 h0; exact m_dt3 (H _ e) h1 h0
  · rw [e] at h1 h0; exact m_dt4 (H _ e) h1 h0
  · rw [e] at h1 h0; exact m_dt5 (H _ e) h1 h0
end DTS
end T45
