/-! a day of the class -/
section T49
variable {kt : Nat → Nat × Nat} {I I' : Nat → Nat → Int32} {J J' : Nat → Nat → Int64} {T : Nat → Nat → Nat} {n s : Nat} {L : Nat} {xs : Nat → Int32} {K : Option Value → am_M → Prop} {N : Nat → Int32} {hc wc tc h : Nat}
/-- the rows of a land, and the texts' own rows of values -/
def PB (b r : Nat) : Prop := (b ≤ r ∧ r < b + 16) ∨ CT r
theorem minV (st d : Int32) (h0 : ¬ st < 0) : (if st < d then st else d) = wth st 0 d := by
  unfold wth
  rw [if_neg h0]
  by_cases c : st < d
  · rw [if_pos c, if_neg (by (simp only [Int32.lt_iff_toInt_lt, Int32.le_iff_toInt_le, gt_iff_lt, ge_iff_le, ← Int32.toInt_inj, Int32.reduceToInt, Int32.reduceMul, Int32.reduceAdd, Int32.reduceSub, ne_eq, true_and, and_true, false_and, and_false, not_true_eq_false, not_false_eq_true, true_or, or_true, false_or, or_false] at *; omega))]
  · rw [if_neg c]
    by_cases c2 : d < st
    · rw [if_pos c2]
    · rw [if_neg c2]; (simp only [Int32.lt_iff_toInt_lt, Int32.le_iff_toInt_le, gt_iff_lt, ge_iff_le, ← Int32.toInt_inj, Int32.reduceToInt, Int32.reduceMul, Int32.reduceAdd, Int32.reduceSub, ne_eq, true_and, and_true, false_and, and_false, not_true_eq_false, not_false_eq_true, true_or, or_true, false_or, or_false] at *; omega)
theorem minG (a : Int32) (h0 : sg_in a 0 999) : (if a + 1 < 999 then a + 1 else 999) = wth (a + 1) 0 999 := by
  obtain ⟨k, hk, rfl⟩ := in_nI (m := 999) h0 (by decide)
  rw [nI_1]
  exact minV _ _ (nI_pos (by omega))
theorem dhN_ne {k tc : Nat} {N : Nat → Int32} (h : k ≠ 0 ∧ k ≠ 6 ∧ k < 21) {i : Nat} : dhN tc N i k = N k := by
  unfold dhN
  split
  · rw [upN_ne (by omega), upN_ne (by omega), upN_ne (by omega), upN_ne (by omega)]
  · rfl
theorem plv_bd {x d a : Int32} (hx : sg_in x 0 9) : sg_in (plv N tc x d a) 0 9 := by
  obtain ⟨j, hj, e⟩ := plv_b (N := N) (tc := tc) (d := d) (a := a) hx
  rw [e]; exact sgin_nI (m := 9) hj (by decide)
theorem STv_pos : ∀ k, k < 6 → ∀ j, j < 10 → ∀ i, i < 10 → ¬ STv (nI k) (nI j) (nI i) < 0 := by decide +kernel
theorem ST_pos {x : Int32} (hB : HB N hc) (hh : h < hc) (hx : sg_in x 0 9) : ¬ ST N tc h x < 0 := by
  obtain ⟨j, hj, e⟩ := plv_b (N := N) (tc := tc) (d := N (21 + 5 * h + 2)) (a := N (21 + 5 * h + 4)) hx
  obtain ⟨i, hi, rfl⟩ := in_nI (m := 9) hx (by decide)
  obtain ⟨k, hk, e2⟩ := in_nI (m := 5) (hB h hh).1 (by decide)
  unfold ST
  rw [e, show 21 + 5 * h + 0 = 21 + 5 * h from rfl, e2]
  exact STv_pos k (by omega) j (by omega) i (by omega)
theorem rL21 {i : Nat} (h : i < 10) : am_R (am_k kt, I, J, am_r T, n, s) (am_R (am_k kt, I, J, am_r T, n, s) 21 0) (nI i).toNatClampNeg = 27 + i := by
  rw [nI_clamp (by omega)]
  match i, h with
  | 0, _ => rfl
  | 1, _ => rfl
  | 2, _ => rfl
  | 3, _ => rfl
  | 4, _ => rfl
  | 5, _ => rfl
  | 6, _ => rfl
  | 7, _ => rfl
  | 8, _ => rfl
  | 9, _ => rfl
theorem c_drawV21 {z0 z v : Int32} (h0 : I 21 13 = z0) (hz : nxz z0 = z) (hv : drw z = v) (hK : K (some (.int v)) (am_mk kt (am_up I 21 13 z) J T n s)) : am_T am_C (18, 0, 0, [.ref 21], []) (am_mk kt I J T n s) K := by
  have e : I 21 13 * 1103515245 + 12345 = z := by rw [h0, ← hz]; rfl
  rw [← hv, ← e] at hK
  refine am_wq_T (cut := fun _ _ => false) (inl := fun _ => true) 120 _ _ _ ?_
  exact And.intro rfl (And.intro rfl (And.intro rfl hK))
theorem c_day4321 {i x : Nat} {d a g sm : Int32} {v3 : Value} {I2 : Nat → Nat → Int32} {N1 : Nat → Int32} (hx : x = 27 + i) (hk : am_k kt x = (1, 5)) (hi : i < hc) (hR : sg_LR kt I2 T n 21 N1 hc wc tc) (hd : N1 (21 + 5 * i + 2) = d) (ha : N1 (21 + 5 * i + 4) = a) (hB : HB N1 hc) (hg : wth (a + 1) 0 999 = g)
    (ih : ∀ I', ch (PB 21) I2 I' → sg_LR kt I' T n 21 (upN (upN (upN N1 (21 + 5 * i + 2) (d - sm)) 6 (N1 6 + sm)) (21 + 5 * i + 4) g) hc wc tc → ∀ v2 v3, am_T am_C (25, 4, 2, [.ref 21, .int (nI i + 1), v2, v3], []) (am_mk kt I' J T n s) K) : am_T am_C (25, 4, 43, [.ref 21, .int (nI i), .ref x, v3], [.int sm]) (am_mk kt I2 J T n s) K := by
  have hc10 := hR.1
  have e1 : I2 x 2 = d := by rw [hx, ← hd]; exact hR.2.2.2.2.2.2.2.2.2.1 i hi 2 (by decide)
  have e2 : am_up I2 x 2 (d - sm) 21 12 = N1 6 := by rw [up_ne (by omega)]; exact hR.2.2.2.2.2.2.2.2.2.2.2.2.2.2.2.1
  have e3 : am_up (am_up I2 x 2 (d - sm)) 21 12 (N1 6 + sm) x 4 = a := by
    rw [up_ne (by omega), up_ne (by omega), hx, ← ha]; exact hR.2.2.2.2.2.2.2.2.2.1 i hi 4 (by decide)
  have e4 : (if a + 1 < 999 then a + 1 else 999) = g := by rw [← hg]; exact minG a (by rw [← ha]; exact (hB i hi).2.2.2.2)
  have q1 := LR_up (v := d - sm) (r := x) (k := 2) (j := 21 + 5 * i + 2) (by decide) (by unfold cellR; omega) hR
  have q2 := LR_up (v := N1 6 + sm) (r := 21) (k := 12) (j := 6) (by decide) (by unfold cellR; omega) q1
  have q3 := LR_up (v := g) (r := x) (k := 4) (j := 21 + 5 * i + 4) (by decide) (by unfold cellR; omega) q2
  have key := ih _ (ch_tr (ch_up (P := PB 21) (a := x) (.inl (by omega))) (ch_tr (S := PB 21) (ch_up (P := PB 21) (a := 21) (.inl (by omega))) (ch_up (P := PB 21) (a := x) (.inl (by omega))) fun r q => q.elim id id) fun r q => q.elim id id) q3
  refine am_wq_T (cut := fun z pc => (Nat.beq z 25 && Nat.beq pc 54)) (inl := fun _ => false) 120 _ _ _ ?_
  refine And.intro hk (And.intro hk ?_)
  show am_T am_C (25, 4, 54, [.ref 21, .int (nI i), .ref x, .int sm], []) (am_mk kt (am_up I2 x 2 (I2 x 2 - sm)) J T n s) K
  rw [e1]
  refine am_wq_T (cut := fun z pc => (Nat.beq z 25 && Nat.beq pc 64)) (inl := fun _ => false) 120 _ _ _ ?_
  refine And.intro rfl (And.intro rfl ?_)
  show am_T am_C (25, 4, 64, [.ref 21, .int (nI i), .ref x, .int sm], []) (am_mk kt (am_up (am_up I2 x 2 (d - sm)) 21 12 (am_up I2 x 2 (d - sm) 21 12 + sm)) J T n s) K
  rw [e2]
  refine am_wq_T (cut := fun z pc => (Nat.beq z 25 && Nat.beq pc 80)) (inl := fun _ => false) 120 _ _ _ ?_
  refine And.intro hk (And.intro hk ?_)
  show am_T am_C (25, 4, 80, [.ref 21, .int (nI i), .ref x, .int sm], []) (am_mk kt (am_up (am_up (am_up I2 x 2 (d - sm)) 21 12 (N1 6 + sm)) x 4 (if am_up (am_up I2 x 2 (d - sm)) 21 12 (N1 6 + sm) x 4 + 1 < 999 then am_up (am_up I2 x 2 (d - sm)) 21 12 (N1 6 + sm) x 4 + 1 else 999)) J T n s) K
  rw [e3, e4]
  refine am_wq_T (cut := fun z pc => (Nat.beq z 25 && Nat.beq pc 2)) (inl := fun _ => false) 120 _ _ _ ?_
  exact key _ _
theorem c_day_l21 : ∀ (j i : Nat) (N : Nat → Int32) (I : Nat → Nat → Int32) (v2 v3 : Value), i + j = hc → sg_LR kt I T n 21 (dhs tc N i) hc wc tc → HB N hc → (∀ I', ch (PB 21) I I' → sg_LR kt I' T n 21 (dayN tc hc N) hc wc tc → K none (am_mk kt I' J T n s)) → am_T am_C (25, 4, 2, [.ref 21, .int (nI i), v2, v3], []) (am_mk kt I J T n s) K
  | 0, i, N, I, v2, v3, hi, hR, hB, hK => by
    have : i = hc := by omega
    subst this
    have hc10 := hR.1
    have e1 : I 21 1 ≤ nI i := by rw [hR.2.2.2.2.2.2.1]; exact nI_le (Nat.le_refl _) (by omega)
    have ed : I 21 10 = dhs tc N i 2 := hR.2.2.2.2.2.2.2.2.2.2.2.2.2.1
    have q := LR_up (v := dhs tc N i 2 + 1) (r := 21) (k := 10) (j := 2) (by decide) (by unfold cellR; omega) hR
    have key := hK _ (ch_up (P := PB 21) (a := 21) (.inl (by omega))) q
    rw [← ed] at key
    refine am_wq_T (cut := fun z pc => (Nat.beq z 25 && Nat.beq pc 2)) (inl := fun _ => false) 120 _ _ _ ?_
    exact And.intro rfl (And.intro (fun _ => And.intro rfl (And.intro rfl key)) (fun q => absurd e1 q))
  | j + 1, i, N, I, v2, v3, hi, hR, hB, hK => by
    have hB' := dhs_HB (tc := tc) hB i (by omega)
    obtain ⟨N1, e1⟩ : ∃ N1, N1 = dhs tc N i := ⟨_, rfl⟩
    have en : dhs tc N (i + 1) = dhN tc N1 i := by rw [e1]; rfl
    rw [← e1] at hR hB'
    have hc10 := hR.1
    have hlt : i < hc := by omega
    have c1 : ¬ I 21 1 ≤ nI i := by rw [hR.2.2.2.2.2.2.1]; exact nI_ge hlt (by omega)
    have v10 : vp_in (nI i) 10 := vpl (by omega) (by decide)
    have hk0 : am_k kt (27 + i) = (1, 5) := kL21 (by omega)
    have hx2 : I (27 + i) 2 = N1 (21 + 5 * i + 2) := hR.2.2.2.2.2.2.2.2.2.1 i hlt 2 (by decide)
    have ih : ∀ I', ch (PB 21) I I' → sg_LR kt I' T n 21 (dhN tc N1 i) hc wc tc → ∀ v2 v3, am_T am_C (25, 4, 2, [.ref 21, .int (nI i + 1), v2, v3], []) (am_mk kt I' J T n s) K := fun I' c q v2 v3 => by
      rw [← nI_succ]
      rw [← en] at q
      exact c_day_l21 j (i + 1) N I' v2 v3 (by omega) q hB fun I2 c2 q2 => hK I2 (ch_tr c c2 fun r q => q.elim id id) q2
    by_cases c2 : N1 (21 + 5 * i + 2) ≤ 0
    · have ed : dhN tc N1 i = N1 := if_neg (Int32.not_lt.mpr c2)
      rw [ed] at ih
      have key := ih I ch_rfl hR
      have c2' : I (27 + i) 2 ≤ 0 := by rw [hx2]; exact c2
      refine am_wq_T (cut := fun z pc => (Nat.beq z 25 && Nat.beq pc 2)) (inl := fun _ => false) 120 _ _ _ ?_
      refine And.intro rfl (And.intro (fun q => absurd q c1) (fun _ => And.intro rfl (And.intro ⟨rfl, v10⟩ ?_)))
      rw [rL21 (by omega)]
      exact And.intro hk0 (And.intro (fun _ => key _ _) (fun q => absurd c2' q))
    · have ed : dhN tc N1 i = upN (upN (upN (upN N1 0 (nxz (N1 0))) (21 + 5 * i + 2) (N1 (21 + 5 * i + 2) - dhV N1 tc i)) 6 (N1 6 + dhV N1 tc i)) (21 + 5 * i + 4) (wth (N1 (21 + 5 * i + 4) + 1) 0 999) := if_pos (Int32.not_le.mp c2)
      obtain ⟨z, ez⟩ : ∃ z, nxz (N1 0) = z := ⟨_, rfl⟩
      obtain ⟨d, hd⟩ : ∃ d, N1 (21 + 5 * i + 2) = d := ⟨_, rfl⟩
      obtain ⟨a, ha⟩ : ∃ d, N1 (21 + 5 * i + 4) = d := ⟨_, rfl⟩
      obtain ⟨g, hg⟩ : ∃ g, wth (a + 1) 0 999 = g := ⟨_, rfl⟩
      obtain ⟨dv, hdv⟩ : ∃ g, drw z = g := ⟨_, rfl⟩
      obtain ⟨st, hst⟩ : ∃ g, ST (upN N1 0 z) tc i (dv - dv / 10 * 10) = g := ⟨_, rfl⟩
      obtain ⟨sm, hsm⟩ : ∃ g, wth st 0 d = g := ⟨_, rfl⟩
      have hdh : dhV N1 tc i = sm := by unfold dhV; rw [ez, hdv, hd, ← ST_up (j := 0) (v := z) (by decide), hst, hsm]
      rw [hdh, ez, hd, ha, hg] at ed
      rw [hd] at c2 hx2
      rw [ed] at ih
      have c2' : ¬ I (27 + i) 2 ≤ 0 := by rw [hx2]; exact c2
      have hz0 : I 21 13 = N1 0 := hR.2.2.2.2.2.2.2.2.2.2.2.2.2.2.2.2.1
      have hRz := LR_up (v := z) (r := 21) (k := 13) (j := 0) (by decide) (by unfold cellR; omega) hR
      have hBz : HB (upN N1 0 z) hc := HB_up (fun q => absurd q (by decide)) hB'
      have hy : sg_in (dv - dv / 10 * 10) 0 9 := by
        obtain ⟨j9, h9, e9⟩ := drw_mod z (m := 10) (by decide) (by decide)
        rw [← hdv, show (10 : Int32) = nI 10 from rfl, e9]; exact sgin_nI (m := 9) (by omega) (by decide)
      have hp := ST_pos (tc := tc) (h := i) hBz hlt hy
      rw [hst] at hp
      have hmin := minV st d hp
      rw [hsm] at hmin
      refine am_wq_T (cut := fun z pc => (Nat.beq z 25 && Nat.beq pc 43)) (inl := fun z => !((Nat.beq z 18 || Nat.beq z 23))) 120 _ _ _ ?_
      refine And.intro rfl (And.intro (fun q => absurd q c1) (fun _ => And.intro rfl (And.intro ⟨rfl, v10⟩ ?_)))
      rw [rL21 (by omega)]
      refine And.intro hk0 (And.intro (fun q => absurd q c2') (fun _ => And.intro hk0 (And.intro rfl (c_drawV21 hz0 ez hdv (And.intro l10 (And.intro rfl ?_))))))
      refine c_sinks21 (N := upN N1 0 z) (h := i) hRz hBz hlt rfl hy (fun I2 h2 => ?_)
      rw [hst]
      show am_T am_C (25, 4, 43, [.ref 21, .int (nI i), .ref (27 + i), v3], [.int (if st < I (27 + i) 2 then st else I (27 + i) 2)]) (am_mk kt I2 J T n s) K
      rw [hx2, hmin]
      have hR2 := CT_LR (b := 21) (by decide) h2 hRz
      refine c_day4321 (N1 := upN N1 0 z) rfl hk0 hlt hR2 ((upN_ne (by omega)).trans hd) ((upN_ne (by omega)).trans ha) hBz hg fun I' c q v2 v3 => ?_
      rw [show upN N1 0 z 6 = N1 6 from upN_ne (by omega)] at q
      exact ih I' (ch_tr (ch_up (P := PB 21) (a := 21) (.inl (by omega))) (ch_tr (S := PB 21) (ch_w (Q := PB 21) h2 fun r q => .inr q) c fun r q => q.elim id id) fun r q => q.elim id id) q v2 v3
theorem c_day21 (hR : sg_LR kt I T n 21 N hc wc tc) (hB : HB N hc) (hK : ∀ I', ch (PB 21) I I' → sg_LR kt I' T n 21 (dayN tc hc N) hc wc tc → K none (am_mk kt I' J T n s)) : am_T am_C (25, 4, 0, [.ref 21, .null, .null, .null], []) (am_mk kt I J T n s) K := by
  refine am_wq_T (cut := fun z pc => (Nat.beq z 25 && Nat.beq pc 2)) (inl := fun _ => false) 120 _ _ _ ?_
  exact c_day_l21 hc 0 N I _ _ (by omega) hR hB hK
theorem rL37 {i : Nat} (h : i < 10) : am_R (am_k kt, I, J, am_r T, n, s) (am_R (am_k kt, I, J, am_r T, n, s) 37 0) (nI i).toNatClampNeg = 43 + i := by
  rw [nI_clamp (by omega)]
  match i, h with
  | 0, _ => rfl
  | 1, _ => rfl
  | 2, _ => rfl
  | 3, _ => rfl
  | 4, _ => rfl
  | 5, _ => rfl
  | 6, _ => rfl
  | 7, _ => rfl
  | 8, _ => rfl
  | 9, _ => rfl
theorem c_drawV37 {z0 z v : Int32} (h0 : I 37 13 = z0) (hz : nxz z0 = z) (hv : drw z = v) (hK : K (some (.int v)) (am_mk kt (am_up I 37 13 z) J T n s)) : am_T am_C (18, 0, 0, [.ref 37], []) (am_mk kt I J T n s) K := by
  have e : I 37 13 * 1103515245 + 12345 = z := by rw [h0, ← hz]; rfl
  rw [← hv, ← e] at hK
  refine am_wq_T (cut := fun _ _ => false) (inl := fun _ => true) 120 _ _ _ ?_
  exact And.intro rfl (And.intro rfl (And.intro rfl hK))
theorem c_day4337 {i x : Nat} {d a g sm : Int32} {v3 : Value} {I2 : Nat → Nat → Int32} {N1 : Nat → Int32} (hx : x = 43 + i) (hk : am_k kt x = (1, 5)) (hi : i < hc) (hR : sg_LR kt I2 T n 37 N1 hc wc tc) (hd : N1 (21 + 5 * i + 2) = d) (ha : N1 (21 + 5 * i + 4) = a) (hB : HB N1 hc) (hg : wth (a + 1) 0 999 = g)
    (ih : ∀ I', ch (PB 37) I2 I' → sg_LR kt I' T n 37 (upN (upN (upN N1 (21 + 5 * i + 2) (d - sm)) 6 (N1 6 + sm)) (21 + 5 * i + 4) g) hc wc tc → ∀ v2 v3, am_T am_C (25, 4, 2, [.ref 37, .int (nI i + 1), v2, v3], []) (am_mk kt I' J T n s) K) : am_T am_C (25, 4, 43, [.ref 37, .int (nI i), .ref x, v3], [.int sm]) (am_mk kt I2 J T n s) K := by
  have hc10 := hR.1
  have e1 : I2 x 2 = d := by rw [hx, ← hd]; exact hR.2.2.2.2.2.2.2.2.2.1 i hi 2 (by decide)
  have e2 : am_up I2 x 2 (d - sm) 37 12 = N1 6 := by rw [up_ne (by omega)]; exact hR.2.2.2.2.2.2.2.2.2.2.2.2.2.2.2.1
  have e3 : am_up (am_up I2 x 2 (d - sm)) 37 12 (N1 6 + sm) x 4 = a := by
    rw [up_ne (by omega), up_ne (by omega), hx, ← ha]; exact hR.2.2.2.2.2.2.2.2.2.1 i hi 4 (by decide)
  have e4 : (if a + 1 < 999 then a + 1 else 999) = g := by rw [← hg]; exact minG a (by rw [← ha]; exact (hB i hi).2.2.2.2)
  have q1 := LR_up (v := d - sm) (r := x) (k := 2) (j := 21 + 5 * i + 2) (by decide) (by unfold cellR; omega) hR
  have q2 := LR_up (v := N1 6 + sm) (r := 37) (k := 12) (j := 6) (by decide) (by unfold cellR; omega) q1
  have q3 := LR_up (v := g) (r := x) (k := 4) (j := 21 + 5 * i + 4) (by decide) (by unfold cellR; omega) q2
  have key := ih _ (ch_tr (ch_up (P := PB 37) (a := x) (.inl (by omega))) (ch_tr (S := PB 37) (ch_up (P := PB 37) (a := 37) (.inl (by omega))) (ch_up (P := PB 37) (a := x) (.inl (by omega))) fun r q => q.elim id id) fun r q => q.elim id id) q3
  refine am_wq_T (cut := fun z pc => (Nat.beq z 25 && Nat.beq pc 54)) (inl := fun _ => false) 120 _ _ _ ?_
  refine And.intro hk (And.intro hk ?_)
  show am_T am_C (25, 4, 54, [.ref 37, .int (nI i), .ref x, .int sm], []) (am_mk kt (am_up I2 x 2 (I2 x 2 - sm)) J T n s) K
  rw [e1]
  refine am_wq_T (cut := fun z pc => (Nat.beq z 25 && Nat.beq pc 64)) (inl := fun _ => false) 120 _ _ _ ?_
  refine And.intro rfl (And.intro rfl ?_)
  show am_T am_C (25, 4, 64, [.ref 37, .int (nI i), .ref x, .int sm], []) (am_mk kt (am_up (am_up I2 x 2 (d - sm)) 37 12 (am_up I2 x 2 (d - sm) 37 12 + sm)) J T n s) K
  rw [e2]
  refine am_wq_T (cut := fun z pc => (Nat.beq z 25 && Nat.beq pc 80)) (inl := fun _ => false) 120 _ _ _ ?_
  refine And.intro hk (And.intro hk ?_)
  show am_T am_C (25, 4, 80, [.ref 37, .int (nI i), .ref x, .int sm], []) (am_mk kt (am_up (am_up (am_up I2 x 2 (d - sm)) 37 12 (N1 6 + sm)) x 4 (if am_up (am_up I2 x 2 (d - sm)) 37 12 (N1 6 + sm) x 4 + 1 < 999 then am_up (am_up I2 x 2 (d - sm)) 37 12 (N1 6 + sm) x 4 + 1 else 999)) J T n s) K
  rw [e3, e4]
  refine am_wq_T (cut := fun z pc => (Nat.beq z 25 && Nat.beq pc 2)) (inl := fun _ => false) 120 _ _ _ ?_
  exact key _ _
theorem c_day_l37 : ∀ (j i : Nat) (N : Nat → Int32) (I : Nat → Nat → Int32) (v2 v3 : Value), i + j = hc → sg_LR kt I T n 37 (dhs tc N i) hc wc tc → HB N hc → (∀ I', ch (PB 37) I I' → sg_LR kt I' T n 37 (dayN tc hc N) hc wc tc → K none (am_mk kt I' J T n s)) → am_T am_C (25, 4, 2, [.ref 37, .int (nI i), v2, v3], []) (am_mk kt I J T n s) K
  | 0, i, N, I, v2, v3, hi, hR, hB, hK => by
    have : i = hc := by omega
    subst this
    have hc10 := hR.1
    have e1 : I 37 1 ≤ nI i := by rw [hR.2.2.2.2.2.2.1]; exact nI_le (Nat.le_refl _) (by omega)
    have ed : I 37 10 = dhs tc N i 2 := hR.2.2.2.2.2.2.2.2.2.2.2.2.2.1
    have q := LR_up (v := dhs tc N i 2 + 1) (r := 37) (k := 10) (j := 2) (by decide) (by unfold cellR; omega) hR
    have key := hK _ (ch_up (P := PB 37) (a := 37) (.inl (by omega))) q
    rw [← ed] at key
    refine am_wq_T (cut := fun z pc => (Nat.beq z 25 && Nat.beq pc 2)) (inl := fun _ => false) 120 _ _ _ ?_
    exact And.intro rfl (And.intro (fun _ => And.intro rfl (And.intro rfl key)) (fun q => absurd e1 q))
  | j + 1, i, N, I, v2, v3, hi, hR, hB, hK => by
    have hB' := dhs_HB (tc := tc) hB i (by omega)
    obtain ⟨N1, e1⟩ : ∃ N1, N1 = dhs tc N i := ⟨_, rfl⟩
    have en : dhs tc N (i + 1) = dhN tc N1 i := by rw [e1]; rfl
    rw [← e1] at hR hB'
    have hc10 := hR.1
    have hlt : i < hc := by omega
    have c1 : ¬ I 37 1 ≤ nI i := by rw [hR.2.2.2.2.2.2.1]; exact nI_ge hlt (by omega)
    have v10 : vp_in (nI i) 10 := vpl (by omega) (by decide)
    have hk0 : am_k kt (43 + i) = (1, 5) := kL37 (by omega)
    have hx2 : I (43 + i) 2 = N1 (21 + 5 * i + 2) := hR.2.2.2.2.2.2.2.2.2.1 i hlt 2 (by decide)
    have ih : ∀ I', ch (PB 37) I I' → sg_LR kt I' T n 37 (dhN tc N1 i) hc wc tc → ∀ v2 v3, am_T am_C (25, 4, 2, [.ref 37, .int (nI i + 1), v2, v3], []) (am_mk kt I' J T n s) K := fun I' c q v2 v3 => by
      rw [← nI_succ]
      rw [← en] at q
      exact c_day_l37 j (i + 1) N I' v2 v3 (by omega) q hB fun I2 c2 q2 => hK I2 (ch_tr c c2 fun r q => q.elim id id) q2
    by_cases c2 : N1 (21 + 5 * i + 2) ≤ 0
    · have ed : dhN tc N1 i = N1 := if_neg (Int32.not_lt.mpr c2)
      rw [ed] at ih
      have key := ih I ch_rfl hR
      have c2' : I (43 + i) 2 ≤ 0 := by rw [hx2]; exact c2
      refine am_wq_T (cut := fun z pc => (Nat.beq z 25 && Nat.beq pc 2)) (inl := fun _ => false) 120 _ _ _ ?_
      refine And.intro rfl (And.intro (fun q => absurd q c1) (fun _ => And.intro rfl (And.intro ⟨rfl, v10⟩ ?_)))
      rw [rL37 (by omega)]
      exact And.intro hk0 (And.intro (fun _ => key _ _) (fun q => absurd c2' q))
    · have ed : dhN tc N1 i = upN (upN (upN (upN N1 0 (nxz (N1 0))) (21 + 5 * i + 2) (N1 (21 + 5 * i + 2) - dhV N1 tc i)) 6 (N1 6 + dhV N1 tc i)) (21 + 5 * i + 4) (wth (N1 (21 + 5 * i + 4) + 1) 0 999) := if_pos (Int32.not_le.mp c2)
      obtain ⟨z, ez⟩ : ∃ z, nxz (N1 0) = z := ⟨_, rfl⟩
      obtain ⟨d, hd⟩ : ∃ d, N1 (21 + 5 * i + 2) = d := ⟨_, rfl⟩
      obtain ⟨a, ha⟩ : ∃ d, N1 (21 + 5 * i + 4) = d := ⟨_, rfl⟩
      obtain ⟨g, hg⟩ : ∃ g, wth (a + 1) 0 999 = g := ⟨_, rfl⟩
      obtain ⟨dv, hdv⟩ : ∃ g, drw z = g := ⟨_, rfl⟩
      obtain ⟨st, hst⟩ : ∃ g, ST (upN N1 0 z) tc i (dv - dv / 10 * 10) = g := ⟨_, rfl⟩
      obtain ⟨sm, hsm⟩ : ∃ g, wth st 0 d = g := ⟨_, rfl⟩
      have hdh : dhV N1 tc i = sm := by unfold dhV; rw [ez, hdv, hd, ← ST_up (j := 0) (v := z) (by decide), hst, hsm]
      rw [hdh, ez, hd, ha, hg] at ed
      rw [hd] at c2 hx2
      rw [ed] at ih
      have c2' : ¬ I (43 + i) 2 ≤ 0 := by rw [hx2]; exact c2
      have hz0 : I 37 13 = N1 0 := hR.2.2.2.2.2.2.2.2.2.2.2.2.2.2.2.2.1
      have hRz := LR_up (v := z) (r := 37) (k := 13) (j := 0) (by decide) (by unfold cellR; omega) hR
      have hBz : HB (upN N1 0 z) hc := HB_up (fun q => absurd q (by decide)) hB'
      have hy : sg_in (dv - dv / 10 * 10) 0 9 := by
        obtain ⟨j9, h9, e9⟩ := drw_mod z (m := 10) (by decide) (by decide)
        rw [← hdv, show (10 : Int32) = nI 10 from rfl, e9]; exact sgin_nI (m := 9) (by omega) (by decide)
      have hp := ST_pos (tc := tc) (h := i) hBz hlt hy
      rw [hst] at hp
      have hmin := minV st d hp
      rw [hsm] at hmin
      refine am_wq_T (cut := fun z pc => (Nat.beq z 25 && Nat.beq pc 43)) (inl := fun z => !((Nat.beq z 18 || Nat.beq z 23))) 120 _ _ _ ?_
      refine And.intro rfl (And.intro (fun q => absurd q c1) (fun _ => And.intro rfl (And.intro ⟨rfl, v10⟩ ?_)))
      rw [rL37 (by omega)]
      refine And.intro hk0 (And.intro (fun q => absurd q c2') (fun _ => And.intro hk0 (And.intro rfl (c_drawV37 hz0 ez hdv (And.intro l10 (And.intro rfl ?_))))))
      refine c_sinks37 (N := upN N1 0 z) (h := i) hRz hBz hlt rfl hy (fun I2 h2 => ?_)
      rw [hst]
      show am_T am_C (25, 4, 43, [.ref 37, .int (nI i), .ref (43 + i), v3], [.int (if st < I (43 + i) 2 then st else I (43 + i) 2)]) (am_mk kt I2 J T n s) K
      rw [hx2, hmin]
      have hR2 := CT_LR (b := 37) (by decide) h2 hRz
      refine c_day4337 (N1 := upN N1 0 z) rfl hk0 hlt hR2 ((upN_ne (by omega)).trans hd) ((upN_ne (by omega)).trans ha) hBz hg fun I' c q v2 v3 => ?_
      rw [show upN N1 0 z 6 = N1 6 from upN_ne (by omega)] at q
      exact ih I' (ch_tr (ch_up (P := PB 37) (a := 37) (.inl (by omega))) (ch_tr (S := PB 37) (ch_w (Q := PB 37) h2 fun r q => .inr q) c fun r q => q.elim id id) fun r q => q.elim id id) q v2 v3
theorem c_day37 (hR : sg_LR kt I T n 37 N hc wc tc) (hB : HB N hc) (hK : ∀ I', ch (PB 37) I I' → sg_LR kt I' T n 37 (dayN tc hc N) hc wc tc → K none (am_mk kt I' J T n s)) : am_T am_C (25, 4, 0, [.ref 37, .null, .null, .null], []) (am_mk kt I J T n s) K := by
  refine am_wq_T (cut := fun z pc => (Nat.beq z 25 && Nat.beq pc 2)) (inl := fun _ => false) 120 _ _ _ ?_
  exact c_day_l37 hc 0 N I _ _ (by omega) hR hB hK
end T49
