/-! the class reads an expression: its steps -/
section T93
variable {kt : Nat → Nat × Nat} {I I' I0 : Nat → Nat → Int32} {J J' : Nat → Nat → Int64} {T T' : Nat → Nat → Nat} {n s : Nat} {K : Option Value → am_M → Prop} {B : Nat → Int32} {len key nn nb : Nat} {p : pSt}
/-- where the class stands in a text -/
def cP (I0 I : Nat → Nat → Int32) (p : pSt) (nn nb : Nat) : Prop := ch (fun r => r = 72 ∨ r = 74) I0 I ∧ I 72 1 = I0 72 1 ∧ I 72 5 = I0 72 5 ∧ I 72 2 = nI p.1 ∧ I 72 3 = nI p.2.1 ∧ I 72 4 = p.2.2.1 ∧ I 72 6 = nI p.2.2.2.2 ∧ I 72 7 = nI nb ∧ I 72 8 = nI nn ∧ I 72 10 = nI p.2.2.2.1.length ∧ ∀ k, k < p.2.2.2.1.length → I 74 k = p.2.2.2.1.getD k 0
theorem cP_T (hT : tpB I0 B len) (h : cP I0 I p nn nb) : tpB I B len := ⟨hT.1, h.2.1.trans hT.2.1, fun k hk => by rw [h.1 73 (by omega)]; exact hT.2.2 k hk⟩
theorem cP_s (h : cP I0 I p nn nb) : scR I I p.1 p.2.1 p.2.2.1 := ⟨ch_rfl, fun _ _ _ _ => rfl, h.2.2.2.1, h.2.2.2.2.1, h.2.2.2.2.2.1⟩
theorem cP_8 {v : Int32} {m : Nat} (hv : v = nI m) (h : cP I0 I p nn nb) : cP I0 (am_up I 72 8 v) p m nb := by
  obtain ⟨h0, h1, h2, h3, h4, h5, h6, h7, h8, h9, h10⟩ := h
  refine ⟨ch_tr h0 (ch_up (P := fun r => r = 72 ∨ r = 74) (.inl rfl)) fun r q => q.elim id id, ?_, ?_, ?_, ?_, ?_, ?_, ?_, ?_, ?_, ?_⟩
  · rw [up_ne (by omega)]; exact h1
  · rw [up_ne (by omega)]; exact h2
  · rw [up_ne (by omega)]; exact h3
  · rw [up_ne (by omega)]; exact h4
  · rw [up_ne (by omega)]; exact h5
  · rw [up_ne (by omega)]; exact h6
  · rw [up_ne (by omega)]; exact h7
  · rw [up_eq]; exact hv
  · rw [up_ne (by omega)]; exact h9
  · intro k hk; rw [up_ne (by omega)]; exact h10 k hk
theorem cP_7 {v : Int32} {m : Nat} (hv : v = nI m) (h : cP I0 I p nn nb) : cP I0 (am_up I 72 7 v) p nn m := by
  obtain ⟨h0, h1, h2, h3, h4, h5, h6, h7, h8, h9, h10⟩ := h
  refine ⟨ch_tr h0 (ch_up (P := fun r => r = 72 ∨ r = 74) (.inl rfl)) fun r q => q.elim id id, ?_, ?_, ?_, ?_, ?_, ?_, ?_, ?_, ?_, ?_⟩
  · rw [up_ne (by omega)]; exact h1
  · rw [up_ne (by omega)]; exact h2
  · rw [up_ne (by omega)]; exact h3
  · rw [up_ne (by omega)]; exact h4
  · rw [up_ne (by omega)]; exact h5
  · rw [up_ne (by omega)]; exact h6
  · rw [up_eq]; exact hv
  · rw [up_ne (by omega)]; exact h8
  · rw [up_ne (by omega)]; exact h9
  · intro k hk; rw [up_ne (by omega)]; exact h10 k hk
theorem cP_6 {v : Int32} (hv : v = nI (p.2.2.2.2 + 1)) (h : cP I0 I p nn nb) : cP I0 (am_up I 72 6 v) (atS p) nn nb := by
  obtain ⟨h0, h1, h2, h3, h4, h5, h6, h7, h8, h9, h10⟩ := h
  refine ⟨ch_tr h0 (ch_up (P := fun r => r = 72 ∨ r = 74) (.inl rfl)) fun r q => q.elim id id, ?_, ?_, ?_, ?_, ?_, ?_, ?_, ?_, ?_, ?_⟩
  · rw [up_ne (by omega)]; exact h1
  · rw [up_ne (by omega)]; exact h2
  · rw [up_ne (by omega)]; exact h3
  · rw [up_ne (by omega)]; exact h4
  · rw [up_ne (by omega)]; exact h5
  · rw [up_eq]; exact hv
  · rw [up_ne (by omega)]; exact h7
  · rw [up_ne (by omega)]; exact h8
  · rw [up_ne (by omega)]; exact h9
  · intro k hk; rw [up_ne (by omega)]; exact h10 k hk
theorem gd_l {x : Int32} : ∀ (l : List Int32) (k : Nat), k < l.length → (l ++ [x]).getD k 0 = l.getD k 0
  | [], k, h => absurd h (Nat.not_lt_zero k)
  | a :: l, 0, _ => rfl
  | a :: l, k + 1, h => gd_l l k (Nat.lt_of_succ_lt_succ h)
theorem gd_r {x : Int32} : ∀ (l : List Int32), (l ++ [x]).getD l.length 0 = x
  | [] => rfl
  | a :: l => gd_r l
theorem c_stepP (hT : tpB I0 B len) (he : p.2.1 ≤ len) (h : cP I0 I p nn nb) (hK : ∀ I', cP I0 I' (nxS B len p) nn nb → K none (am_mk kt I' J T n s)) : am_T am_C (43, 1, 0, [.ref 72, .null, .null], []) (am_mk kt I J T n s) K := by
  refine c_step (cP_T hT h) he (cP_s h) fun I1 h1 => hK I1 ?_
  obtain ⟨g0, g1, g2, g3, g4, g5, g6, g7, g8, g9, g10⟩ := h
  obtain ⟨a0, a1, a2, a3, a4⟩ := h1
  refine ⟨ch_tr g0 a0 fun r q => q.elim id .inl, ?_, ?_, a2, a3, a4, ?_, ?_, ?_, ?_, ?_⟩
  · rw [a1 1 (by omega) (by omega) (by omega)]; exact g1
  · rw [a1 5 (by omega) (by omega) (by omega)]; exact g2
  · rw [a1 6 (by omega) (by omega) (by omega)]; exact g6
  · rw [a1 7 (by omega) (by omega) (by omega)]; exact g7
  · rw [a1 8 (by omega) (by omega) (by omega)]; exact g8
  · rw [a1 10 (by omega) (by omega) (by omega)]; exact g9
  · intro k hk
    rw [a0 74 (by omega)]
    exact g10 k hk
theorem c_putP {x y : Int32} (hx : x = y) (hl : p.2.2.2.1.length < 96) (h : cP I0 I p nn nb) (hK : ∀ I', cP I0 I' (ptS p y) nn nb → K none (am_mk kt I' J T n s)) : am_T am_C (56, 0, 0, [.ref 72, .int x], []) (am_mk kt I J T n s) K := by
  subst hx
  have c10 : I 72 10 = nI p.2.2.2.1.length := h.2.2.2.2.2.2.2.2.2.1
  have c1 : ¬ Int32.ofNat 96 ≤ I 72 10 := by rw [c10]; exact nI_ge (b := 96) hl (by decide)
  have v1 : vp_in (I 72 10) 96 := by rw [c10]; exact vpl hl (by decide)
  have kk := hK (am_up (am_up I 74 (I 72 10).toNatClampNeg x) 72 10 (am_up I 74 (I 72 10).toNatClampNeg x 72 10 + 1)) (by
    obtain ⟨h0, h1, h2, h3, h4, h5, h6, h7, h8, h9, h10⟩ := h
    have cl : (I 72 10).toNatClampNeg = p.2.2.2.1.length := by rw [c10, nI_clamp (by omega)]
    refine ⟨ch_tr (ch_tr (S := fun r => r = 72 ∨ r = 74) h0 (ch_up (P := fun r => r = 72 ∨ r = 74) (.inr rfl)) fun r q => q.elim id id) (ch_up (P := fun r => r = 72 ∨ r = 74) (.inl rfl)) fun r q => q.elim id id, ?_, ?_, ?_, ?_, ?_, ?_, ?_, ?_, ?_, ?_⟩
    · rw [up_ne (by omega), up_ne (by omega)]; exact h1
    · rw [up_ne (by omega), up_ne (by omega)]; exact h2
    · rw [up_ne (by omega), up_ne (by omega)]; exact h3
    · rw [up_ne (by omega), up_ne (by omega)]; exact h4
    · rw [up_ne (by omega), up_ne (by omega)]; exact h5
    · rw [up_ne (by omega), up_ne (by omega)]; exact h6
    · rw [up_ne (by omega), up_ne (by omega)]; exact h7
    · rw [up_ne (by omega), up_ne (by omega)]; exact h8
    · rw [up_eq, up_ne (by omega), c10, nI_1]
      show nI _ = nI (p.2.2.2.1 ++ [x]).length
      rw [List.length_append]
      rfl
    · intro k hk
      have hk' : k < (p.2.2.2.1 ++ [x]).length := hk
      rw [List.length_append] at hk'
      have hk2 : k < p.2.2.2.1.length + 1 := hk'
      show am_up (am_up I 74 (I 72 10).toNatClampNeg x) 72 10 _ 74 k = (p.2.2.2.1 ++ [x]).getD k 0
      rw [cl]
      by_cases e : k = p.2.2.2.1.length
      · rw [e, gd_r, up_ne (by omega), up_eq]
      · rw [gd_l _ k (by omega), up_ne (by omega), up_ne (by omega)]
        exact h10 k (by omega))
  refine am_wq_T (cut := fun _ _ => false) (inl := fun _ => true) 120 _ _ _ ?_
  exact And.intro rfl (And.intro rfl (And.intro rfl (And.intro (fun z => absurd z c1) (fun _ => And.intro rfl (And.intro rfl (And.intro ⟨rfl, v1⟩ (And.intro rfl (And.intro rfl kk))))))))
theorem c_num_l {j : Nat} (hT : tpB I0 B len) (h : cP I0 I p nn nb) (hw : ws B len p) (hK : am_T am_C (51, 2, 51, [.ref 72, .int (nv B p.1 (p.2.1 - p.1)), .int (nI p.2.1)], []) (am_mk kt I J T n s) K) : ∀ (m i : Nat), p.1 + i + m = p.2.1 → am_T am_C (51, 2, 22, [.ref 72, .int (nv B p.1 i), .int (nI (p.1 + i))], []) (am_mk kt I J T n s) K := by
  have h96 := hT.1
  have hl := hw.2.1
  have e3 : I 72 3 = nI p.2.1 := h.2.2.2.2.1
  intro m
  induction m with
  | zero =>
    intro i hi
    have c1 : I 72 3 ≤ nI (p.1 + i) := by rw [e3]; exact nI_le (by omega) (by omega)
    rw [show p.2.1 - p.1 = i by omega, show p.2.1 = p.1 + i by omega] at hK
    refine am_wq_T (cut := fun z pc => ((Nat.beq z 51 && Nat.beq pc 22) || (Nat.beq z 51 && Nat.beq pc 51))) (inl := fun z => !((Nat.beq z 56 || Nat.beq z 43))) 120 _ _ _ ?_
    exact And.intro rfl (And.intro (fun _ => hK) (fun z => absurd c1 z))
  | succ m ih =>
    intro i hi
    have c1 : ¬ I 72 3 ≤ nI (p.1 + i) := by rw [e3]; exact nI_ge (by omega) (by omega)
    have v1 : vp_in (nI (p.1 + i)) 96 := vpl (by omega) (by decide)
    have eb : I 73 (nI (p.1 + i)).toNatClampNeg = B (p.1 + i) := scR_B (cP_T hT h) (cP_s h) (by omega)
    have kk := ih (i + 1) (by omega)
    rw [show p.1 + (i + 1) = p.1 + i + 1 by omega, nI_succ] at kk
    have kk2 : am_T am_C (51, 2, 22, [.ref 72, .int (nv B p.1 i * 10 + I 73 (nI (p.1 + i)).toNatClampNeg - 48), .int (nI (p.1 + i) + 1)], []) (am_mk kt I J T n s) K := by
      rw [eb]
      exact kk
    refine am_wq_T (cut := fun z pc => ((Nat.beq z 51 && Nat.beq pc 22) || (Nat.beq z 51 && Nat.beq pc 51))) (inl := fun z => !((Nat.beq z 56 || Nat.beq z 43))) 120 _ _ _ ?_
    exact And.intro rfl (And.intro (fun z => absurd z c1) (fun _ => And.intro rfl (And.intro ⟨rfl, v1⟩ kk2)))
theorem c_num (hT : tpB I0 B len) (h : cP I0 I p nn nb) (hw : ws B len p) (hl : p.2.2.2.1.length < 96) (h1 : p.2.1 - p.1 ≤ 4 → ∀ I', cP I0 I' (nxS B len (atS (ptS p (nv B p.1 (p.2.1 - p.1))))) nn nb → K (some (.int 1)) (am_mk kt I' J T n s)) (h0 : ¬ p.2.1 - p.1 ≤ 4 → K (some (.int 0)) (am_mk kt I J T n s)) : am_T am_C (51, 2, 0, [.ref 72, .null, .null], []) (am_mk kt I J T n s) K := by
  have h96 := hT.1
  have hw2 := hw.2.1
  have ed : I 72 3 - I 72 2 = nI (p.2.1 - p.1) := by rw [h.2.2.2.2.1, h.2.2.2.1]; exact nI_subI hw.1
  have il : I 72 3 - I 72 2 ≤ 4 ↔ p.2.1 - p.1 ≤ 4 := by rw [ed]; exact nI_leI (b := 4) (by omega) (by decide)
  by_cases c : p.2.1 - p.1 ≤ 4
  · have c1 := il.mpr c
    have e2 : I 72 2 = nI (p.1 + 0) := h.2.2.2.1
    have loop := c_num_l (kt := kt) (J := J) (T := T) (n := n) (s := s) (K := K) (j := 0) hT h hw (by
      refine am_wq_T (cut := fun z pc => ((Nat.beq z 51 && Nat.beq pc 22) || (Nat.beq z 51 && Nat.beq pc 51))) (inl := fun z => !((Nat.beq z 56 || Nat.beq z 43))) 120 _ _ _ ?_
      refine And.intro rfl (c_putP rfl hl h fun I1 g1 => ?_)
      have g2 := cP_6 (v := I1 72 6 + 1) (by rw [g1.2.2.2.2.2.2.1, nI_1]) g1
      exact And.intro rfl (And.intro rfl (And.intro rfl (c_stepP (p := atS (ptS p (nv B p.1 (p.2.1 - p.1)))) hT hw.2.1 g2 fun I2 g3 => And.intro rfl (h1 c I2 g3))))) (p.2.1 - p.1) 0 (by have := hw.1; omega)
    rw [← e2] at loop
    refine am_wq_T (cut := fun z pc => ((Nat.beq z 51 && Nat.beq pc 22) || (Nat.beq z 51 && Nat.beq pc 51))) (inl := fun z => !((Nat.beq z 56 || Nat.beq z 43))) 120 _ _ _ ?_
    exact And.intro rfl (And.intro rfl (And.intro (fun _ => And.intro rfl loop) (fun z => absurd c1 z)))
  · have c1 : ¬ I 72 3 - I 72 2 ≤ 4 := fun z => c (il.mp z)
    have kk := h0 c
    refine am_wq_T (cut := fun z pc => ((Nat.beq z 51 && Nat.beq pc 22) || (Nat.beq z 51 && Nat.beq pc 51))) (inl := fun z => !((Nat.beq z 56 || Nat.beq z 43))) 120 _ _ _ ?_
    exact And.intro rfl (And.intro rfl (And.intro (fun z => absurd z c1) (fun _ => And.intro rfl kk)))
/-- the names' letters -/
def nmF (I : Nat → Nat → Int32) : Prop := I 10 0 = 100 ∧ I 10 1 = 111 ∧ I 11 0 = 120 ∧ I 11 1 = 100 ∧ I 11 2 = 97 ∧ I 12 0 = 101 ∧ I 12 1 = 108
theorem c_idx {x y : Int32} (hk : key < 3) (hF : nmF I) (hy0 : ¬ y < 0) (hy1 : ¬ 255 < y) (hy : y.toInt8.toInt32 = y) (hx : x = y) (hK : K (some (.int (nmV key y))) (am_mk kt I J T n s)) : am_T am_C (207, 3, 0, [.ref (4 + key), .int x], []) (am_mk kt I J T n s) K := by
  subst hx
  obtain ⟨f0, f1, f2, f3, f4, f5, f6⟩ := hF
  have : key = 0 ∨ key = 1 ∨ key = 2 := by omega
  rcases this with rfl | rfl | rfl
  · exact c_idx0 hy0 hy1 hy f0 f1 hK
  · exact c_idx1 hy0 hy1 hy f2 f3 f4 hK
  · exact c_idx2 hy0 hy1 hy f5 f6 hK
theorem c_names (hk : key < 3) (hK : K (some (.ref (4 + key))) (am_mk kt I J T n s)) : am_T am_C (53, 0, 0, [.int (nI key)], []) (am_mk kt I J T n s) K := by
  have : key = 0 ∨ key = 1 ∨ key = 2 := by omega
  rcases this with rfl | rfl | rfl
  · refine am_wq_T (cut := fun _ _ => false) (inl := fun _ => true) 120 _ _ _ ?_
    exact And.intro (fun _ => hK) (fun z => absurd (by decide) z)
  · refine am_wq_T (cut := fun _ _ => false) (inl := fun _ => true) 120 _ _ _ ?_
    exact And.intro (fun z => absurd z (by decide)) (fun _ => And.intro (fun _ => hK) (fun z => absurd (by decide) z))
  · refine am_wq_T (cut := fun _ _ => false) (inl := fun _ => true) 120 _ _ _ ?_
    exact And.intro (fun z => absurd z (by decide)) (fun _ => And.intro (fun z => absurd z (by decide)) (fun _ => hK))
theorem c_nam (hT : tpB I0 B len) (hk : key < 3) (hk5 : I0 72 5 = nI key) (hF : nmF I0) (h : cP I0 I p nn nb) (hw : ws B len p) (hg : srt (B p.1) = 256 ∧ p.1 < len) (hl : p.2.2.2.1.length < 96) (h1 : (p.2.1 - p.1 = 1 ∧ ¬ nmV key (B p.1) < 0) → ∀ I', cP I0 I' (nxS B len (atS (ptS p (-1 - nmV key (B p.1))))) nn nb → K (some (.int 1)) (am_mk kt I' J T n s)) (h0 : ¬ (p.2.1 - p.1 = 1 ∧ ¬ nmV key (B p.1) < 0) → K (some (.int 0)) (am_mk kt I J T n s)) : am_T am_C (52, 4, 0, [.ref 72, .null], []) (am_mk kt I J T n s) K := by
  have h96 := hT.1
  have hw2 := hw.2.1
  have ed : I 72 3 - I 72 2 = nI (p.2.1 - p.1) := by rw [h.2.2.2.2.1, h.2.2.2.1]; exact nI_subI hw.1
  have il : I 72 3 - I 72 2 = 1 ↔ p.2.1 - p.1 = 1 := by rw [ed]; exact nI_eq (b := 1) (by omega) (by decide)
  have k5 : I 72 5 = nI key := h.2.2.1.trans hk5
  by_cases c : p.2.1 - p.1 = 1
  · have c1 : ¬ ¬ I 72 3 - I 72 2 = 1 := fun z => z (il.mpr c)
    have v1 : vp_in (I 72 2) 96 := by rw [h.2.2.2.1]; exact vpl (by omega) (by decide)
    have eb : I 73 (I 72 2).toNatClampNeg = B p.1 := by rw [h.2.2.2.1]; exact scR_B (cP_T hT h) (cP_s h) hg.2
    have lt := (srt_l (hT.2.2 p.1 hg.2).2).mp hg.1
    obtain ⟨m, hm, em⟩ := nI_of (x := B p.1) (by
      have l1 := lt.1
      clear h1 h0 eb il ed
      (simp only [Int32.lt_iff_toInt_lt, Int32.le_iff_toInt_le, gt_iff_lt, ge_iff_le, ← Int32.toInt_inj, Int32.reduceToInt, Int32.reduceMul, Int32.reduceAdd, Int32.reduceSub, ne_eq, true_and, and_true, false_and, and_false, not_true_eq_false, not_false_eq_true, true_or, or_true, false_or, or_false] at *; omega))
    have hm2 : m < 123 := by
      rcases Nat.lt_or_ge m 123 with u | u
      · exact u
      · exact absurd (by rw [em]; exact nI_lt (a := 122) (by omega) hm) lt.2
    have le := let_eq m hm2
    have y0 : ¬ B p.1 < 0 := by rw [em]; exact nI_pos (by omega)
    have y1 : ¬ 255 < B p.1 := by rw [em]; exact nI_nlt (a := 255) (by omega) (by decide)
    have y2 : (B p.1).toInt8.toInt32 = B p.1 := by rw [em]; exact le.2
    have ex : ((I 73 (I 72 2).toNatClampNeg).toUInt32 % 65536).toInt32 = B p.1 := by rw [eb, em]; exact le.1
    have hF1 : nmF I := by
      unfold nmF
      rw [h.1 10 (by omega), h.1 11 (by omega), h.1 12 (by omega)]
      exact hF
    have kz : am_K (am_k kt, I, J, am_r T, n, s) (4 + key) = (40, 0) := by
      have : key = 0 ∨ key = 1 ∨ key = 2 := by omega
      rcases this with rfl | rfl | rfl <;> rfl
    by_cases d : nmV key (B p.1) < 0
    · have d1 : ¬ 0 ≤ nmV key (B p.1) := Int32.not_le.mpr d
      have kk := h0 (fun z => z.2 d)
      refine am_wq_T (cut := fun z pc => (Nat.beq z 52 && Nat.beq pc 38)) (inl := fun z => !((Nat.beq z 56 || (Nat.beq z 43 || (Nat.beq z 53 || Nat.beq z 207))))) 120 _ _ _ ?_
      refine And.intro rfl (And.intro rfl (And.intro (fun z => absurd z c1) (fun _ => And.intro rfl ?_)))
      show am_T am_C (53, 0, 0, [.int (I 72 5)], []) (am_mk kt I J T n s) _
      rw [k5]
      refine c_names hk (And.intro rfl (And.intro rfl (And.intro ⟨rfl, v1⟩ (And.intro kz (c_idx hk hF1 y0 y1 y2 ex ?_)))))
      refine am_wq_T (cut := fun _ _ => false) (inl := fun z => !((Nat.beq z 56 || Nat.beq z 43))) 120 _ _ _ ?_
      exact And.intro (fun z => absurd z d1) (fun _ => And.intro rfl kk)
    · have d1 : 0 ≤ nmV key (B p.1) := Int32.not_lt.mp d
      refine am_wq_T (cut := fun z pc => (Nat.beq z 52 && Nat.beq pc 38)) (inl := fun z => !((Nat.beq z 56 || (Nat.beq z 43 || (Nat.beq z 53 || Nat.beq z 207))))) 120 _ _ _ ?_
      refine And.intro rfl (And.intro rfl (And.intro (fun z => absurd z c1) (fun _ => And.intro rfl ?_)))
      show am_T am_C (53, 0, 0, [.int (I 72 5)], []) (am_mk kt I J T n s) _
      rw [k5]
      refine c_names hk (And.intro rfl (And.intro rfl (And.intro ⟨rfl, v1⟩ (And.intro kz (c_idx hk hF1 y0 y1 y2 ex ?_)))))
      refine am_wq_T (cut := fun _ _ => false) (inl := fun z => !((Nat.beq z 56 || Nat.beq z 43))) 120 _ _ _ ?_
      refine And.intro (fun _ => And.intro rfl (c_putP (y := -1 - nmV key (B p.1)) rfl hl h fun I1 g1 => ?_)) (fun z => absurd d1 z)
      have g2 := cP_6 (v := I1 72 6 + 1) (by rw [g1.2.2.2.2.2.2.1, nI_1]) g1
      exact And.intro rfl (And.intro rfl (And.intro rfl (c_stepP (p := atS (ptS p (-1 - nmV key (B p.1)))) hT hw.2.1 g2 fun I2 g3 => And.intro rfl (h1 ⟨c, d⟩ I2 g3))))
  · have c1 : ¬ I 72 3 - I 72 2 = 1 := fun z => c (il.mp z)
    have m1 : ¬ (0 : Int32) ≤ -1 := by decide
    have kk := h0 (fun z => c z.1)
    refine am_wq_T (cut := fun _ _ => false) (inl := fun z => !((Nat.beq z 56 || (Nat.beq z 43 || (Nat.beq z 53 || Nat.beq z 207))))) 120 _ _ _ ?_
    exact And.intro rfl (And.intro rfl (And.intro (fun _ => And.intro (fun z => absurd z m1) (fun _ => And.intro rfl kk)) (fun z => absurd c1 z)))
theorem c_jn {l : Nat} {g : Int32} (hl : l < 5) (hg : I 72 4 = g) (h1 : jn l g = true → K (some (.int 1)) (am_mk kt I J T n s)) (h0 : ¬ jn l g = true → K (some (.int 0)) (am_mk kt I J T n s)) : am_T am_C (49, 0, 0, [.ref 72, .int (nI l)], []) (am_mk kt I J T n s) K := by
  subst hg
  have d1 : ∀ {P : Prop} [Decidable P], P → decide P = true := fun h => decide_eq_true h
  have : l = 0 ∨ l = 1 ∨ l = 2 ∨ l = 3 ∨ l = 4 := by omega
  rcases this with rfl | rfl | rfl | rfl | rfl
  · refine am_wq_T (cut := fun _ _ => false) (inl := fun _ => true) 120 _ _ _ ?_
    exact And.intro (fun _ => And.intro rfl (And.intro (fun z => And.intro rfl (h0 (fun y => z (of_decide_eq_true y)))) (fun z => And.intro rfl (h1 (decide_eq_true (Decidable.not_not.mp z)))))) (fun z => absurd (by decide) z)
  · refine am_wq_T (cut := fun _ _ => false) (inl := fun _ => true) 120 _ _ _ ?_
    exact And.intro (fun z => absurd z (by decide)) (fun _ => And.intro (fun _ => And.intro rfl (And.intro (fun z => And.intro rfl (h0 (fun y => z (of_decide_eq_true y)))) (fun z => And.intro rfl (h1 (decide_eq_true (Decidable.not_not.mp z)))))) (fun z => absurd (by decide) z))
  · refine am_wq_T (cut := fun _ _ => false) (inl := fun _ => true) 120 _ _ _ ?_
    exact And.intro (fun z => absurd z (by decide)) (fun _ => And.intro (fun z => absurd z (by decide)) (fun _ => And.intro (fun _ => And.intro rfl (And.intro (fun z => And.intro rfl (h1 (decide_eq_true (.inl z)))) (fun z1 => And.intro rfl (And.intro (fun z => And.intro rfl (h1 (decide_eq_true (.inr (.inl z))))) (fun z2 => And.intro rfl (And.intro (fun z => And.intro rfl (h0 (fun y => (of_decide_eq_true y).elim z1 fun y => y.elim z2 z))) (fun z => And.intro rfl (h1 (decide_eq_true (.inr (.inr (Decidable.not_not.mp z))))))))))) ) (fun z => absurd (by decide) z)))
  · refine am_wq_T (cut := fun _ _ => false) (inl := fun _ => true) 120 _ _ _ ?_
    exact And.intro (fun z => absurd z (by decide)) (fun _ => And.intro (fun z => absurd z (by decide)) (fun _ => And.intro (fun z => absurd z (by decide)) (fun _ => And.intro (fun _ => And.intro rfl (And.intro (fun z => And.intro rfl (h1 (decide_eq_true (.inl z)))) (fun z1 => And.intro rfl (And.intro (fun z => And.intro rfl (h0 (fun y => (of_decide_eq_true y).elim z1 z))) (fun z => And.intro rfl (h1 (decide_eq_true (.inr (Decidable.not_not.mp z))))))))) (fun z => absurd (by decide) z))))
  · refine am_wq_T (cut := fun _ _ => false) (inl := fun _ => true) 120 _ _ _ ?_
    exact And.intro (fun z => absurd z (by decide)) (fun _ => And.intro (fun z => absurd z (by decide)) (fun _ => And.intro (fun z => absurd z (by decide)) (fun _ => And.intro (fun z => absurd z (by decide)) (fun _ => And.intro rfl (And.intro (fun z => And.intro rfl (h1 (decide_eq_true (.inl z)))) (fun z1 => And.intro rfl (And.intro (fun z => And.intro rfl (h0 (fun y => (of_decide_eq_true y).elim z1 z))) (fun z => And.intro rfl (h1 (decide_eq_true (.inr (Decidable.not_not.mp z))))))))))))
end T93
