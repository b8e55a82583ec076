/-! sheets: textTold, sheet, mark -/
section T78
variable {kt : Nat → Nat × Nat} {I I' : Nat → Nat → Int32} {J J' : Nat → Nat → Int64} {T T' : Nat → Nat → Nat} {n s : Nat} {L : Nat} {xs : Nat → Int32} {K : Option Value → am_M → Prop} {N N' : Nat → Int32} {hc wc tc h w : Nat}
theorem sim_sheet (h : ∀ r k, rv r k → ¬ (79 ≤ r ∧ r < 87) ∧ ¬ (125 ≤ r ∧ r < 128) → I' r k = I r k) (hJ : ∀ r, r < 20 → J' r = J r) (hX : ∀ q, q < 4 → sg_Sheet I' I' q) (q : sg_Sim L xs kt I J T n) : sg_Sim L xs kt I' J' T n := by
  have x : ∀ r k, rv r k → (¬ (79 ≤ r ∧ r < 87) ∧ ¬ (125 ≤ r ∧ r < 128)) → I' r k = I r k := fun r k a b => h r k a b
  have y : ∀ r, (∀ k, rv r k) → (¬ (79 ≤ r ∧ r < 87) ∧ ¬ (125 ≤ r ∧ r < 128)) → I' r = I r := fun r a b => funext fun k => x r k (a k) b
  obtain ⟨⟨f0, f1, f2, f3, f4, f5, f6⟩, l, ⟨k0, k1, k2⟩, t, sh, sl, w⟩ := q
  refine ⟨⟨f0, f1, f2, f3, ?_, ?_, ?_⟩, ?_, ⟨?_, ?_, ?_⟩, ?_, ?_, ?_, ?_⟩
  · intro r hr
    rw [y r (fun k => by unfold rv; omega) (by omega), hJ r hr]
    exact f4 r hr
  · rw [y 118 (fun k => by unfold rv; omega) (by omega)]; exact f5
  · rw [y 119 (fun k => by unfold rv; omega) (by omega)]; exact f6
  · rw [y 108 (fun k => by unfold rv; omega) (by omega)]
    exact Land_cg (fun r k hr => x r k (by unfold rv; omega) (by omega)) l
  · rw [x 20 3 (by unfold rv; omega) (by omega), x 107 3 (by unfold rv; omega) (by omega)]; exact k0
  · rw [x 107 3 (by unfold rv; omega) (by omega)]; exact k1
  · rw [x 107 3 (by unfold rv; omega) (by omega), y 109 (fun k => by unfold rv; omega) (by omega)]
    intro hk
    exact Land_cg (fun r k hr => x r k (by unfold rv; omega) (by omega)) (k2 hk)
  · exact Tape_cg (x _ _ (by unfold rv; omega) (by omega)) (y _ (fun k => by unfold rv; omega) (by omega)) (x _ _ (by unfold rv; omega) (by omega)) (y _ (fun k => by unfold rv; omega) (by omega)) t
  · exact hX
  · intro q hq
    exact Slot_cg (y _ (fun k => by unfold rv; omega) (by omega)) (y _ (fun k => by unfold rv; omega) (by omega)) (y _ (fun k => by unfold rv; omega) (by omega)) (y _ (fun k => by unfold rv; omega) (by omega)) (y _ (fun k => by unfold rv; omega) (by omega)) (y _ (fun k => by unfold rv; omega) (by omega)) (y _ (fun k => by unfold rv; omega) (by omega)) (y _ (fun k => by unfold rv; omega) (by omega)) (sl q hq)
  · exact Wait_cg (x _ _ (by unfold rv; omega) (by omega)) (y _ (fun k => by unfold rv; omega) (by omega)) (x _ _ (by unfold rv; omega) (by omega)) (y _ (fun k => by unfold rv; omega) (by omega)) w
theorem sim_slot (h : ∀ r k, rv r k → ¬ (87 ≤ r ∧ r < 107) ∧ ¬ (128 ≤ r ∧ r < 132) → I' r k = I r k) (hJ : ∀ r, r < 20 → J' r = J r) (hX : ∀ q, q < 5 → sg_Slot I' I' q) (q : sg_Sim L xs kt I J T n) : sg_Sim L xs kt I' J' T n := by
  have x : ∀ r k, rv r k → (¬ (87 ≤ r ∧ r < 107) ∧ ¬ (128 ≤ r ∧ r < 132)) → I' r k = I r k := fun r k a b => h r k a b
  have y : ∀ r, (∀ k, rv r k) → (¬ (87 ≤ r ∧ r < 107) ∧ ¬ (128 ≤ r ∧ r < 132)) → I' r = I r := fun r a b => funext fun k => x r k (a k) b
  obtain ⟨⟨f0, f1, f2, f3, f4, f5, f6⟩, l, ⟨k0, k1, k2⟩, t, sh, sl, w⟩ := q
  refine ⟨⟨f0, f1, f2, f3, ?_, ?_, ?_⟩, ?_, ⟨?_, ?_, ?_⟩, ?_, ?_, ?_, ?_⟩
  · intro r hr
    rw [y r (fun k => by unfold rv; omega) (by omega), hJ r hr]
    exact f4 r hr
  · rw [y 118 (fun k => by unfold rv; omega) (by omega)]; exact f5
  · rw [y 119 (fun k => by unfold rv; omega) (by omega)]; exact f6
  · rw [y 108 (fun k => by unfold rv; omega) (by omega)]
    exact Land_cg (fun r k hr => x r k (by unfold rv; omega) (by omega)) l
  · rw [x 20 3 (by unfold rv; omega) (by omega), x 107 3 (by unfold rv; omega) (by omega)]; exact k0
  · rw [x 107 3 (by unfold rv; omega) (by omega)]; exact k1
  · rw [x 107 3 (by unfold rv; omega) (by omega), y 109 (fun k => by unfold rv; omega) (by omega)]
    intro hk
    exact Land_cg (fun r k hr => x r k (by unfold rv; omega) (by omega)) (k2 hk)
  · exact Tape_cg (x _ _ (by unfold rv; omega) (by omega)) (y _ (fun k => by unfold rv; omega) (by omega)) (x _ _ (by unfold rv; omega) (by omega)) (y _ (fun k => by unfold rv; omega) (by omega)) t
  · intro q hq
    exact Sheet_cg (y _ (fun k => by unfold rv; omega) (by omega)) (y _ (fun k => by unfold rv; omega) (by omega)) (y _ (fun k => by unfold rv; omega) (by omega)) (y _ (fun k => by unfold rv; omega) (by omega)) (y _ (fun k => by unfold rv; omega) (by omega)) (sh q hq)
  · exact hX
  · exact Wait_cg (x _ _ (by unfold rv; omega) (by omega)) (y _ (fun k => by unfold rv; omega) (by omega)) (x _ _ (by unfold rv; omega) (by omega)) (y _ (fun k => by unfold rv; omega) (by omega)) w
theorem kS {q : Nat} (hq : q < 4) : am_k kt (79 + 2 * q) = (3, 3) :=
  match q, hq with
  | 0, _ => rfl
  | 1, _ => rfl
  | 2, _ => rfl
  | 3, _ => rfl
theorem kS2 {q : Nat} (hq : q < 4) : am_k kt (80 + 2 * q) = (20, 24) :=
  match q, hq with
  | 0, _ => rfl
  | 1, _ => rfl
  | 2, _ => rfl
  | 3, _ => rfl
theorem rS0 {q : Nat} (hq : q < 4) : am_R (am_k kt, I, J, am_r T, n, s) (am_R (am_k kt, I, J, am_r T, n, s) 20 6) q = 79 + 2 * q :=
  match q, hq with
  | 0, _ => rfl
  | 1, _ => rfl
  | 2, _ => rfl
  | 3, _ => rfl
theorem rS {q : Nat} (hq : q < 4) : am_R (am_k kt, I, J, am_r T, n, s) (am_R (am_k kt, I, J, am_r T, n, s) 20 6) (nI q).toNatClampNeg = 79 + 2 * q := by
  rw [nI_clamp (by omega)]
  exact rS0 hq
theorem rS2 {q : Nat} (hq : q < 4) : am_R (am_k kt, I, J, am_r T, n, s) (79 + 2 * q) 2 = 80 + 2 * q :=
  match q, hq with
  | 0, _ => rfl
  | 1, _ => rfl
  | 2, _ => rfl
  | 3, _ => rfl
theorem c_sheetAt_y {q : Nat} (hq : q < 4) (a0 : ¬ nI q < 0) (a1 : ¬ 3 < nI q) (hK : K (some (.ref (79 + 2 * q))) (am_mk kt I J T n s)) : am_T am_C (110, 1, 0, [.ref 20, .int (nI q)], []) (am_mk kt I J T n s) K := by
  have v4 : vp_in (nI q) 4 := vpl hq (by decide)
  rw [← rS (kt := kt) (I := I) (J := J) (T := T) (n := n) (s := s) hq] at hK
  refine am_wq_T (cut := fun _ _ => false) (inl := fun z => !(Nat.beq z 105)) 120 _ _ _ ?_
  exact c_within_y a0 a1 (And.intro (fun q => absurd q m1z) (fun _ => And.intro rfl (And.intro ⟨rfl, v4⟩ hK)))
theorem c_sheetAt_n0 {x : Int32} (a0 : x < 0) (hK : K (some (.ref 0)) (am_mk kt I J T n s)) : am_T am_C (110, 1, 0, [.ref 20, .int x], []) (am_mk kt I J T n s) K := by
  refine am_wq_T (cut := fun _ _ => false) (inl := fun z => !(Nat.beq z 105)) 120 _ _ _ ?_
  exact c_within_n0 a0 (And.intro (fun _ => hK) (fun q => absurd rfl q))
theorem c_sheetAt_n1 {x : Int32} (a0 : ¬ x < 0) (a1 : 3 < x) (hK : K (some (.ref 0)) (am_mk kt I J T n s)) : am_T am_C (110, 1, 0, [.ref 20, .int x], []) (am_mk kt I J T n s) K := by
  refine am_wq_T (cut := fun _ _ => false) (inl := fun z => !(Nat.beq z 105)) 120 _ _ _ ?_
  exact c_within_n1 a0 a1 (And.intro (fun _ => hK) (fun q => absurd rfl q))
theorem m_isSheet_y {x : Int32} (a0 : ¬ x < 0) (a1 : ¬ 3 < x) (hK : K (some (.int 1)) (am_mk kt I J T n s)) : am_T am_C (189, 1, 0, [.int x], []) (am_mk kt I J T n s) K := by
  refine am_wq_T (cut := fun _ _ => false) (inl := fun z => !(Nat.beq z 113)) 120 _ _ _ ?_
  exact m_in_y a0 a1 (And.intro rfl hK)
theorem m_isSheet_n0 {x : Int32} (a0 : x < 0) (hK : K (some (.int 0)) (am_mk kt I J T n s)) : am_T am_C (189, 1, 0, [.int x], []) (am_mk kt I J T n s) K := by
  refine am_wq_T (cut := fun _ _ => false) (inl := fun z => !(Nat.beq z 113)) 120 _ _ _ ?_
  exact m_in_n0 a0 (And.intro rfl hK)
theorem m_isSheet_n1 {x : Int32} (a0 : ¬ x < 0) (a1 : 3 < x) (hK : K (some (.int 0)) (am_mk kt I J T n s)) : am_T am_C (189, 1, 0, [.int x], []) (am_mk kt I J T n s) K := by
  refine am_wq_T (cut := fun _ _ => false) (inl := fun z => !(Nat.beq z 113)) 120 _ _ _ ?_
  exact m_in_n1 a0 a1 (And.intro rfl hK)
/-- a number, and whether it is an index -/
theorem idx_cases {c : Nat} {A B : Int32} (hA : A = nI c) (hB : B = nI c) (hc : c < 1000000) (x : Int32) : (∃ t : Nat, t < c ∧ x = nI t ∧ ¬ nI t < 0 ∧ ¬ A ≤ nI t ∧ ¬ B - 1 < nI t) ∨ x < 0 ∨ (¬ x < 0 ∧ A ≤ x ∧ B - 1 < x) := by
  by_cases q : x < 0
  · exact .inr (.inl q)
  · obtain ⟨j, hj, rfl⟩ := nI_of q
    have e : B - 1 = Int32.ofInt (c - 1) := by
      rw [hB]; unfold nI
      rw [Int32.ofInt_sub]
      rfl
    have e2 : (B - 1).toInt = c - 1 := by
      rw [e, Int32.toInt_ofInt_of_le (by omega) (by omega)]
    rcases Nat.lt_or_ge j c with d | d
    · refine .inl ⟨j, d, rfl, q, ?_, ?_⟩
      · rw [hA]; exact nI_ge d (by omega)
      · rw [Int32.lt_iff_toInt_lt, e2, nI_toInt hj]; omega
    · refine .inr (.inr ⟨q, ?_, ?_⟩)
      · rw [hA]; exact nI_le d hj
      · rw [Int32.lt_iff_toInt_lt, e2, nI_toInt hj]; omega
theorem c_has_y {r : Nat} {x : Int32} (hk : am_k kt r = (3, 3)) (i0 : ¬ x < 0) (i1 : ¬ I r 1 ≤ x) (hK : K (some (.int 1)) (am_mk kt I J T n s)) : am_T am_C (36, 0, 0, [.ref r, .int x], []) (am_mk kt I J T n s) K := by
  refine am_wq_T (cut := fun _ _ => false) (inl := fun _ => true) 120 _ _ _ ?_
  exact And.intro (fun z => absurd z i0) (fun _ => And.intro hk (And.intro (fun z => absurd z i1) (fun _ => And.intro rfl hK)))
theorem c_has_n0 {r : Nat} {x : Int32} (i0 : x < 0) (hK : K (some (.int 0)) (am_mk kt I J T n s)) : am_T am_C (36, 0, 0, [.ref r, .int x], []) (am_mk kt I J T n s) K := by
  refine am_wq_T (cut := fun _ _ => false) (inl := fun _ => true) 120 _ _ _ ?_
  exact And.intro (fun _ => And.intro rfl hK) (fun z => absurd i0 z)
theorem c_has_n1 {r : Nat} {x : Int32} (hk : am_k kt r = (3, 3)) (i0 : ¬ x < 0) (i1 : I r 1 ≤ x) (hK : K (some (.int 0)) (am_mk kt I J T n s)) : am_T am_C (36, 0, 0, [.ref r, .int x], []) (am_mk kt I J T n s) K := by
  refine am_wq_T (cut := fun _ _ => false) (inl := fun _ => true) 120 _ _ _ ?_
  exact And.intro (fun z => absurd z i0) (fun _ => And.intro hk (And.intro (fun _ => And.intro rfl hK) (fun z => absurd i1 z)))
theorem sheet_put {q i : Nat} {w : Int32} (hq : q < 4) (hi : i < 24) (hw : sg_num w) (hS : sg_Sim L xs kt I J T n) : sg_Sim L xs kt (am_up (am_up I (80 + 2 * q) i w) 127 (24 * q + i) w) J T n := by
  refine sim_sheet (fun r k _ p => ?_) (fun _ _ => rfl) (fun q' hq' => ?_) hS
  · rw [up_ne (by omega), up_ne (by omega)]
  · obtain ⟨size, hz, s1, s2, s3, s4, s5⟩ := hS.2.2.2.2.1 q' hq'
    refine ⟨size, hz, ?_, ?_, ?_, ?_, fun k hk => ?_⟩
    · rw [up_ne (by omega), up_ne (by omega), up_ne (by omega), up_ne (by omega)]; exact s1
    · rw [up_ne (by omega), up_ne (by omega)]; exact s2
    · rw [up_ne (by omega), up_ne (by omega)]; exact s3
    · rw [up_ne (by omega), up_ne (by omega)]; exact s4
    · by_cases e : q' = q ∧ k = i
      · obtain ⟨rfl, rfl⟩ := e
        rw [up_ne (by omega), up_eq, up_eq]
        exact ⟨rfl, hw⟩
      · rw [up_ne (by omega), up_ne (by omega), up_ne (by omega), up_ne (by omega)]
        exact s5 k hk
theorem num_short (v : Int32) : sg_num v.toInt16.toInt32 := by
  refine .inr ⟨?_, ?_⟩
  · rw [Int16.toInt_toInt32]
    have := Int16.le_toInt v.toInt16
    omega
  · rw [Int16.toInt_toInt32]
    have := Int16.toInt_lt v.toInt16
    omega
theorem ixS {q i : Nat} (hq : q < 5) (hi : i < 24) : (24 * nI q + nI i).toNatClampNeg = 24 * q + i := by
  rw [show (24 : Int32) = nI 24 from rfl, pk_mul, nI_add, nI_clamp (by omega)]
theorem vpS {q i : Nat} (hq : q < 4) (hi : i < 24) : vp_in (24 * nI q + nI i) 96 := by
  rw [show (24 : Int32) = nI 24 from rfl, pk_mul, nI_add]
  exact vpl (by omega) (by decide)
theorem kind3 {v : Int32} (h : sg_in v (-1) 1) : v = -1 ∨ v = 0 ∨ v = 1 := by unfold sg_in at h; (simp only [Int32.lt_iff_toInt_lt, Int32.le_iff_toInt_le, gt_iff_lt, ge_iff_le, ← Int32.toInt_inj, Int32.reduceToInt, Int32.reduceMul, Int32.reduceAdd, Int32.reduceSub, ne_eq, true_and, and_true, false_and, and_false, not_true_eq_false, not_false_eq_true, true_or, or_true, false_or, or_false] at *; omega)
theorem c_findText_y {t : Nat} (a0 : ¬ nI t < 0) (a1 : ¬ I 21 6 ≤ nI t) (ht : t < 14) (hK : K (some (.ref (T 25 t))) (am_mk kt I J T n s)) : am_T am_C (30, 0, 0, [.ref 21, .int (nI t)], []) (am_mk kt I J T n s) K := by
  have vt : vp_in (nI t) 14 := vpl ht (by decide)
  rw [← nI_clamp (n := t) (by omega)] at hK
  refine am_wq_T (cut := fun _ _ => false) (inl := fun _ => true) 120 _ _ _ ?_
  exact And.intro (fun z => absurd z a0) (fun _ => And.intro rfl (And.intro (fun z => absurd z a1) (fun _ => And.intro rfl (And.intro ⟨rfl, vt⟩ hK))))
theorem c_findText_n0 {x : Int32} (a0 : x < 0) (hK : K (some (.ref 0)) (am_mk kt I J T n s)) : am_T am_C (30, 0, 0, [.ref 21, .int x], []) (am_mk kt I J T n s) K := by
  refine am_wq_T (cut := fun _ _ => false) (inl := fun _ => true) 120 _ _ _ ?_
  exact And.intro (fun _ => hK) (fun z => absurd a0 z)
theorem c_findText_n1 {x : Int32} (a0 : ¬ x < 0) (a1 : I 21 6 ≤ x) (hK : K (some (.ref 0)) (am_mk kt I J T n s)) : am_T am_C (30, 0, 0, [.ref 21, .int x], []) (am_mk kt I J T n s) K := by
  refine am_wq_T (cut := fun _ _ => false) (inl := fun _ => true) 120 _ _ _ ?_
  exact And.intro (fun z => absurd z a0) (fun _ => And.intro rfl (And.intro (fun _ => hK) (fun z => absurd a1 z)))
theorem L_textTold (x y : Int32) : sg_Call (89, 1, 0, [.ref 20, .int x, .int y, .null], []) (184, 1, 0, [.ref 107, .int x, .int y], []) := by
  intro L xs kt I J T n s K hS hK
  have h13 := hS.1.2.2.2.1
  obtain ⟨hc, wc, tc, hR, hB⟩ := hS.2.1
  have e6 : I 21 6 = nI tc := hR.2.2.2.2.2.2.2.2.1
  have e8 : I 108 8 = nI tc := hR.2.2.2.2.2.1
  have ht14 : tc ≤ 14 := hR.2.2.1
  have v8 : vp_in 8 1448 := vpl (k := 8) (by decide) (by decide)
  rcases idx_cases e6 e8 (by omega) x with ⟨t, ht, rfl, a0, a1, a2⟩ | a0 | ⟨a0, a1, a2⟩
  · obtain ⟨key, len, cs, t0, t1, t2, t3, t4, t5, t6, t7, t8, t9, t10, t11, t12, t13, -⟩ := hR.2.2.2.2.2.2.2.2.2.2.2.2.2.2.2.2.2.1 t ht
    have vt : vp_in (nI t) 14 := vpl (by omega) (by decide)
    have ct : (nI t).toNatClampNeg = t := nI_clamp (by omega)
    have rt : am_R (am_k kt, I, J, am_r T, n, s) 25 (nI t).toNatClampNeg = T 25 t := by rw [ct]; rfl
    have hkt : am_k kt (T 25 t) = (6, 4) := by rw [kr_own t0]; exact t3
    have hnz : ¬ T 25 t = 0 := by intro z; have z2 : T (21 + 4) t = 0 := z; omega
    have v76 : vp_in (76 + 2 * nI t) 1448 := by rw [show (76 : Int32) = nI 76 from rfl, show (2 : Int32) = nI 2 from rfl, pk_mul, nI_add]; exact vpl (by omega) (by decide)
    have c76 : (76 + 2 * nI t).toNatClampNeg = 76 + 2 * t := by rw [show (76 : Int32) = nI 76 from rfl, show (2 : Int32) = nI 2 from rfl, pk_mul, nI_add, nI_clamp (by omega)]
    have v77 : vp_in (76 + 2 * nI t + 1) 1448 := by rw [show (76 : Int32) = nI 76 from rfl, show (2 : Int32) = nI 2 from rfl, pk_mul, nI_add, nI_1]; exact vpl (by omega) (by decide)
    have c77 : (76 + 2 * nI t + 1).toNatClampNeg = 77 + 2 * t := by rw [show (76 : Int32) = nI 76 from rfl, show (2 : Int32) = nI 2 from rfl, pk_mul, nI_add, nI_1, nI_clamp (by omega)]; omega
    have nz1000 : ¬ (1000 : Int32) = 0 := by decide
    rcases rng y 0 1 with ⟨b0, b1⟩ | b0 | ⟨b0, b1⟩
    · by_cases y0 : y = 0
      · subst y0
        have hM : sg_Mid L xs I n s (184, 1, 0, [.ref 107, .int (nI t), .int 0], []) (I (T 25 t) 0) kt I J T n s := by
          refine ⟨h13, rfl, ?_⟩
          refine am_wq_T (cut := fun _ _ => false) (inl := fun z => !(Nat.beq z 113)) 120 _ _ _ ?_
          refine And.intro rfl (And.intro ⟨rfl, v8⟩ (m_in_y a0 a2 (And.intro (fun z => absurd z m1z) (fun _ => m_in_y b0 b1 (And.intro (fun _ => And.intro (fun z => absurd rfl z) (fun _ => And.intro rfl (And.intro ⟨rfl, v76⟩ (And.intro nz1000 (End_of ?_ hS))))) (fun z => absurd m1z z))))))
          show I 108 (76 + 2 * nI t).toNatClampNeg / 1000 = I (T 25 t) 0
          rw [c76, t13, show (1000 : Int32) = nI 1000 from rfl, pk_div (by omega) (by decide) (by decide), show (1000 * key + len) / 1000 = key by omega]
          exact t11.symm
        have key2 := hK _ _ _ _ _ _ _ hM
        refine am_wq_T (cut := fun _ _ => false) (inl := fun z => !((Nat.beq z 105 || Nat.beq z 30))) 120 _ _ _ ?_
        refine And.intro rfl (And.intro rfl (c_findText_y a0 a1 (by omega) ?_))
        exact And.intro (fun z => absurd z hnz) (fun _ => c_within_y b0 b1 (And.intro (fun _ => And.intro (fun z => absurd rfl z) (fun _ => And.intro hkt key2)) (fun z => absurd m1z z)))
      · have hM : sg_Mid L xs I n s (184, 1, 0, [.ref 107, .int (nI t), .int y], []) (I (T 25 t) 1) kt I J T n s := by
          refine ⟨h13, rfl, ?_⟩
          refine am_wq_T (cut := fun _ _ => false) (inl := fun z => !(Nat.beq z 113)) 120 _ _ _ ?_
          refine And.intro rfl (And.intro ⟨rfl, v8⟩ (m_in_y a0 a2 (And.intro (fun z => absurd z m1z) (fun _ => m_in_y b0 b1 (And.intro (fun _ => And.intro (fun _ => And.intro rfl (And.intro ⟨rfl, v77⟩ (End_of ?_ hS))) (fun z => absurd y0 z)) (fun z => absurd m1z z))))))
          show I 108 (76 + 2 * nI t + 1).toNatClampNeg = I (T 25 t) 1
          rw [c77]
          exact t12.symm
        have key2 := hK _ _ _ _ _ _ _ hM
        refine am_wq_T (cut := fun _ _ => false) (inl := fun z => !((Nat.beq z 105 || Nat.beq z 30))) 120 _ _ _ ?_
        refine And.intro rfl (And.intro rfl (c_findText_y a0 a1 (by omega) ?_))
        exact And.intro (fun z => absurd z hnz) (fun _ => c_within_y b0 b1 (And.intro (fun _ => And.intro (fun _ => And.intro hkt key2) (fun z => absurd y0 z)) (fun z => absurd m1z z)))
    all_goals
      have hM : sg_Mid L xs I n s (184, 1, 0, [.ref 107, .int (nI t), .int y], []) (-1000000001) kt I J T n s := by
        refine ⟨h13, rfl, ?_⟩
        refine am_wq_T (cut := fun _ _ => false) (inl := fun z => !(Nat.beq z 113)) 120 _ _ _ ?_
        refine And.intro rfl (And.intro ⟨rfl, v8⟩ (m_in_y a0 a2 (And.intro (fun z => absurd z m1z) (fun _ => ?_))))
        first | exact m_in_n0 b0 (And.intro (fun z => absurd rfl z) (fun _ => End_of rfl hS)) | exact m_in_n1 b0 b1 (And.intro (fun z => absurd rfl z) (fun _ => End_of rfl hS))
      have key2 := hK _ _ _ _ _ _ _ hM
      refine am_wq_T (cut := fun _ _ => false) (inl := fun z => !((Nat.beq z 105 || Nat.beq z 30))) 120 _ _ _ ?_
      refine And.intro rfl (And.intro rfl (c_findText_y a0 a1 (by omega) ?_))
      refine And.intro (fun z => absurd z hnz) (fun _ => ?_)
      first | exact c_within_n0 b0 (And.intro (fun z => absurd rfl z) (fun _ => key2)) | exact c_within_n1 b0 b1 (And.intro (fun z => absurd rfl z) (fun _ => key2))
  all_goals
    have hM : sg_Mid L xs I n s (184, 1, 0, [.ref 107, .int x, .int y], []) (-1000000001) kt I J T n s := by
      refine ⟨h13, rfl, ?_⟩
      refine am_wq_T (cut := fun _ _ => false) (inl := fun z => !(Nat.beq z 113)) 120 _ _ _ ?_
      first | exact And.intro rfl (And.intro ⟨rfl, v8⟩ (m_in_n0 a0 (And.intro (fun _ => End_of rfl hS) (fun z => absurd rfl z)))) | exact And.intro rfl (And.intro ⟨rfl, v8⟩ (m_in_n1 a0 a2 (And.intro (fun _ => End_of rfl hS) (fun z => absurd rfl z))))
    have key2 := hK _ _ _ _ _ _ _ hM
    refine am_wq_T (cut := fun _ _ => false) (inl := fun z => !((Nat.beq z 105 || Nat.beq z 30))) 120 _ _ _ ?_
    first | exact And.intro rfl (And.intro rfl (c_findText_n0 a0 (And.intro (fun _ => key2) (fun z => absurd rfl z)))) | exact And.intro rfl (And.intro rfl (c_findText_n1 a0 a1 (And.intro (fun _ => key2) (fun z => absurd rfl z))))
theorem c_fillI_l {a m : Nat} {v : Int32} (hk : am_k kt a = (20, m)) (hm : m < 1000000) (hK : K none (am_mk kt (am_row I a (cpN (I a) (fun _ => v) m)) J T n s)) : ∀ (j i : Nat), i + j = m → am_T am_C (217, 0, 5, [.ref a, .int v, .int (nI i), .int (nI m)], []) (am_mk kt (am_row I a (cpN (I a) (fun _ => v) i)) J T n s) K
  | 0, i, hi => by
    have : i = m := by omega
    subst this
    have c1 : nI i ≤ nI i := nI_le (Nat.le_refl _) (by omega)
    refine am_wq_T (cut := fun z pc => (Nat.beq z 217 && Nat.beq pc 5)) (inl := fun _ => false) 120 _ _ _ ?_
    exact And.intro (fun _ => hK) (fun z => absurd c1 z)
  | j + 1, i, hi => by
    have c1 : ¬ nI m ≤ nI i := nI_ge (by omega) (by omega)
    have k1 : (am_k kt a).1 = 20 := by rw [hk]
    have vi : vp_in (nI i) (am_k kt a).2 := by rw [hk]; exact vpl (by omega) (by omega)
    have key := c_fillI_l hk hm hK j (i + 1) (by omega)
    rw [nI_succ i, ← cp_step I a (fun _ => v) i (by omega)] at key
    refine am_wq_T (cut := fun z pc => (Nat.beq z 217 && Nat.beq pc 5)) (inl := fun _ => false) 120 _ _ _ ?_
    exact And.intro (fun z => absurd z c1) (fun _ => And.intro ⟨k1, vi⟩ key)
theorem c_fillI {a m : Nat} {v : Int32} (hk : am_k kt a = (20, m)) (hm : m < 1000000) (hK : K none (am_mk kt (am_row I a (cpN (I a) (fun _ => v) m)) J T n s)) : am_T am_C (217, 0, 0, [.ref a, .int v, .null, .null], []) (am_mk kt I J T n s) K := by
  have k1 : (am_k kt a).1 = 20 := by rw [hk]
  have em : Int32.ofNat (am_K (am_k kt, I, J, am_r T, n, s) a).2 = nI m := by
    show Int32.ofNat (am_k kt a).2 = _
    rw [hk]
    rfl
  have key := c_fillI_l (s := s) (n := n) (T := T) (J := J) hk hm hK m 0 (by omega)
  rw [cp_0] at key
  refine am_wq_T (cut := fun z pc => (Nat.beq z 217 && Nat.beq pc 5)) (inl := fun _ => false) 120 _ _ _ ?_
  refine And.intro k1 ?_
  rw [em]
  exact key
/-- a sheet of the class, laid anew -/
def clI (I : Nat → Nat → Int32) (q : Nat) (k z : Int32) : Nat → Nat → Int32 := am_row (am_up (am_up I (79 + 2 * q) 0 k) (79 + 2 * q) 1 z) (80 + 2 * q) (cpN (am_up (am_up I (79 + 2 * q) 0 k) (79 + 2 * q) 1 z (80 + 2 * q)) (fun _ => 0) 24)
theorem c_clear {q : Nat} {k z : Int32} (hq : q < 4) (hK : K none (am_mk kt (clI I q k z) J T n s)) : am_T am_C (34, 1, 0, [.ref (79 + 2 * q), .int k, .int z], []) (am_mk kt I J T n s) K := by
  refine am_wq_T (cut := fun _ _ => false) (inl := fun z => !(Nat.beq z 217)) 120 _ _ _ ?_
  refine And.intro (kS hq) (And.intro (kS hq) (And.intro (kS hq) ?_))
  have er : am_R (am_k kt, am_up (am_up I (79 + 2 * q) 0 k) (79 + 2 * q) 1 z, J, am_r T, n, s) (79 + 2 * q) 2 = 80 + 2 * q := rS2 hq
  rw [er]
  exact c_fillI (I := am_up (am_up I (79 + 2 * q) 0 k) (79 + 2 * q) 1 z) (kS2 hq) (by decide) hK
/-- the reference's sheets, one laid anew up to i -/
def zrI (I0 I : Nat → Nat → Int32) (q i : Nat) : Prop := ch (fun r => r = 127) I0 I ∧ ∀ k, I 127 k = if 24 * q ≤ k ∧ k < 24 * q + i then 0 else I0 127 k
theorem m_sheet_l {q : Nat} {k z : Int32} (hq : q < 4) {I0 : Nat → Nat → Int32} (hK : ∀ I', zrI I0 I' q 24 → K (some (.int (I0 126 q))) (am_mk kt I' J T n s)) : ∀ (j i : Nat) (I : Nat → Nat → Int32), i + j = 24 → zrI I0 I q i → am_T am_C (191, 2, 66, [.ref 107, .int (nI q), .int k, .int z, .int (nI i)], []) (am_mk kt I J T n s) K
  | 0, i, I, hi, hI => by
    have : i = 24 := by omega
    subst this
    have c1 : (24 : Int32) ≤ nI 24 := by decide
    have v4 : vp_in (nI q) 4 := vpl hq (by decide)
    have e : I 126 (nI q).toNatClampNeg = I0 126 q := by rw [nI_clamp (by omega), hI.1 126 (by omega)]
    have key := hK I hI
    rw [← e] at key
    refine am_wq_T (cut := fun z pc => (Nat.beq z 191 && Nat.beq pc 66)) (inl := fun _ => false) 120 _ _ _ ?_
    exact And.intro (fun _ => And.intro rfl (And.intro ⟨rfl, v4⟩ key)) (fun z => absurd c1 z)
  | j + 1, i, I, hi, hI => by
    have c1 : ¬ (24 : Int32) ≤ nI i := nI_ge (a := i) (b := 24) (by omega) (by omega)
    have v1 : vp_in (24 * nI q + nI i) 96 := vpS hq (by omega)
    have ix : (24 * nI q + nI i).toNatClampNeg = 24 * q + i := ixS (by omega) (by omega)
    have key := m_sheet_l (k := k) (z := z) hq hK j (i + 1) (am_up I 127 (24 * q + i) 0) (by omega) ⟨ch_tr hI.1 (ch_up (P := fun r => r = 127) rfl) fun r q => q.elim id id, fun k => by
      by_cases e : k = 24 * q + i
      · subst e
        rw [up_eq, if_pos (by omega)]
      · rw [up_ne (by omega), hI.2 k]
        by_cases e2 : 24 * q ≤ k ∧ k < 24 * q + i
        · rw [if_pos e2, if_pos (by omega)]
        · rw [if_neg e2, if_neg (by omega)]⟩
    rw [nI_succ, ← ix] at key
    refine am_wq_T (cut := fun z pc => (Nat.beq z 191 && Nat.beq pc 66)) (inl := fun _ => false) 120 _ _ _ ?_
    exact And.intro (fun z => absurd z c1) (fun _ => And.intro rfl (And.intro ⟨rfl, v1⟩ key))
theorem sheet_new {q z : Nat} {k : Int32} (hq : q < 4) (hz : z ≤ 24) (hk : sg_in k (-1) 1) (hI : zrI (am_up (am_up (clI I q k (nI z)) 125 q k) 126 q (nI z)) I' q 24) (hS : sg_Sim L xs kt I J T n) : sg_Sim L xs kt I' J T n := by
  have off : ∀ r k', ¬ (79 ≤ r ∧ r < 87) → ¬ (125 ≤ r ∧ r < 128) → I' r k' = I r k' := fun r k' h1 h2 => by
    rw [hI.1 r (by omega), up_ne (by omega), up_ne (by omega)]
    unfold clI
    rw [row_off (by omega), up_ne (by omega), up_ne (by omega)]
  refine sim_sheet (fun r k' _ p => off r k' p.1 p.2) (fun _ _ => rfl) (fun q' hq' => ?_) hS
  obtain ⟨size, hz', s1, s2, s3, s4, s5⟩ := hS.2.2.2.2.1 q' hq'
  have a125 : I' 125 = am_up (am_up (clI I q k (nI z)) 125 q k) 126 q (nI z) 125 := hI.1 125 (by omega)
  have a126 : I' 126 = am_up (am_up (clI I q k (nI z)) 125 q k) 126 q (nI z) 126 := hI.1 126 (by omega)
  have aS : ∀ r, 79 ≤ r → r < 87 → I' r = clI I q k (nI z) r := fun r h1 h2 => by
    rw [hI.1 r (by omega), up_off (by omega), up_off (by omega)]
  by_cases e : q' = q
  · subst e
    have c0 : clI I q' k (nI z) (79 + 2 * q') 0 = k := by
      unfold clI
      rw [row_off (by omega), up_ne (by omega), up_eq]
    have c1 : clI I q' k (nI z) (79 + 2 * q') 1 = nI z := by
      unfold clI
      rw [row_off (by omega), up_eq]
    refine ⟨z, hz, ?_, ?_, ?_, ?_, fun k' hk' => ?_⟩
    · rw [aS _ (by omega) (by omega), a125, c0, up_ne (by omega), up_eq]
    · rw [a125, up_ne (by omega), up_eq]; exact hk
    · rw [aS _ (by omega) (by omega), c1]
    · rw [a126, up_eq]
    · rw [aS _ (by omega) (by omega), hI.2, if_pos (by omega)]
      refine ⟨?_, .inr ⟨by decide, by decide⟩⟩
      unfold clI
      rw [row_eq]
      unfold cpN
      rw [if_pos hk']
  · have cS : ∀ r, (r = 79 + 2 * q' ∨ r = 80 + 2 * q') → clI I q k (nI z) r = I r := fun r hr => by
      unfold clI
      rw [row_off (by omega), up_off (by omega), up_off (by omega)]
    have c125 : clI I q k (nI z) 125 = I 125 := by
      unfold clI
      rw [row_off (by omega), up_off (by omega), up_off (by omega)]
    have c126 : clI I q k (nI z) 126 = I 126 := by
      unfold clI
      rw [row_off (by omega), up_off (by omega), up_off (by omega)]
    have c127 : clI I q k (nI z) 127 = I 127 := by
      unfold clI
      rw [row_off (by omega), up_off (by omega), up_off (by omega)]
    refine ⟨size, hz', ?_, ?_, ?_, ?_, fun k' hk' => ?_⟩
    · rw [aS _ (by omega) (by omega), a125, cS _ (.inl rfl), up_ne (by omega), up_ne (by omega), c125]; exact s1
    · rw [a125, up_ne (by omega), up_ne (by omega), c125]; exact s2
    · rw [aS _ (by omega) (by omega), cS _ (.inl rfl)]; exact s3
    · rw [a126, up_ne (by omega), up_ne (by omega), c126]; exact s4
    · rw [aS _ (by omega) (by omega), cS _ (.inr rfl), hI.2, if_neg (by omega), up_ne (by omega), up_ne (by omega), c127]
      exact s5 k' hk'
theorem L_sheet (x k z : Int32) : sg_Call (91, 2, 0, [.ref 20, .int x, .int k, .int z, .null], []) (191, 2, 0, [.ref 107, .int x, .int k, .int z, .null], []) := by
  intro L xs kt I J T n s K hS hK
  have h13 := hS.1.2.2.2.1
  rcases rng x 0 3 with ⟨a0, a1⟩ | a0 | ⟨a0, a1⟩
  · obtain ⟨q, hq3, rfl⟩ := in_of (m := 3) (by decide) a0 a1
    have hq : q < 4 := by omega
    have v4 : vp_in (nI q) 4 := vpl hq (by decide)
    have cq : (nI q).toNatClampNeg = q := nI_clamp (by omega)
    have hnz : ¬ 79 + 2 * q = 0 := by omega
    have tail : ∀ (k : Int32) (zN : Nat), sg_in k (-1) 1 → zN ≤ 24 → ∀ (z : Int32) (v : Value), am_T am_C (191, 2, 66, [.ref 107, .int (nI q), .int k, .int z, .int (nI 0)], []) (am_mk kt (am_up (am_up (clI I q k (nI zN)) 125 (nI q).toNatClampNeg k) 126 (nI q).toNatClampNeg (nI zN)) J T n s) (sg_End L xs n s (nI zN)) := fun k zN hk hz z v => by
      rw [cq]
      exact m_sheet_l hq (I0 := am_up (am_up (clI I q k (nI zN)) 125 q k) 126 q (nI zN)) (fun I' hI => End_of (up_eq _ _ _ _) (sheet_new hq hz hk hI hS)) 24 0 _ rfl ⟨ch_rfl, fun k => by rw [if_neg (by omega)]⟩
    have c13 : ∀ k z, clI I q k z 13 = I 13 := fun k z => by
      unfold clI
      rw [row_off (by omega), up_off (by omega), up_off (by omega)]
    rcases rng k (-1) 1 with ⟨b0, b1⟩ | b0 | ⟨b0, b1⟩
    · have b2 : k ≤ 1 := Int32.not_lt.mp b1
      have hk : sg_in k (-1) 1 := by unfold sg_in; clear hK hS tail c13; (simp only [Int32.lt_iff_toInt_lt, Int32.le_iff_toInt_le, gt_iff_lt, ge_iff_le, ← Int32.toInt_inj, Int32.reduceToInt, Int32.reduceMul, Int32.reduceAdd, Int32.reduceSub, ne_eq, true_and, and_true, false_and, and_false, not_true_eq_false, not_false_eq_true, true_or, or_true, false_or, or_false] at *; omega)
      by_cases km : k = -1
      · subst km
        have d0 : (-1 : Int32) < 0 := by decide
        have d1 : ¬ 0 ≤ (-1 : Int32) := by decide
        have hM : sg_Mid L xs I n s (191, 2, 0, [.ref 107, .int (nI q), .int (-1), .int z, .null], []) 0 kt (clI I q (-1) 0) J T n s := by
          refine ⟨h13, c13 _ _, ?_⟩
          refine am_wq_T (cut := fun z pc => (Nat.beq z 191 && Nat.beq pc 66)) (inl := fun z => !((Nat.beq z 189 || Nat.beq z 113))) 120 _ _ _ ?_
          exact m_isSheet_y a0 a1 (And.intro (fun z => absurd z m1z) (fun _ => m_in_y b0 b1 (And.intro (fun z => absurd z m1z) (fun _ => And.intro (fun _ => And.intro (fun _ => And.intro rfl (And.intro ⟨rfl, v4⟩ (And.intro rfl (And.intro (fun z => absurd z d1) (fun _ => And.intro ⟨rfl, v4⟩ (tail (-1) 0 hk (by decide) z .null)))))) (fun z => absurd d0 z)) (fun z => absurd d0 z)))))
        have key := hK _ _ _ _ _ _ _ hM
        refine am_wq_T (cut := fun _ _ => false) (inl := fun z => !((Nat.beq z 110 || Nat.beq z 34))) 120 _ _ _ ?_
        exact And.intro rfl (c_sheetAt_y hq a0 a1 (And.intro (fun z => absurd z hnz) (fun _ => And.intro (fun z => absurd z b0) (fun _ => And.intro (fun _ => And.intro (fun z => absurd rfl z) (fun _ => And.intro (kS hq) (c_clear hq key))) (fun z => absurd b2 z)))))
      · have d0 : ¬ k < 0 := by clear hK hS tail c13; (simp only [Int32.lt_iff_toInt_lt, Int32.le_iff_toInt_le, gt_iff_lt, ge_iff_le, ← Int32.toInt_inj, Int32.reduceToInt, Int32.reduceMul, Int32.reduceAdd, Int32.reduceSub, ne_eq, true_and, and_true, false_and, and_false, not_true_eq_false, not_false_eq_true, true_or, or_true, false_or, or_false] at *; omega)
        have d1 : 0 ≤ k := Int32.not_lt.mp d0
        by_cases z1 : z ≤ 24
        · by_cases z0 : 0 ≤ z
          · obtain ⟨zN, hz, rfl⟩ := in_of (m := 24) (x := z) (by decide) (Int32.not_lt.mpr z0) (Int32.not_lt.mpr z1)
            have hM : sg_Mid L xs I n s (191, 2, 0, [.ref 107, .int (nI q), .int k, .int (nI zN), .null], []) (nI zN) kt (clI I q k (nI zN)) J T n s := by
              refine ⟨h13, c13 _ _, ?_⟩
              refine am_wq_T (cut := fun z pc => (Nat.beq z 191 && Nat.beq pc 66)) (inl := fun z => !((Nat.beq z 189 || Nat.beq z 113))) 120 _ _ _ ?_
              exact m_isSheet_y a0 a1 (And.intro (fun z => absurd z m1z) (fun _ => m_in_y b0 b1 (And.intro (fun z => absurd z m1z) (fun _ => And.intro (fun z => absurd z d0) (fun _ => And.intro (fun _ => And.intro (fun z => absurd z d0) (fun _ => And.intro (fun _ => And.intro rfl (And.intro ⟨rfl, v4⟩ (And.intro rfl (And.intro (fun _ => And.intro ⟨rfl, v4⟩ (tail k zN hk hz (nI zN) .null)) (fun z => absurd d1 z))))) (fun z => absurd z0 z))) (fun z => absurd z1 z))))))
            have key := hK _ _ _ _ _ _ _ hM
            refine am_wq_T (cut := fun _ _ => false) (inl := fun z => !((Nat.beq z 110 || Nat.beq z 34))) 120 _ _ _ ?_
            exact And.intro rfl (c_sheetAt_y hq a0 a1 (And.intro (fun z => absurd z hnz) (fun _ => And.intro (fun z => absurd z b0) (fun _ => And.intro (fun _ => And.intro (fun _ => And.intro (fun _ => And.intro (fun _ => And.intro (kS hq) (c_clear hq key)) (fun z => absurd z0 z)) (fun z => absurd z1 z)) (fun z => absurd km z)) (fun z => absurd b2 z)))))
          · have hM : sg_Mid L xs I n s (191, 2, 0, [.ref 107, .int (nI q), .int k, .int z, .null], []) (-1000000014) kt I J T n s := by
              refine ⟨h13, rfl, ?_⟩
              refine am_wq_T (cut := fun z pc => (Nat.beq z 191 && Nat.beq pc 66)) (inl := fun z => !((Nat.beq z 189 || Nat.beq z 113))) 120 _ _ _ ?_
              exact m_isSheet_y a0 a1 (And.intro (fun z => absurd z m1z) (fun _ => m_in_y b0 b1 (And.intro (fun z => absurd z m1z) (fun _ => And.intro (fun z => absurd z d0) (fun _ => And.intro (fun _ => And.intro (fun z => absurd z d0) (fun _ => And.intro (fun z => absurd z z0) (fun _ => End_of rfl hS))) (fun z => absurd z1 z))))))
            have key := hK _ _ _ _ _ _ _ hM
            refine am_wq_T (cut := fun _ _ => false) (inl := fun z => !((Nat.beq z 110 || Nat.beq z 34))) 120 _ _ _ ?_
            exact And.intro rfl (c_sheetAt_y hq a0 a1 (And.intro (fun z => absurd z hnz) (fun _ => And.intro (fun z => absurd z b0) (fun _ => And.intro (fun _ => And.intro (fun _ => And.intro (fun _ => And.intro (fun z => absurd z z0) (fun _ => key)) (fun z => absurd z1 z)) (fun z => absurd km z)) (fun z => absurd b2 z)))))
        · have hM : sg_Mid L xs I n s (191, 2, 0, [.ref 107, .int (nI q), .int k, .int z, .null], []) (-1000000001) kt I J T n s := by
            refine ⟨h13, rfl, ?_⟩
            refine am_wq_T (cut := fun z pc => (Nat.beq z 191 && Nat.beq pc 66)) (inl := fun z => !((Nat.beq z 189 || Nat.beq z 113))) 120 _ _ _ ?_
            exact m_isSheet_y a0 a1 (And.intro (fun z => absurd z m1z) (fun _ => m_in_y b0 b1 (And.intro (fun z => absurd z m1z) (fun _ => And.intro (fun z => absurd z d0) (fun _ => And.intro (fun z => absurd z z1) (fun _ => End_of rfl hS))))))
          have key := hK _ _ _ _ _ _ _ hM
          refine am_wq_T (cut := fun _ _ => false) (inl := fun z => !((Nat.beq z 110 || Nat.beq z 34))) 120 _ _ _ ?_
          exact And.intro rfl (c_sheetAt_y hq a0 a1 (And.intro (fun z => absurd z hnz) (fun _ => And.intro (fun z => absurd z b0) (fun _ => And.intro (fun _ => And.intro (fun _ => And.intro (fun z => absurd z z1) (fun _ => key)) (fun z => absurd km z)) (fun z => absurd b2 z)))))
    · have hM : sg_Mid L xs I n s (191, 2, 0, [.ref 107, .int (nI q), .int k, .int z, .null], []) (-1000000001) kt I J T n s := by
        refine ⟨h13, rfl, ?_⟩
        refine am_wq_T (cut := fun z pc => (Nat.beq z 191 && Nat.beq pc 66)) (inl := fun z => !((Nat.beq z 189 || Nat.beq z 113))) 120 _ _ _ ?_
        exact m_isSheet_y a0 a1 (And.intro (fun z => absurd z m1z) (fun _ => m_in_n0 b0 (And.intro (fun _ => End_of rfl hS) (fun z => absurd rfl z))))
      have key := hK _ _ _ _ _ _ _ hM
      refine am_wq_T (cut := fun _ _ => false) (inl := fun z => !((Nat.beq z 110 || Nat.beq z 34))) 120 _ _ _ ?_
      exact And.intro rfl (c_sheetAt_y hq a0 a1 (And.intro (fun z => absurd z hnz) (fun _ => And.intro (fun _ => key) (fun z => absurd b0 z))))
    · have b2 : ¬ k ≤ 1 := Int32.not_le.mpr b1
      have hM : sg_Mid L xs I n s (191, 2, 0, [.ref 107, .int (nI q), .int k, .int z, .null], []) (-1000000001) kt I J T n s := by
        refine ⟨h13, rfl, ?_⟩
        refine am_wq_T (cut := fun z pc => (Nat.beq z 191 && Nat.beq pc 66)) (inl := fun z => !((Nat.beq z 189 || Nat.beq z 113))) 120 _ _ _ ?_
        exact m_isSheet_y a0 a1 (And.intro (fun z => absurd z m1z) (fun _ => m_in_n1 b0 b1 (And.intro (fun _ => End_of rfl hS) (fun z => absurd rfl z))))
      have key := hK _ _ _ _ _ _ _ hM
      refine am_wq_T (cut := fun _ _ => false) (inl := fun z => !((Nat.beq z 110 || Nat.beq z 34))) 120 _ _ _ ?_
      exact And.intro rfl (c_sheetAt_y hq a0 a1 (And.intro (fun z => absurd z hnz) (fun _ => And.intro (fun z => absurd z b0) (fun _ => And.intro (fun z => absurd z b2) (fun _ => key)))))
  all_goals
    have hM : sg_Mid L xs I n s (191, 2, 0, [.ref 107, .int x, .int k, .int z, .null], []) (-1000000001) kt I J T n s := by
      refine ⟨h13, rfl, ?_⟩
      refine am_wq_T (cut := fun z pc => (Nat.beq z 191 && Nat.beq pc 66)) (inl := fun z => !((Nat.beq z 189 || Nat.beq z 113))) 120 _ _ _ ?_
      first | exact m_isSheet_n0 a0 (And.intro (fun _ => End_of rfl hS) (fun z => absurd rfl z)) | exact m_isSheet_n1 a0 a1 (And.intro (fun _ => End_of rfl hS) (fun z => absurd rfl z))
    have key := hK _ _ _ _ _ _ _ hM
    refine am_wq_T (cut := fun _ _ => false) (inl := fun z => !((Nat.beq z 110 || Nat.beq z 34))) 120 _ _ _ ?_
    first | exact And.intro rfl (c_sheetAt_n0 a0 (And.intro (fun _ => key) (fun z => absurd rfl z))) | exact And.intro rfl (c_sheetAt_n1 a0 a1 (And.intro (fun _ => key) (fun z => absurd rfl z)))
theorem L_mark (x y v : Int32) : sg_Call (92, 2, 0, [.ref 20, .int x, .int y, .int v, .null], []) (192, 2, 0, [.ref 107, .int x, .int y, .int v], []) := by
  intro L xs kt I J T n s K hS hK
  have h13 := hS.1.2.2.2.1
  rcases rng x 0 3 with ⟨a0, a1⟩ | a0 | ⟨a0, a1⟩
  · obtain ⟨q, hq3, rfl⟩ := in_of (m := 3) (by decide) a0 a1
    have hq : q < 4 := by omega
    have v4 : vp_in (nI q) 4 := vpl hq (by decide)
    have cq : (nI q).toNatClampNeg = q := nI_clamp (by omega)
    have hnz : ¬ 79 + 2 * q = 0 := by omega
    obtain ⟨size, hz, s1, s2, s3, s4, s5⟩ := hS.2.2.2.2.1 q hq
    have s4' : I 126 (nI q).toNatClampNeg = nI size := by rw [cq]; exact s4
    have er : am_R (am_k kt, I, J, am_r T, n, s) (79 + 2 * q) 2 = 80 + 2 * q := rS2 hq
    have k2 : (am_k kt (80 + 2 * q)).1 = 20 := by rw [kS2 hq]
    by_cases km : I 125 q = -1
    · have c1 : I (79 + 2 * q) 0 = -1 := s1.trans km
      have c2 : ¬ 0 ≤ I 125 (nI q).toNatClampNeg := by rw [cq, km]; decide
      have hM : sg_Mid L xs I n s (192, 2, 0, [.ref 107, .int (nI q), .int y, .int v], []) (-1000000011) kt I J T n s := by
        refine ⟨h13, rfl, ?_⟩
        refine am_wq_T (cut := fun _ _ => false) (inl := fun z => !((Nat.beq z 189 || Nat.beq z 113))) 120 _ _ _ ?_
        exact m_isSheet_y a0 a1 (And.intro (fun _ => And.intro rfl (And.intro ⟨rfl, v4⟩ (And.intro (fun z => absurd z c2) (fun _ => End_of rfl hS)))) (fun z => absurd m1z z))
      have key := hK _ _ _ _ _ _ _ hM
      refine am_wq_T (cut := fun _ _ => false) (inl := fun z => !((Nat.beq z 110 || Nat.beq z 36))) 120 _ _ _ ?_
      exact And.intro rfl (c_sheetAt_y hq a0 a1 (And.intro (fun z => absurd z hnz) (fun _ => And.intro (kS hq) (And.intro (fun z => absurd c1 z) (fun _ => key)))))
    · have c1 : ¬ I (79 + 2 * q) 0 = -1 := by rw [s1]; exact km
      have kp : 0 ≤ I 125 q := by rcases kind3 s2 with e | e | e; exact absurd e km; all_goals rw [e]; decide
      have c2 : 0 ≤ I 125 (nI q).toNatClampNeg := by rw [cq]; exact kp
      rcases idx_cases s3 s4' (by omega) y with ⟨i, hi, rfl, i0, i1, i2⟩ | i0 | ⟨i0, i1, i2⟩
      · have hi24 : i < 24 := by omega
        have vi : vp_in (nI i) (am_k kt (80 + 2 * q)).2 := by rw [kS2 hq]; exact vpl hi24 (by decide)
        have ci : (nI i).toNatClampNeg = i := nI_clamp (by omega)
        have v1 : vp_in (24 * nI q + nI i) 96 := vpS hq hi24
        have ix : (24 * nI q + nI i).toNatClampNeg = 24 * q + i := ixS (by omega) hi24
        have fin : ∀ w, sg_num w → sg_End L xs n s 1 (some (.int 1)) (am_mk kt (am_up (am_up I (80 + 2 * q) (nI i).toNatClampNeg w) 127 (24 * nI q + nI i).toNatClampNeg w) J T n s) := fun w hw => by
          rw [ix, ci]
          exact End_of rfl (sheet_put hq hi24 hw hS)
        have p13 : ∀ w, am_up I (80 + 2 * q) (nI i).toNatClampNeg w 13 = I 13 := fun w => up_off (by omega)
        have p126 : ∀ w, ¬ am_up I (80 + 2 * q) (nI i).toNatClampNeg w 126 (nI q).toNatClampNeg - 1 < nI i := fun w => by rw [up_off (by omega)]; exact i2
        have p125 : ∀ w, am_up I (80 + 2 * q) (nI i).toNatClampNeg w 125 (nI q).toNatClampNeg = I 125 q := fun w => by rw [up_off (by omega), cq]
        rcases (kind3 s2).resolve_left km with k0 | k0
        · have d1 : I (79 + 2 * q) 0 = 0 := s1.trans k0
          by_cases vn : v = -1000000005
          · subst vn
            have d2 : ¬ ¬ I 125 (nI q).toNatClampNeg = 0 := by rw [cq, k0]; decide
            have hM : sg_Mid L xs I n s (192, 2, 0, [.ref 107, .int (nI q), .int (nI i), .int (-1000000005)], []) (-1000000012) kt I J T n s := by
              refine ⟨h13, rfl, ?_⟩
              refine am_wq_T (cut := fun _ _ => false) (inl := fun z => !((Nat.beq z 189 || Nat.beq z 113))) 120 _ _ _ ?_
              exact m_isSheet_y a0 a1 (And.intro (fun _ => And.intro rfl (And.intro ⟨rfl, v4⟩ (And.intro (fun _ => And.intro rfl (And.intro ⟨rfl, v4⟩ (m_in_y i0 i2 (And.intro (fun _ => And.intro rfl (And.intro ⟨rfl, v4⟩ (And.intro (fun z => absurd z d2) (fun _ => And.intro (fun z => absurd rfl z) (fun _ => End_of rfl hS))))) (fun z => absurd m1z z))))) (fun z => absurd c2 z)))) (fun z => absurd m1z z))
            have key := hK _ _ _ _ _ _ _ hM
            refine am_wq_T (cut := fun _ _ => false) (inl := fun z => !((Nat.beq z 110 || Nat.beq z 36))) 120 _ _ _ ?_
            exact And.intro rfl (c_sheetAt_y hq a0 a1 (And.intro (fun z => absurd z hnz) (fun _ => And.intro (kS hq) (And.intro (fun _ => And.intro (kS hq) (c_has_y (kS hq) i0 i1 (And.intro (fun _ => And.intro (kS hq) (And.intro (fun z => absurd d1 z) (fun _ => And.intro (fun z => absurd rfl z) (fun _ => key)))) (fun z => absurd m1z z)))) (fun z => absurd z (fun y => y c1))))))
          · obtain ⟨w, ew⟩ : ∃ w, w = v.toInt16.toInt32 := ⟨_, rfl⟩
            have hw : sg_num w := by rw [ew]; exact num_short v
            have hM : sg_Mid L xs I n s (192, 2, 0, [.ref 107, .int (nI q), .int (nI i), .int v], []) 1 kt (am_up I (80 + 2 * q) (nI i).toNatClampNeg w) J T n s := by
              have fin := fin w hw
              have p13 := p13 w
              have p125 := p125 w
              have p126 := p126 w
              obtain ⟨I1, e1⟩ : ∃ I1, I1 = am_up I (80 + 2 * q) (nI i).toNatClampNeg w := ⟨_, rfl⟩
              rw [← e1] at fin p13 p125 p126 ⊢
              have d2 : ¬ ¬ I1 125 (nI q).toNatClampNeg = 0 := by rw [p125, k0]; decide
              have d3 : ¬ I1 125 (nI q).toNatClampNeg = 1 := by rw [p125, k0]; decide
              have c2 : 0 ≤ I1 125 (nI q).toNatClampNeg := by rw [p125]; exact kp
              rw [ew] at fin
              refine ⟨h13, p13, ?_⟩
              refine am_wq_T (cut := fun _ _ => false) (inl := fun z => !((Nat.beq z 189 || Nat.beq z 113))) 120 _ _ _ ?_
              exact m_isSheet_y a0 a1 (And.intro (fun _ => And.intro rfl (And.intro ⟨rfl, v4⟩ (And.intro (fun _ => And.intro rfl (And.intro ⟨rfl, v4⟩ (m_in_y i0 p126 (And.intro (fun _ => And.intro rfl (And.intro ⟨rfl, v4⟩ (And.intro (fun z => absurd z d2) (fun _ => And.intro (fun _ => And.intro rfl (And.intro ⟨rfl, v4⟩ (And.intro (fun _ => And.intro rfl (And.intro rfl (And.intro ⟨rfl, v4⟩ (And.intro (fun z => absurd z d2) (fun _ => And.intro ⟨rfl, v1⟩ fin))))) (fun z => absurd d3 (fun y => z y))))) (fun z => absurd vn z))))) (fun z => absurd m1z z))))) (fun z => absurd c2 z)))) (fun z => absurd m1z z))
            have key := hK _ _ _ _ _ _ _ hM
            rw [ew] at key
            refine am_wq_T (cut := fun _ _ => false) (inl := fun z => !((Nat.beq z 110 || Nat.beq z 36))) 120 _ _ _ ?_
            refine And.intro rfl (c_sheetAt_y hq a0 a1 (And.intro (fun z => absurd z hnz) (fun _ => And.intro (kS hq) (And.intro (fun _ => And.intro (kS hq) (c_has_y (kS hq) i0 i1 (And.intro (fun _ => And.intro (kS hq) (And.intro (fun z => absurd d1 z) (fun _ => And.intro (fun _ => And.intro (kS hq) ?_) (fun z => absurd vn z)))) (fun z => absurd m1z z)))) (fun z => absurd z (fun y => y c1))))))
            rw [er]
            exact And.intro ⟨k2, vi⟩ key
        · have d1 : ¬ I (79 + 2 * q) 0 = 0 := by rw [s1, k0]; decide
          by_cases vb : v = -1000000005 ∨ sg_in v (-99999) 99999
          · have hw : sg_num v := vb
            have hM : sg_Mid L xs I n s (192, 2, 0, [.ref 107, .int (nI q), .int (nI i), .int v], []) 1 kt (am_up I (80 + 2 * q) (nI i).toNatClampNeg v) J T n s := by
              have fin := fin v hw
              have p13 := p13 v
              have p125 := p125 v
              have p126 := p126 v
              obtain ⟨I1, e1⟩ : ∃ I1, I1 = am_up I (80 + 2 * q) (nI i).toNatClampNeg v := ⟨_, rfl⟩
              rw [← e1] at fin p13 p125 p126 ⊢
              have d2 : ¬ I1 125 (nI q).toNatClampNeg = 0 := by rw [p125, k0]; decide
              have d3 : ¬ ¬ I1 125 (nI q).toNatClampNeg = 1 := by rw [p125, k0]; decide
              have c2 : 0 ≤ I1 125 (nI q).toNatClampNeg := by rw [p125]; exact kp
              refine ⟨h13, p13, ?_⟩
              refine am_wq_T (cut := fun _ _ => false) (inl := fun z => !((Nat.beq z 189 || Nat.beq z 113))) 120 _ _ _ ?_
              refine m_isSheet_y a0 a1 (And.intro (fun _ => And.intro rfl (And.intro ⟨rfl, v4⟩ (And.intro (fun _ => And.intro rfl (And.intro ⟨rfl, v4⟩ (m_in_y i0 p126 (And.intro (fun _ => And.intro rfl (And.intro ⟨rfl, v4⟩ (And.intro (fun _ => And.intro rfl (And.intro ⟨rfl, v4⟩ (And.intro (fun z => absurd z d3) (fun _ => And.intro (fun vn => ?_) (fun vn => ?_))))) (fun z => absurd d2 z)))) (fun z => absurd m1z z))))) (fun z => absurd c2 z)))) (fun z => absurd m1z z))
              · exact And.intro rfl (And.intro rfl (And.intro ⟨rfl, v4⟩ (And.intro (fun _ => And.intro ⟨rfl, v1⟩ fin) (fun z => absurd d2 z))))
              · have hv := vb.resolve_left vn
                have n0 : ¬ v < -99999 := by clear hK hS fin; unfold sg_in at hv; (simp only [Int32.lt_iff_toInt_lt, Int32.le_iff_toInt_le, gt_iff_lt, ge_iff_le, ← Int32.toInt_inj, Int32.reduceToInt, Int32.reduceMul, Int32.reduceAdd, Int32.reduceSub, ne_eq, true_and, and_true, false_and, and_false, not_true_eq_false, not_false_eq_true, true_or, or_true, false_or, or_false] at *; omega)
                have n1 : ¬ 99999 < v := by clear hK hS fin; unfold sg_in at hv; (simp only [Int32.lt_iff_toInt_lt, Int32.le_iff_toInt_le, gt_iff_lt, ge_iff_le, ← Int32.toInt_inj, Int32.reduceToInt, Int32.reduceMul, Int32.reduceAdd, Int32.reduceSub, ne_eq, true_and, and_true, false_and, and_false, not_true_eq_false, not_false_eq_true, true_or, or_true, false_or, or_false] at *; omega)
                exact m_in_y n0 n1 (And.intro (fun _ => And.intro rfl (And.intro rfl (And.intro ⟨rfl, v4⟩ (And.intro (fun _ => And.intro ⟨rfl, v1⟩ fin) (fun z => absurd d2 z))))) (fun z => absurd m1z z))
            have key := hK _ _ _ _ _ _ _ hM
            refine am_wq_T (cut := fun _ _ => false) (inl := fun z => !((Nat.beq z 110 || Nat.beq z 36))) 120 _ _ _ ?_
            refine And.intro rfl (c_sheetAt_y hq a0 a1 (And.intro (fun z => absurd z hnz) (fun _ => And.intro (kS hq) (And.intro (fun _ => And.intro (kS hq) (c_has_y (kS hq) i0 i1 (And.intro (fun _ => And.intro (kS hq) (And.intro (fun _ => And.intro (fun vn => And.intro (kS hq) ?_) (fun vn => ?_)) (fun z => absurd d1 z))) (fun z => absurd m1z z)))) (fun z => absurd z (fun y => y c1))))))
            · rw [er]
              exact And.intro ⟨k2, vi⟩ key
            · have hv := vb.resolve_left vn
              have n0 : ¬ v < -99999 := by clear hK hS fin key; unfold sg_in at hv; (simp only [Int32.lt_iff_toInt_lt, Int32.le_iff_toInt_le, gt_iff_lt, ge_iff_le, ← Int32.toInt_inj, Int32.reduceToInt, Int32.reduceMul, Int32.reduceAdd, Int32.reduceSub, ne_eq, true_and, and_true, false_and, and_false, not_true_eq_false, not_false_eq_true, true_or, or_true, false_or, or_false] at *; omega)
              have n1 : v ≤ 99999 := by clear hK hS fin key; unfold sg_in at hv; (simp only [Int32.lt_iff_toInt_lt, Int32.le_iff_toInt_le, gt_iff_lt, ge_iff_le, ← Int32.toInt_inj, Int32.reduceToInt, Int32.reduceMul, Int32.reduceAdd, Int32.reduceSub, ne_eq, true_and, and_true, false_and, and_false, not_true_eq_false, not_false_eq_true, true_or, or_true, false_or, or_false] at *; omega)
              refine And.intro (fun z => absurd z n0) (fun _ => And.intro (fun _ => And.intro (kS hq) ?_) (fun z => absurd n1 z))
              rw [er]
              exact And.intro ⟨k2, vi⟩ key
          · have vn : ¬ v = -1000000005 := fun z => vb (.inl z)
            have nv : v < -99999 ∨ (¬ v < -99999 ∧ 99999 < v) := by
              rcases rng v (-99999) 99999 with ⟨n0, n1⟩ | n0 | n0
              · exact absurd (.inr (by clear hK hS fin; unfold sg_in; (simp only [Int32.lt_iff_toInt_lt, Int32.le_iff_toInt_le, gt_iff_lt, ge_iff_le, ← Int32.toInt_inj, Int32.reduceToInt, Int32.reduceMul, Int32.reduceAdd, Int32.reduceSub, ne_eq, true_and, and_true, false_and, and_false, not_true_eq_false, not_false_eq_true, true_or, or_true, false_or, or_false] at *; omega))) vb
              · exact .inl n0
              · exact .inr n0
            have d2 : ¬ I 125 (nI q).toNatClampNeg = 0 := by rw [cq, k0]; decide
            have d3 : ¬ ¬ I 125 (nI q).toNatClampNeg = 1 := by rw [cq, k0]; decide
            have hM : sg_Mid L xs I n s (192, 2, 0, [.ref 107, .int (nI q), .int (nI i), .int v], []) (-1000000001) kt I J T n s := by
              refine ⟨h13, rfl, ?_⟩
              refine am_wq_T (cut := fun _ _ => false) (inl := fun z => !((Nat.beq z 189 || Nat.beq z 113))) 120 _ _ _ ?_
              refine m_isSheet_y a0 a1 (And.intro (fun _ => And.intro rfl (And.intro ⟨rfl, v4⟩ (And.intro (fun _ => And.intro rfl (And.intro ⟨rfl, v4⟩ (m_in_y i0 i2 (And.intro (fun _ => And.intro rfl (And.intro ⟨rfl, v4⟩ (And.intro (fun _ => And.intro rfl (And.intro ⟨rfl, v4⟩ (And.intro (fun z => absurd z d3) (fun _ => And.intro (fun z => absurd z vn) (fun _ => ?_))))) (fun z => absurd d2 z)))) (fun z => absurd m1z z))))) (fun z => absurd c2 z)))) (fun z => absurd m1z z))
              rcases nv with n0 | ⟨n0, n1⟩
              · exact m_in_n0 n0 (And.intro (fun z => absurd rfl z) (fun _ => End_of rfl hS))
              · exact m_in_n1 n0 n1 (And.intro (fun z => absurd rfl z) (fun _ => End_of rfl hS))
            have key := hK _ _ _ _ _ _ _ hM
            refine am_wq_T (cut := fun _ _ => false) (inl := fun z => !((Nat.beq z 110 || Nat.beq z 36))) 120 _ _ _ ?_
            refine And.intro rfl (c_sheetAt_y hq a0 a1 (And.intro (fun z => absurd z hnz) (fun _ => And.intro (kS hq) (And.intro (fun _ => And.intro (kS hq) (c_has_y (kS hq) i0 i1 (And.intro (fun _ => And.intro (kS hq) (And.intro (fun _ => And.intro (fun z => absurd z vn) (fun _ => ?_)) (fun z => absurd d1 z))) (fun z => absurd m1z z)))) (fun z => absurd z (fun y => y c1))))))
            rcases nv with n0 | ⟨n0, n1⟩
            · exact And.intro (fun _ => key) (fun z => absurd n0 z)
            · exact And.intro (fun z => absurd z n0) (fun _ => And.intro (fun z => absurd z (Int32.not_le.mpr n1)) (fun _ => key))
      all_goals
        have hM : sg_Mid L xs I n s (192, 2, 0, [.ref 107, .int (nI q), .int y, .int v], []) (-1000000013) kt I J T n s := by
          refine ⟨h13, rfl, ?_⟩
          refine am_wq_T (cut := fun _ _ => false) (inl := fun z => !((Nat.beq z 189 || Nat.beq z 113))) 120 _ _ _ ?_
          refine m_isSheet_y a0 a1 (And.intro (fun _ => And.intro rfl (And.intro ⟨rfl, v4⟩ (And.intro (fun _ => And.intro rfl (And.intro ⟨rfl, v4⟩ ?_)) (fun z => absurd c2 z)))) (fun z => absurd m1z z))
          first | exact m_in_n0 i0 (And.intro (fun z => absurd rfl z) (fun _ => End_of rfl hS)) | exact m_in_n1 i0 i2 (And.intro (fun z => absurd rfl z) (fun _ => End_of rfl hS))
        have key := hK _ _ _ _ _ _ _ hM
        refine am_wq_T (cut := fun _ _ => false) (inl := fun z => !((Nat.beq z 110 || Nat.beq z 36))) 120 _ _ _ ?_
        refine And.intro rfl (c_sheetAt_y hq a0 a1 (And.intro (fun z => absurd z hnz) (fun _ => And.intro (kS hq) (And.intro (fun _ => And.intro (kS hq) ?_) (fun z => absurd z (fun y => y c1))))))
        first | exact c_has_n0 i0 (And.intro (fun z => absurd rfl z) (fun _ => key)) | exact c_has_n1 (kS hq) i0 i1 (And.intro (fun z => absurd rfl z) (fun _ => key))
  all_goals
    have hM : sg_Mid L xs I n s (192, 2, 0, [.ref 107, .int x, .int y, .int v], []) (-1000000001) kt I J T n s := by
      refine ⟨h13, rfl, ?_⟩
      refine am_wq_T (cut := fun _ _ => false) (inl := fun z => !((Nat.beq z 189 || Nat.beq z 113))) 120 _ _ _ ?_
      first | exact m_isSheet_n0 a0 (And.intro (fun z => absurd rfl z) (fun _ => End_of rfl hS)) | exact m_isSheet_n1 a0 a1 (And.intro (fun z => absurd rfl z) (fun _ => End_of rfl hS))
    have key := hK _ _ _ _ _ _ _ hM
    refine am_wq_T (cut := fun _ _ => false) (inl := fun z => !((Nat.beq z 110 || Nat.beq z 36))) 120 _ _ _ ?_
    first | exact And.intro rfl (c_sheetAt_n0 a0 (And.intro (fun _ => key) (fun z => absurd rfl z))) | exact And.intro rfl (c_sheetAt_n1 a0 a1 (And.intro (fun _ => key) (fun z => absurd rfl z)))
end T78
