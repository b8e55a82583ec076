/-! reads -/
section T80
variable {kt : Nat → Nat × Nat} {I I' : Nat → Nat → Int32} {J J' : Nat → Nat → Int64} {T T' : Nat → Nat → Nat} {n s : Nat} {L : Nat} {xs : Nat → Int32} {K : Option Value → am_M → Prop} {N N' S : Nat → Int32} {hc wc tc h w q size : Nat}
theorem idx_lt {c i : Nat} {A B : Int32} (hA : A = nI c) (hB : B = nI c) (hc : c < 1000000) (hi : i < c) : ¬ nI i < 0 ∧ ¬ A ≤ nI i ∧ ¬ B - 1 < nI i := by
  rcases idx_cases hA hB hc (nI i) with ⟨t, ht, e, a0, a1, a2⟩ | a0 | ⟨a0, a1, a2⟩
  · rw [e]; exact ⟨a0, a1, a2⟩
  · exact absurd a0 (nI_nlt (a := i) (b := 0) (by omega) (by omega))
  · rw [hA] at a1
    exact absurd a1 (nI_ge hi (by omega))
theorem idx_ge {c i : Nat} {A B : Int32} (hA : A = nI c) (hB : B = nI c) (hc : c < 1000000) (hi : c ≤ i) (h2 : i < 1000000) : ¬ nI i < 0 ∧ A ≤ nI i ∧ B - 1 < nI i := by
  rcases idx_cases hA hB hc (nI i) with ⟨t, ht, e, a0, a1, a2⟩ | a0 | ⟨a0, a1, a2⟩
  · have := (nI_eq (by omega) (by omega)).mp e
    omega
  · exact absurd a0 (nI_nlt (a := i) (b := 0) (by omega) (by omega))
  · exact ⟨a0, a1, a2⟩
/-- a place that differs -/
def rdP (N S : Nat → Int32) (q hc i : Nat) : Prop := ¬ S (24 * q + i) = -1000000005 ∧ (i < hc → ¬ N (21 + 5 * i + 2) = S (24 * q + i))
theorem c_reads_1 {i : Nat} {v : Value} (hq : q < 4) (hz : size ≤ 24) (s3 : I (79 + 2 * q) 1 = nI size) (s5 : ∀ k, k < 24 → I (80 + 2 * q) k = S (24 * q + k)) (hR : sg_LR kt I T n 21 N hc wc tc) (hi : i < size) (h1 : rdP N S q hc i → K (some (.int (nI i))) (am_mk kt I J T n s)) (h0 : ¬ rdP N S q hc i → ∀ v, am_T am_C (94, 2, 26, [.ref 20, .int (nI q), .ref (79 + 2 * q), .int (nI (i + 1)), v], []) (am_mk kt I J T n s) K) : am_T am_C (94, 2, 26, [.ref 20, .int (nI q), .ref (79 + 2 * q), .int (nI i), v], []) (am_mk kt I J T n s) K := by
  have h10 := hR.1
  have e1 : I 21 1 = nI hc := hR.2.2.2.2.2.2.1
  have e2 : N 1 = nI hc := hR.2.2.2.1
  have c1 : ¬ I (79 + 2 * q) 1 ≤ nI i := by rw [s3]; exact nI_ge hi (by omega)
  rw [nI_succ] at h0
  by_cases c : S (24 * q + i) = -1000000005
  · have key := h0 (fun z => z.1 c)
    have hv : i < size → I (80 + 2 * q) i = -1000000005 := fun _ => by rw [s5 i (by omega)]; exact c
    by_cases d : i < hc
    · have a := idx_lt e1 e2 (by omega) d
      have vi : vp_in (nI i) 10 := vpl (by omega) (by decide)
      refine am_wq_T (cut := fun z pc => (Nat.beq z 94 && Nat.beq pc 26)) (inl := fun z => !((Nat.beq z 15 || Nat.beq z 38))) 120 _ _ _ ?_
      exact And.intro (kS hq) (And.intro (fun z => absurd z c1) (fun _ => And.intro rfl (And.intro rfl (c_find_y a.1 a.2.1 (by omega) vi (And.intro (kS hq) (c_isNum_n hq hz s3 (by omega) hv (And.intro (fun _ => key _) (fun z => absurd rfl z))))))))
    · have a := idx_ge (i := i) e1 e2 (by omega) (by omega) (by omega)
      refine am_wq_T (cut := fun z pc => (Nat.beq z 94 && Nat.beq pc 26)) (inl := fun z => !((Nat.beq z 15 || Nat.beq z 38))) 120 _ _ _ ?_
      exact And.intro (kS hq) (And.intro (fun z => absurd z c1) (fun _ => And.intro rfl (And.intro rfl (c_find_n1 a.1 a.2.1 (And.intro (kS hq) (c_isNum_n hq hz s3 (by omega) hv (And.intro (fun _ => key _) (fun z => absurd rfl z))))))))
  · have hv : ¬ I (80 + 2 * q) i = -1000000005 := by rw [s5 i (by omega)]; exact c
    by_cases d : i < hc
    · have a := idx_lt e1 e2 (by omega) d
      have vi : vp_in (nI i) 10 := vpl (by omega) (by decide)
      have hnz : ¬ 27 + i = 0 := by omega
      have er2 : am_R (am_k kt, I, J, am_r T, n, s) (79 + 2 * q) 2 = 80 + 2 * q := rS2 hq
      have k2 : (am_k kt (80 + 2 * q)).1 = 20 := by rw [kS2 hq]
      have v24 : vp_in (nI i) (am_k kt (80 + 2 * q)).2 := by rw [kS2 hq]; exact vpl (by omega) (by decide)
      have hd : I (27 + i) 2 = N (21 + 5 * i + 2) := hR.2.2.2.2.2.2.2.2.2.1 i d 2 (by decide)
      have ev : I (80 + 2 * q) (nI i).toNatClampNeg = S (24 * q + i) := by rw [nI_clamp (by omega)]; exact s5 i (by omega)
      refine am_wq_T (cut := fun z pc => (Nat.beq z 94 && Nat.beq pc 26)) (inl := fun z => !((Nat.beq z 15 || Nat.beq z 38))) 120 _ _ _ ?_
      refine And.intro (kS hq) (And.intro (fun z => absurd z c1) (fun _ => And.intro rfl (And.intro rfl (c_find_y a.1 a.2.1 (by omega) vi (And.intro (kS hq) (c_isNum_y hq hz s3 hi hv (And.intro (fun z => absurd z m1z) (fun _ => And.intro (fun z => absurd z hnz) (fun _ => And.intro (kL21 (by omega)) (And.intro (kS hq) ?_))))))))))
      rw [er2]
      refine And.intro ⟨k2, v24⟩ (And.intro (fun z => ?_) (fun z => ?_))
      · exact h0 (fun y => y.2 d (hd.symm.trans (z.trans ev))) _
      · exact h1 ⟨c, fun _ y => z (hd.trans (y.trans ev.symm))⟩
    · have a := idx_ge (i := i) e1 e2 (by omega) (by omega) (by omega)
      have key := h1 ⟨c, fun z => absurd z d⟩
      refine am_wq_T (cut := fun z pc => (Nat.beq z 94 && Nat.beq pc 26)) (inl := fun z => !((Nat.beq z 15 || Nat.beq z 38))) 120 _ _ _ ?_
      exact And.intro (kS hq) (And.intro (fun z => absurd z c1) (fun _ => And.intro rfl (And.intro rfl (c_find_n1 a.1 a.2.1 (And.intro (kS hq) (c_isNum_y hq hz s3 hi hv (And.intro (fun z => absurd z m1z) (fun _ => And.intro (fun _ => key) (fun z => absurd rfl z)))))))))
theorem c_reads_e {v : Value} (hq : q < 4) (hz : size ≤ 24) (s3 : I (79 + 2 * q) 1 = nI size) (hK : K (some (.int (-1000000005))) (am_mk kt I J T n s)) : am_T am_C (94, 2, 26, [.ref 20, .int (nI q), .ref (79 + 2 * q), .int (nI size), v], []) (am_mk kt I J T n s) K := by
  have c1 : I (79 + 2 * q) 1 ≤ nI size := by rw [s3]; exact nI_le (Nat.le_refl _) (by omega)
  refine am_wq_T (cut := fun z pc => (Nat.beq z 94 && Nat.beq pc 26)) (inl := fun z => !((Nat.beq z 15 || Nat.beq z 38))) 120 _ _ _ ?_
  exact And.intro (kS hq) (And.intro (fun _ => hK) (fun z => absurd c1 z))
theorem m_reads_1 {i : Nat} {v : Value} (hq : q < 4) (hz : size ≤ 24) (h10 : hc ≤ 10) (s4 : I 126 q = nI size) (e2 : I 108 1 = nI hc) (hi : i < size) (h1 : rdP (I 108) (I 127) q hc i → K (some (.int (nI i))) (am_mk kt I J T n s)) (h0 : ¬ rdP (I 108) (I 127) q hc i → ∀ v, am_T am_C (194, 2, 24, [.ref 107, .int (nI q), .int (nI (i + 1)), v], []) (am_mk kt I J T n s) K) : am_T am_C (194, 2, 24, [.ref 107, .int (nI q), .int (nI i), v], []) (am_mk kt I J T n s) K := by
  have vq : vp_in (nI q) 4 := vpl hq (by decide)
  have e126 : I 126 (nI q).toNatClampNeg = nI size := by rw [nI_clamp (by omega)]; exact s4
  have c1 : ¬ I 126 (nI q).toNatClampNeg ≤ nI i := by rw [e126]; exact nI_ge hi (by omega)
  have v1 : vp_in (24 * nI q + nI i) 96 := vpS hq (by omega)
  have ev : I 127 (24 * nI q + nI i).toNatClampNeg = I 127 (24 * q + i) := by rw [ixS (by omega) (by omega)]
  rw [nI_succ] at h0
  by_cases c : I 127 (24 * q + i) = -1000000005
  · have c' : I 127 (24 * nI q + nI i).toNatClampNeg = -1000000005 := ev.trans c
    have key := h0 (fun z => z.1 c)
    refine am_wq_T (cut := fun z pc => (Nat.beq z 194 && Nat.beq pc 24)) (inl := fun z => !((Nat.beq z 117 || Nat.beq z 121))) 120 _ _ _ ?_
    exact And.intro rfl (And.intro ⟨rfl, vq⟩ (And.intro (fun z => absurd z c1) (fun _ => And.intro rfl (And.intro ⟨rfl, v1⟩ (And.intro (fun _ => key _) (fun z => absurd c' z))))))
  · have c' : ¬ I 127 (24 * nI q + nI i).toNatClampNeg = -1000000005 := by rw [ev]; exact c
    by_cases d : i < hc
    · have a := idx_lt e2 e2 (by omega) d
      refine am_wq_T (cut := fun z pc => (Nat.beq z 194 && Nat.beq pc 24)) (inl := fun z => !((Nat.beq z 117 || Nat.beq z 121))) 120 _ _ _ ?_
      refine And.intro rfl (And.intro ⟨rfl, vq⟩ (And.intro (fun z => absurd z c1) (fun _ => And.intro rfl (And.intro ⟨rfl, v1⟩ (And.intro (fun z => absurd z c') (fun _ => And.intro rfl (m_isHole_y a.1 a.2.2 (And.intro (fun z => absurd z m1z) (fun _ => And.intro rfl (m_ofV (N := I 108) (h := i) (w := 2) rfl rfl rfl (by omega) (by decide) rfl (And.intro (fun z => ?_) (fun z => ?_))))))))))))
      · exact h0 (fun y => y.2 d (z.symm.trans ev)) _
      · exact h1 ⟨c, fun _ y => z (ev.trans y.symm)⟩
    · have a := idx_ge (i := i) e2 e2 (by omega) (by omega) (by omega)
      have key := h1 ⟨c, fun z => absurd z d⟩
      refine am_wq_T (cut := fun z pc => (Nat.beq z 194 && Nat.beq pc 24)) (inl := fun z => !((Nat.beq z 117 || Nat.beq z 121))) 120 _ _ _ ?_
      exact And.intro rfl (And.intro ⟨rfl, vq⟩ (And.intro (fun z => absurd z c1) (fun _ => And.intro rfl (And.intro ⟨rfl, v1⟩ (And.intro (fun z => absurd z c') (fun _ => And.intro rfl (m_isHole_n1 a.1 a.2.2 (And.intro (fun _ => key) (fun z => absurd rfl z)))))))))
theorem m_reads_e {v : Value} (hq : q < 4) (hz : size ≤ 24) (s4 : I 126 q = nI size) (hK : K (some (.int (-1000000005))) (am_mk kt I J T n s)) : am_T am_C (194, 2, 24, [.ref 107, .int (nI q), .int (nI size), v], []) (am_mk kt I J T n s) K := by
  have vq : vp_in (nI q) 4 := vpl hq (by decide)
  have e126 : I 126 (nI q).toNatClampNeg = nI size := by rw [nI_clamp (by omega)]; exact s4
  have c1 : I 126 (nI q).toNatClampNeg ≤ nI size := by rw [e126]; exact nI_le (Nat.le_refl _) (by omega)
  refine am_wq_T (cut := fun z pc => (Nat.beq z 194 && Nat.beq pc 24)) (inl := fun z => !((Nat.beq z 117 || Nat.beq z 121))) 120 _ _ _ ?_
  exact And.intro rfl (And.intro ⟨rfl, vq⟩ (And.intro (fun _ => hK) (fun z => absurd c1 z)))
/-- the answer: the first place that differs, or none -/
theorem c_reads_l {v : Int32} (hq : q < 4) (hz : size ≤ 24) (s3 : I (79 + 2 * q) 1 = nI size) (s5 : ∀ k, k < 24 → I (80 + 2 * q) k = S (24 * q + k)) (hR : sg_LR kt I T n 21 N hc wc tc) (hP : (∃ r, r < size ∧ v = nI r ∧ rdP N S q hc r ∧ ∀ i, i < r → ¬ rdP N S q hc i) ∨ (v = -1000000005 ∧ ∀ i, i < size → ¬ rdP N S q hc i)) (hK : K (some (.int v)) (am_mk kt I J T n s)) : ∀ (j i : Nat) (u : Value), i + j = size → (∀ k, k < i → ¬ rdP N S q hc k) → am_T am_C (94, 2, 26, [.ref 20, .int (nI q), .ref (79 + 2 * q), .int (nI i), u], []) (am_mk kt I J T n s) K
  | 0, i, u, hi, hn => by
    have : i = size := by omega
    subst this
    rcases hP with ⟨r, r1, r2, r3, r4⟩ | ⟨r2, r3⟩
    · exact absurd r3 (hn r r1)
    · rw [r2] at hK
      exact c_reads_e hq hz s3 hK
  | j + 1, i, u, hi, hn => by
    refine c_reads_1 hq hz s3 s5 hR (by omega) (fun p => ?_) (fun p v => ?_)
    · rcases hP with ⟨r, r1, r2, r3, r4⟩ | ⟨r2, r3⟩
      · have : r = i := by
          rcases Nat.lt_trichotomy r i with z | z | z
          · exact absurd r3 (hn r z)
          · exact z
          · exact absurd p (r4 i z)
        rw [← this, ← r2]; exact hK
      · exact absurd p (r3 i (by omega))
    · exact c_reads_l hq hz s3 s5 hR hP hK j (i + 1) v (by omega) (fun k hk => by
        by_cases e : k = i
        · subst e; exact p
        · exact hn k (by omega))
theorem m_reads_l {v : Int32} (hq : q < 4) (hz : size ≤ 24) (h10 : hc ≤ 10) (s4 : I 126 q = nI size) (e2 : I 108 1 = nI hc) (hP : (∃ r, r < size ∧ v = nI r ∧ rdP (I 108) (I 127) q hc r ∧ ∀ i, i < r → ¬ rdP (I 108) (I 127) q hc i) ∨ (v = -1000000005 ∧ ∀ i, i < size → ¬ rdP (I 108) (I 127) q hc i)) (hK : K (some (.int v)) (am_mk kt I J T n s)) : ∀ (j i : Nat) (u : Value), i + j = size → (∀ k, k < i → ¬ rdP (I 108) (I 127) q hc k) → am_T am_C (194, 2, 24, [.ref 107, .int (nI q), .int (nI i), u], []) (am_mk kt I J T n s) K
  | 0, i, u, hi, hn => by
    have : i = size := by omega
    subst this
    rcases hP with ⟨r, r1, r2, r3, r4⟩ | ⟨r2, r3⟩
    · exact absurd r3 (hn r r1)
    · rw [r2] at hK
      exact m_reads_e hq hz s4 hK
  | j + 1, i, u, hi, hn => by
    refine m_reads_1 hq hz h10 s4 e2 (by omega) (fun p => ?_) (fun p v => ?_)
    · rcases hP with ⟨r, r1, r2, r3, r4⟩ | ⟨r2, r3⟩
      · have : r = i := by
          rcases Nat.lt_trichotomy r i with z | z | z
          · exact absurd r3 (hn r z)
          · exact z
          · exact absurd p (r4 i z)
        rw [← this, ← r2]; exact hK
      · exact absurd p (r3 i (by omega))
    · exact m_reads_l hq hz h10 s4 e2 hP hK j (i + 1) v (by omega) (fun k hk => by
        by_cases e : k = i
        · subst e; exact p
        · exact hn k (by omega))
theorem L_reads (x : Int32) : sg_Call (94, 2, 0, [.ref 20, .int x, .null, .null, .null], []) (194, 2, 0, [.ref 107, .int x, .null, .null], []) := by
  intro L xs kt I J T n s K hS hK
  have h13 := hS.1.2.2.2.1
  obtain ⟨hc, wc, tc, hR, hB⟩ := hS.2.1
  have h10 := hR.1
  rcases rng x 0 3 with ⟨a0, a1⟩ | a0 | ⟨a0, a1⟩
  · obtain ⟨q, hq3, rfl⟩ := in_of (m := 3) (by decide) a0 a1
    have hq : q < 4 := by omega
    have v4 : vp_in (nI q) 4 := vpl hq (by decide)
    have cq : (nI q).toNatClampNeg = q := nI_clamp (by omega)
    have hnz : ¬ 79 + 2 * q = 0 := by omega
    obtain ⟨size, hz, s1, s2, s3, s4, s5⟩ := hS.2.2.2.2.1 q hq
    by_cases km : I 125 q = -1
    · have c1 : I (79 + 2 * q) 0 = -1 := s1.trans km
      have c2 : ¬ 0 ≤ I 125 (nI q).toNatClampNeg := by rw [cq, km]; decide
      have hM : sg_Mid L xs I n s (194, 2, 0, [.ref 107, .int (nI q), .null, .null], []) (-1000000011) kt I J T n s := by
        refine ⟨h13, rfl, ?_⟩
        refine am_wq_T (cut := fun z pc => (Nat.beq z 194 && Nat.beq pc 24)) (inl := fun z => !(Nat.beq z 189)) 120 _ _ _ ?_
        exact m_isSheet_y a0 a1 (And.intro (fun _ => And.intro rfl (And.intro ⟨rfl, v4⟩ (And.intro (fun z => absurd z c2) (fun _ => End_of rfl hS)))) (fun z => absurd m1z z))
      have key := hK _ _ _ _ _ _ _ hM
      refine am_wq_T (cut := fun z pc => (Nat.beq z 94 && Nat.beq pc 26)) (inl := fun z => !(Nat.beq z 110)) 120 _ _ _ ?_
      exact And.intro rfl (c_sheetAt_y hq a0 a1 (And.intro (fun z => absurd z hnz) (fun _ => And.intro (kS hq) (And.intro (fun z => absurd c1 z) (fun _ => key)))))
    · have c1 : ¬ I (79 + 2 * q) 0 = -1 := by rw [s1]; exact km
      have kp : 0 ≤ I 125 q := by rcases kind3 s2 with e | e | e; exact absurd e km; all_goals rw [e]; decide
      have c2 : 0 ≤ I 125 (nI q).toNatClampNeg := by rw [cq]; exact kp
      have hP : ∃ v, (∃ r, r < size ∧ v = nI r ∧ rdP (I 108) (I 127) q hc r ∧ ∀ i, i < r → ¬ rdP (I 108) (I 127) q hc i) ∨ (v = -1000000005 ∧ ∀ i, i < size → ¬ rdP (I 108) (I 127) q hc i) := by
        rcases fst_of (rdP (I 108) (I 127) q hc) size with ⟨r, r1, r2, r3⟩ | r
        · exact ⟨nI r, .inl ⟨r, r1, rfl, r2, r3⟩⟩
        · exact ⟨_, .inr ⟨rfl, r⟩⟩
      obtain ⟨v, hP⟩ := hP
      have hM : sg_Mid L xs I n s (194, 2, 0, [.ref 107, .int (nI q), .null, .null], []) v kt I J T n s := by
        refine ⟨h13, rfl, ?_⟩
        have k2 := m_reads_l (kt := kt) (J := J) (T := T) (n := n) (s := s) (K := sg_End L xs n s v) hq hz h10 s4 hR.2.2.2.1 hP (End_of rfl hS) size 0
        refine am_wq_T (cut := fun z pc => (Nat.beq z 194 && Nat.beq pc 24)) (inl := fun z => !(Nat.beq z 189)) 120 _ _ _ ?_
        exact m_isSheet_y a0 a1 (And.intro (fun _ => And.intro rfl (And.intro ⟨rfl, v4⟩ (And.intro (fun _ => k2 _ (by omega) (fun k hk => absurd hk (Nat.not_lt_zero k))) (fun z => absurd c2 z)))) (fun z => absurd m1z z))
      have key := c_reads_l (J := J) (s := s) hq hz s3 (fun k hk => (s5 k hk).1) hR hP (hK _ _ _ _ _ _ _ hM) size 0
      refine am_wq_T (cut := fun z pc => (Nat.beq z 94 && Nat.beq pc 26)) (inl := fun z => !(Nat.beq z 110)) 120 _ _ _ ?_
      exact And.intro rfl (c_sheetAt_y hq a0 a1 (And.intro (fun z => absurd z hnz) (fun _ => And.intro (kS hq) (And.intro (fun _ => key _ (by omega) (fun k hk => absurd hk (Nat.not_lt_zero k))) (fun z => absurd c1 z)))))
  all_goals
    have hM : sg_Mid L xs I n s (194, 2, 0, [.ref 107, .int x, .null, .null], []) (-1000000001) kt I J T n s := by
      refine ⟨h13, rfl, ?_⟩
      refine am_wq_T (cut := fun z pc => (Nat.beq z 194 && Nat.beq pc 24)) (inl := fun z => !(Nat.beq z 189)) 120 _ _ _ ?_
      first | exact m_isSheet_n0 a0 (And.intro (fun z => absurd rfl z) (fun _ => End_of rfl hS)) | exact m_isSheet_n1 a0 a1 (And.intro (fun z => absurd rfl z) (fun _ => End_of rfl hS))
    have key := hK _ _ _ _ _ _ _ hM
    refine am_wq_T (cut := fun z pc => (Nat.beq z 94 && Nat.beq pc 26)) (inl := fun z => !(Nat.beq z 110)) 120 _ _ _ ?_
    first | exact And.intro rfl (c_sheetAt_n0 a0 (And.intro (fun _ => key) (fun z => absurd rfl z))) | exact And.intro rfl (c_sheetAt_n1 a0 a1 (And.intro (fun _ => key) (fun z => absurd rfl z)))
end T80
