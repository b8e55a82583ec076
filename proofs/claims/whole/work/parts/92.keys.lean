/-! which key -/
section T92
variable {kt : Nat → Nat × Nat} {I I' I0 : Nat → Nat → Int32} {J J' : Nat → Nat → Int64} {T T' : Nat → Nat → Nat} {n s : Nat} {K : Option Value → am_M → Prop} {B : Nat → Int32} {len a e key : Nat} {g : Int32}
def lnK (j : Nat) : Nat := [3, 6, 4].getD j 0
def stK (j : Nat) : Nat := [0, 3, 9].getD j 0
def kyW (j i : Nat) : Int32 := sg_keys (stK j + i)
/-- the word from here to there is that key -/
def kyP (B : Nat → Int32) (a e j : Nat) : Prop := e - a = lnK j ∧ ∀ i, i < lnK j → B (a + i) = kyW j i
theorem kyW_c : ∀ j, j < 3 → ∀ i, i < 6 → i < lnK j → ((kyW j i &&& 255).toUInt32 % 65536).toInt32 = kyW j i ∧ (kyW j i).toUInt32.toUInt16.toUInt32.toInt32 = kyW j i := by decide +kernel
theorem am_F_ky (xs : Nat → Int32) : ∀ j, j < 3 → ∀ i, i < 6 → i < lnK j → am_fI xs (7 + j) i = kyW j i := by
  intro j hj i hi h
  have k : ∀ j, j < 3 → ∀ i, i < 6 → i < lnK j → am_fI (fun _ => 0) (7 + j) i = kyW j i := by decide +kernel
  have q := k j hj i hi h
  unfold am_fI at q ⊢
  rw [if_pos (by omega)] at q ⊢
  exact q
theorem c_len1 (hK : K (some (.int (nI 3))) (am_mk kt I J T n s)) : am_T am_C (205, 1, 0, [.ref 1], []) (am_mk kt I J T n s) K := by
  have kk : K (some (.int ((Int32.ofNat 3) >>> ((0 : Int32) &&& 31)))) (am_mk kt I J T n s) := by
    rw [show (Int32.ofNat 3) >>> ((0 : Int32) &&& 31) = nI 3 from by decide]
    exact hK
  refine am_wq_T (cut := fun _ _ => false) (inl := fun _ => true) 120 _ _ _ ?_
  exact And.intro ⟨by decide, by decide⟩ (And.intro rfl (And.intro rfl (And.intro (fun z => absurd z m1z) (fun _ => And.intro ⟨by decide, by decide⟩ (And.intro rfl kk)))))
theorem c_chr1 {i : Nat} {c : Int32} (hi : i < 3) (hb : I 7 i = c) (h1 : ((c &&& 255).toUInt32 % 65536).toInt32 = c) (h2 : c.toUInt32.toUInt16.toUInt32.toInt32 = c) (hK : K (some (.int c)) (am_mk kt I J T n s)) : am_T am_C (206, 3, 0, [.ref 1, .int (nI i)], []) (am_mk kt I J T n s) K := by
  have ci : (nI i).toNatClampNeg = i := nI_clamp (by omega)
  rw [← ci] at hb
  have i0 : ¬ nI i < 0 := nI_nlt (a := i) (b := 0) (by omega) (by omega)
  have i1 : nI i < Int32.ofNat 3 := nI_lt (b := 3) hi (by decide)
  have vi : vp_in (nI i) 3 := vpl hi (by decide)
  have ev : ((I 7 (nI i).toNatClampNeg &&& 255).toUInt32 % 65536).toInt32 = c := by rw [hb]; exact h1
  have en : narrow .char (.int ((I 7 (nI i).toNatClampNeg &&& 255).toUInt32 % 65536).toInt32) = .int ((I 7 (nI i).toNatClampNeg &&& 255).toUInt32 % 65536).toInt32 := by
    rw [ev]
    show Value.int (c.toUInt32.toUInt16.toUInt32.toInt32) = .int c
    rw [h2]
  rw [← ev] at hK
  refine am_wq_T (cut := fun _ _ => false) (inl := fun _ => true) 120 _ _ _ ?_
  exact And.intro rfl (And.intro (fun z => absurd z m1z) (fun _ => And.intro ⟨by decide, by decide⟩ (And.intro (fun z => absurd rfl z) (fun _ => And.intro rfl (And.intro (fun z => absurd z m1z) (fun _ => And.intro ⟨by decide, by decide⟩ (And.intro rfl (And.intro (fun z => absurd z i0) (fun _ => And.intro (fun _ => And.intro ⟨rfl, vi⟩ (And.intro en (And.intro en hK))) (fun z => absurd i1 z))))))))))
theorem c_here1_l (hT : tpB I0 B len) (hs : scR I0 I a e g) (hae : a + 3 ≤ len) (hF : ∀ i, i < 3 → I 7 i = kyW 0 i) (h1 : (∀ i, i < 3 → B (a + i) = kyW 0 i) → K (some (.int 1)) (am_mk kt I J T n s)) (h0 : ¬ (∀ i, i < 3 → B (a + i) = kyW 0 i) → K (some (.int 0)) (am_mk kt I J T n s)) : ∀ (k i : Nat), i + k = 3 → (∀ m, m < i → B (a + m) = kyW 0 m) → am_T am_C (46, 4, 30, [.ref 72, .ref 1, .int (nI i)], []) (am_mk kt I J T n s) K := by
  have h96 := hT.1
  intro k
  induction k with
  | zero =>
    intro i hi hm
    have : i = 3 := by omega
    subst this
    have c1 : nI 3 ≤ nI 3 := by decide
    have kk := h1 hm
    refine am_wq_T (cut := fun z pc => (Nat.beq z 46 && Nat.beq pc 30)) (inl := fun z => !((Nat.beq z 205 || Nat.beq z 206))) 120 _ _ _ ?_
    exact And.intro rfl (c_len1 (And.intro (fun _ => And.intro rfl kk) (fun z => absurd c1 z)))
  | succ k ih =>
    intro i hi hm
    have c1 : ¬ nI 3 ≤ nI i := nI_ge (by omega) (by decide)
    have e2 : I 72 2 + nI i = nI (a + i) := by rw [hs.2.2.1, nI_add]
    have v1 : vp_in (I 72 2 + nI i) 96 := by rw [e2]; exact vpl (by omega) (by decide)
    have eb : I 73 (I 72 2 + nI i).toNatClampNeg = B (a + i) := by rw [e2]; exact scR_B hT hs (by omega)
    have ky := kyW_c 0 (by decide) i (by omega) (show i < 3 by omega)
    by_cases c : B (a + i) = kyW 0 i
    · have c2 : I 73 (I 72 2 + nI i).toNatClampNeg = kyW 0 i := eb.trans c
      have kk := ih (i + 1) (by omega) (fun m h => by
        by_cases e1 : m = i
        · rw [e1]; exact c
        · exact hm m (by omega))
      rw [nI_succ] at kk
      refine am_wq_T (cut := fun z pc => (Nat.beq z 46 && Nat.beq pc 30)) (inl := fun z => !((Nat.beq z 205 || Nat.beq z 206))) 120 _ _ _ ?_
      exact And.intro rfl (c_len1 (And.intro (fun z => absurd z c1) (fun _ => And.intro rfl (And.intro rfl (And.intro ⟨rfl, v1⟩ (And.intro rfl (c_chr1 (c := kyW 0 i) (by omega) (hF i (by omega)) ky.1 ky.2 (And.intro (fun _ => kk) (fun z => absurd c2 z)))))))))
    · have c2 : ¬ I 73 (I 72 2 + nI i).toNatClampNeg = kyW 0 i := by rw [eb]; exact c
      have kk := h0 (fun z => c (z i (by omega)))
      refine am_wq_T (cut := fun z pc => (Nat.beq z 46 && Nat.beq pc 30)) (inl := fun z => !((Nat.beq z 205 || Nat.beq z 206))) 120 _ _ _ ?_
      exact And.intro rfl (c_len1 (And.intro (fun z => absurd z c1) (fun _ => And.intro rfl (And.intro rfl (And.intro ⟨rfl, v1⟩ (And.intro rfl (c_chr1 (c := kyW 0 i) (by omega) (hF i (by omega)) ky.1 ky.2 (And.intro (fun z => absurd z c2) (fun _ => And.intro rfl kk)))))))))
theorem c_here1 (hT : tpB I0 B len) (hs : scR I0 I a e g) (hae : a ≤ e) (hel : e ≤ len) (hF : ∀ i, i < 3 → I 7 i = kyW 0 i) (h1 : g = 256 → kyP B a e 0 → K (some (.int 1)) (am_mk kt I J T n s)) (h0 : ¬ (g = 256 ∧ kyP B a e 0) → K (some (.int 0)) (am_mk kt I J T n s)) : am_T am_C (46, 4, 0, [.ref 72, .ref 1, .null], []) (am_mk kt I J T n s) K := by
  have h96 := hT.1
  by_cases c : g = 256
  · have c4 : ¬ ¬ I 72 4 = 256 := fun z => z (hs.2.2.2.2.trans c)
    have ed : I 72 3 - I 72 2 = nI (e - a) := by rw [hs.2.2.2.1, hs.2.2.1]; exact nI_subI hae
    by_cases d : e - a = 3
    · have d4 : I 72 3 - I 72 2 = nI 3 := by rw [ed, d]
      have loop := c_here1_l (kt := kt) (J := J) (T := T) (n := n) (s := s) (K := K) hT hs (by omega) hF (fun z => h1 c ⟨d, z⟩) (fun z => h0 (fun y => z y.2.2)) 3 0 (by decide) (fun m hm => absurd hm (Nat.not_lt_zero m))
      refine am_wq_T (cut := fun z pc => (Nat.beq z 46 && Nat.beq pc 30)) (inl := fun z => !((Nat.beq z 205 || Nat.beq z 206))) 120 _ _ _ ?_
      exact And.intro rfl (And.intro (fun z => absurd z c4) (fun _ => And.intro rfl (And.intro rfl (And.intro rfl (c_len1 (And.intro (fun _ => loop) (fun z => absurd d4 z)))))))
    · have d4 : ¬ I 72 3 - I 72 2 = nI 3 := by rw [ed]; exact fun z => d ((nI_eq (by omega) (by decide)).mp z)
      have kk := h0 (fun y => d y.2.1)
      refine am_wq_T (cut := fun z pc => (Nat.beq z 46 && Nat.beq pc 30)) (inl := fun z => !((Nat.beq z 205 || Nat.beq z 206))) 120 _ _ _ ?_
      exact And.intro rfl (And.intro (fun z => absurd z c4) (fun _ => And.intro rfl (And.intro rfl (And.intro rfl (c_len1 (And.intro (fun z => absurd z d4) (fun _ => And.intro rfl kk)))))))
  · have c4 : ¬ I 72 4 = 256 := by rw [hs.2.2.2.2]; exact c
    have kk := h0 (fun y => c y.1)
    refine am_wq_T (cut := fun z pc => (Nat.beq z 46 && Nat.beq pc 30)) (inl := fun z => !((Nat.beq z 205 || Nat.beq z 206))) 120 _ _ _ ?_
    exact And.intro rfl (And.intro (fun _ => And.intro rfl kk) (fun z => absurd c4 z))
theorem c_len2 (hK : K (some (.int (nI 6))) (am_mk kt I J T n s)) : am_T am_C (205, 1, 0, [.ref 2], []) (am_mk kt I J T n s) K := by
  have kk : K (some (.int ((Int32.ofNat 6) >>> ((0 : Int32) &&& 31)))) (am_mk kt I J T n s) := by
    rw [show (Int32.ofNat 6) >>> ((0 : Int32) &&& 31) = nI 6 from by decide]
    exact hK
  refine am_wq_T (cut := fun _ _ => false) (inl := fun _ => true) 120 _ _ _ ?_
  exact And.intro ⟨by decide, by decide⟩ (And.intro rfl (And.intro rfl (And.intro (fun z => absurd z m1z) (fun _ => And.intro ⟨by decide, by decide⟩ (And.intro rfl kk)))))
theorem c_chr2 {i : Nat} {c : Int32} (hi : i < 6) (hb : I 8 i = c) (h1 : ((c &&& 255).toUInt32 % 65536).toInt32 = c) (h2 : c.toUInt32.toUInt16.toUInt32.toInt32 = c) (hK : K (some (.int c)) (am_mk kt I J T n s)) : am_T am_C (206, 3, 0, [.ref 2, .int (nI i)], []) (am_mk kt I J T n s) K := by
  have ci : (nI i).toNatClampNeg = i := nI_clamp (by omega)
  rw [← ci] at hb
  have i0 : ¬ nI i < 0 := nI_nlt (a := i) (b := 0) (by omega) (by omega)
  have i1 : nI i < Int32.ofNat 6 := nI_lt (b := 6) hi (by decide)
  have vi : vp_in (nI i) 6 := vpl hi (by decide)
  have ev : ((I 8 (nI i).toNatClampNeg &&& 255).toUInt32 % 65536).toInt32 = c := by rw [hb]; exact h1
  have en : narrow .char (.int ((I 8 (nI i).toNatClampNeg &&& 255).toUInt32 % 65536).toInt32) = .int ((I 8 (nI i).toNatClampNeg &&& 255).toUInt32 % 65536).toInt32 := by
    rw [ev]
    show Value.int (c.toUInt32.toUInt16.toUInt32.toInt32) = .int c
    rw [h2]
  rw [← ev] at hK
  refine am_wq_T (cut := fun _ _ => false) (inl := fun _ => true) 120 _ _ _ ?_
  exact And.intro rfl (And.intro (fun z => absurd z m1z) (fun _ => And.intro ⟨by decide, by decide⟩ (And.intro (fun z => absurd rfl z) (fun _ => And.intro rfl (And.intro (fun z => absurd z m1z) (fun _ => And.intro ⟨by decide, by decide⟩ (And.intro rfl (And.intro (fun z => absurd z i0) (fun _ => And.intro (fun _ => And.intro ⟨rfl, vi⟩ (And.intro en (And.intro en hK))) (fun z => absurd i1 z))))))))))
theorem c_here2_l (hT : tpB I0 B len) (hs : scR I0 I a e g) (hae : a + 6 ≤ len) (hF : ∀ i, i < 6 → I 8 i = kyW 1 i) (h1 : (∀ i, i < 6 → B (a + i) = kyW 1 i) → K (some (.int 1)) (am_mk kt I J T n s)) (h0 : ¬ (∀ i, i < 6 → B (a + i) = kyW 1 i) → K (some (.int 0)) (am_mk kt I J T n s)) : ∀ (k i : Nat), i + k = 6 → (∀ m, m < i → B (a + m) = kyW 1 m) → am_T am_C (46, 4, 30, [.ref 72, .ref 2, .int (nI i)], []) (am_mk kt I J T n s) K := by
  have h96 := hT.1
  intro k
  induction k with
  | zero =>
    intro i hi hm
    have : i = 6 := by omega
    subst this
    have c1 : nI 6 ≤ nI 6 := by decide
    have kk := h1 hm
    refine am_wq_T (cut := fun z pc => (Nat.beq z 46 && Nat.beq pc 30)) (inl := fun z => !((Nat.beq z 205 || Nat.beq z 206))) 120 _ _ _ ?_
    exact And.intro rfl (c_len2 (And.intro (fun _ => And.intro rfl kk) (fun z => absurd c1 z)))
  | succ k ih =>
    intro i hi hm
    have c1 : ¬ nI 6 ≤ nI i := nI_ge (by omega) (by decide)
    have e2 : I 72 2 + nI i = nI (a + i) := by rw [hs.2.2.1, nI_add]
    have v1 : vp_in (I 72 2 + nI i) 96 := by rw [e2]; exact vpl (by omega) (by decide)
    have eb : I 73 (I 72 2 + nI i).toNatClampNeg = B (a + i) := by rw [e2]; exact scR_B hT hs (by omega)
    have ky := kyW_c 1 (by decide) i (by omega) (show i < 6 by omega)
    by_cases c : B (a + i) = kyW 1 i
    · have c2 : I 73 (I 72 2 + nI i).toNatClampNeg = kyW 1 i := eb.trans c
      have kk := ih (i + 1) (by omega) (fun m h => by
        by_cases e1 : m = i
        · rw [e1]; exact c
        · exact hm m (by omega))
      rw [nI_succ] at kk
      refine am_wq_T (cut := fun z pc => (Nat.beq z 46 && Nat.beq pc 30)) (inl := fun z => !((Nat.beq z 205 || Nat.beq z 206))) 120 _ _ _ ?_
      exact And.intro rfl (c_len2 (And.intro (fun z => absurd z c1) (fun _ => And.intro rfl (And.intro rfl (And.intro ⟨rfl, v1⟩ (And.intro rfl (c_chr2 (c := kyW 1 i) (by omega) (hF i (by omega)) ky.1 ky.2 (And.intro (fun _ => kk) (fun z => absurd c2 z)))))))))
    · have c2 : ¬ I 73 (I 72 2 + nI i).toNatClampNeg = kyW 1 i := by rw [eb]; exact c
      have kk := h0 (fun z => c (z i (by omega)))
      refine am_wq_T (cut := fun z pc => (Nat.beq z 46 && Nat.beq pc 30)) (inl := fun z => !((Nat.beq z 205 || Nat.beq z 206))) 120 _ _ _ ?_
      exact And.intro rfl (c_len2 (And.intro (fun z => absurd z c1) (fun _ => And.intro rfl (And.intro rfl (And.intro ⟨rfl, v1⟩ (And.intro rfl (c_chr2 (c := kyW 1 i) (by omega) (hF i (by omega)) ky.1 ky.2 (And.intro (fun z => absurd z c2) (fun _ => And.intro rfl kk)))))))))
theorem c_here2 (hT : tpB I0 B len) (hs : scR I0 I a e g) (hae : a ≤ e) (hel : e ≤ len) (hF : ∀ i, i < 6 → I 8 i = kyW 1 i) (h1 : g = 256 → kyP B a e 1 → K (some (.int 1)) (am_mk kt I J T n s)) (h0 : ¬ (g = 256 ∧ kyP B a e 1) → K (some (.int 0)) (am_mk kt I J T n s)) : am_T am_C (46, 4, 0, [.ref 72, .ref 2, .null], []) (am_mk kt I J T n s) K := by
  have h96 := hT.1
  by_cases c : g = 256
  · have c4 : ¬ ¬ I 72 4 = 256 := fun z => z (hs.2.2.2.2.trans c)
    have ed : I 72 3 - I 72 2 = nI (e - a) := by rw [hs.2.2.2.1, hs.2.2.1]; exact nI_subI hae
    by_cases d : e - a = 6
    · have d4 : I 72 3 - I 72 2 = nI 6 := by rw [ed, d]
      have loop := c_here2_l (kt := kt) (J := J) (T := T) (n := n) (s := s) (K := K) hT hs (by omega) hF (fun z => h1 c ⟨d, z⟩) (fun z => h0 (fun y => z y.2.2)) 6 0 (by decide) (fun m hm => absurd hm (Nat.not_lt_zero m))
      refine am_wq_T (cut := fun z pc => (Nat.beq z 46 && Nat.beq pc 30)) (inl := fun z => !((Nat.beq z 205 || Nat.beq z 206))) 120 _ _ _ ?_
      exact And.intro rfl (And.intro (fun z => absurd z c4) (fun _ => And.intro rfl (And.intro rfl (And.intro rfl (c_len2 (And.intro (fun _ => loop) (fun z => absurd d4 z)))))))
    · have d4 : ¬ I 72 3 - I 72 2 = nI 6 := by rw [ed]; exact fun z => d ((nI_eq (by omega) (by decide)).mp z)
      have kk := h0 (fun y => d y.2.1)
      refine am_wq_T (cut := fun z pc => (Nat.beq z 46 && Nat.beq pc 30)) (inl := fun z => !((Nat.beq z 205 || Nat.beq z 206))) 120 _ _ _ ?_
      exact And.intro rfl (And.intro (fun z => absurd z c4) (fun _ => And.intro rfl (And.intro rfl (And.intro rfl (c_len2 (And.intro (fun z => absurd z d4) (fun _ => And.intro rfl kk)))))))
  · have c4 : ¬ I 72 4 = 256 := by rw [hs.2.2.2.2]; exact c
    have kk := h0 (fun y => c y.1)
    refine am_wq_T (cut := fun z pc => (Nat.beq z 46 && Nat.beq pc 30)) (inl := fun z => !((Nat.beq z 205 || Nat.beq z 206))) 120 _ _ _ ?_
    exact And.intro rfl (And.intro (fun _ => And.intro rfl kk) (fun z => absurd c4 z))
theorem c_len3 (hK : K (some (.int (nI 4))) (am_mk kt I J T n s)) : am_T am_C (205, 1, 0, [.ref 3], []) (am_mk kt I J T n s) K := by
  have kk : K (some (.int ((Int32.ofNat 4) >>> ((0 : Int32) &&& 31)))) (am_mk kt I J T n s) := by
    rw [show (Int32.ofNat 4) >>> ((0 : Int32) &&& 31) = nI 4 from by decide]
    exact hK
  refine am_wq_T (cut := fun _ _ => false) (inl := fun _ => true) 120 _ _ _ ?_
  exact And.intro ⟨by decide, by decide⟩ (And.intro rfl (And.intro rfl (And.intro (fun z => absurd z m1z) (fun _ => And.intro ⟨by decide, by decide⟩ (And.intro rfl kk)))))
theorem c_chr3 {i : Nat} {c : Int32} (hi : i < 4) (hb : I 9 i = c) (h1 : ((c &&& 255).toUInt32 % 65536).toInt32 = c) (h2 : c.toUInt32.toUInt16.toUInt32.toInt32 = c) (hK : K (some (.int c)) (am_mk kt I J T n s)) : am_T am_C (206, 3, 0, [.ref 3, .int (nI i)], []) (am_mk kt I J T n s) K := by
  have ci : (nI i).toNatClampNeg = i := nI_clamp (by omega)
  rw [← ci] at hb
  have i0 : ¬ nI i < 0 := nI_nlt (a := i) (b := 0) (by omega) (by omega)
  have i1 : nI i < Int32.ofNat 4 := nI_lt (b := 4) hi (by decide)
  have vi : vp_in (nI i) 4 := vpl hi (by decide)
  have ev : ((I 9 (nI i).toNatClampNeg &&& 255).toUInt32 % 65536).toInt32 = c := by rw [hb]; exact h1
  have en : narrow .char (.int ((I 9 (nI i).toNatClampNeg &&& 255).toUInt32 % 65536).toInt32) = .int ((I 9 (nI i).toNatClampNeg &&& 255).toUInt32 % 65536).toInt32 := by
    rw [ev]
    show Value.int (c.toUInt32.toUInt16.toUInt32.toInt32) = .int c
    rw [h2]
  rw [← ev] at hK
  refine am_wq_T (cut := fun _ _ => false) (inl := fun _ => true) 120 _ _ _ ?_
  exact And.intro rfl (And.intro (fun z => absurd z m1z) (fun _ => And.intro ⟨by decide, by decide⟩ (And.intro (fun z => absurd rfl z) (fun _ => And.intro rfl (And.intro (fun z => absurd z m1z) (fun _ => And.intro ⟨by decide, by decide⟩ (And.intro rfl (And.intro (fun z => absurd z i0) (fun _ => And.intro (fun _ => And.intro ⟨rfl, vi⟩ (And.intro en (And.intro en hK))) (fun z => absurd i1 z))))))))))
theorem c_here3_l (hT : tpB I0 B len) (hs : scR I0 I a e g) (hae : a + 4 ≤ len) (hF : ∀ i, i < 4 → I 9 i = kyW 2 i) (h1 : (∀ i, i < 4 → B (a + i) = kyW 2 i) → K (some (.int 1)) (am_mk kt I J T n s)) (h0 : ¬ (∀ i, i < 4 → B (a + i) = kyW 2 i) → K (some (.int 0)) (am_mk kt I J T n s)) : ∀ (k i : Nat), i + k = 4 → (∀ m, m < i → B (a + m) = kyW 2 m) → am_T am_C (46, 4, 30, [.ref 72, .ref 3, .int (nI i)], []) (am_mk kt I J T n s) K := by
  have h96 := hT.1
  intro k
  induction k with
  | zero =>
    intro i hi hm
    have : i = 4 := by omega
    subst this
    have c1 : nI 4 ≤ nI 4 := by decide
    have kk := h1 hm
    refine am_wq_T (cut := fun z pc => (Nat.beq z 46 && Nat.beq pc 30)) (inl := fun z => !((Nat.beq z 205 || Nat.beq z 206))) 120 _ _ _ ?_
    exact And.intro rfl (c_len3 (And.intro (fun _ => And.intro rfl kk) (fun z => absurd c1 z)))
  | succ k ih =>
    intro i hi hm
    have c1 : ¬ nI 4 ≤ nI i := nI_ge (by omega) (by decide)
    have e2 : I 72 2 + nI i = nI (a + i) := by rw [hs.2.2.1, nI_add]
    have v1 : vp_in (I 72 2 + nI i) 96 := by rw [e2]; exact vpl (by omega) (by decide)
    have eb : I 73 (I 72 2 + nI i).toNatClampNeg = B (a + i) := by rw [e2]; exact scR_B hT hs (by omega)
    have ky := kyW_c 2 (by decide) i (by omega) (show i < 4 by omega)
    by_cases c : B (a + i) = kyW 2 i
    · have c2 : I 73 (I 72 2 + nI i).toNatClampNeg = kyW 2 i := eb.trans c
      have kk := ih (i + 1) (by omega) (fun m h => by
        by_cases e1 : m = i
        · rw [e1]; exact c
        · exact hm m (by omega))
      rw [nI_succ] at kk
      refine am_wq_T (cut := fun z pc => (Nat.beq z 46 && Nat.beq pc 30)) (inl := fun z => !((Nat.beq z 205 || Nat.beq z 206))) 120 _ _ _ ?_
      exact And.intro rfl (c_len3 (And.intro (fun z => absurd z c1) (fun _ => And.intro rfl (And.intro rfl (And.intro ⟨rfl, v1⟩ (And.intro rfl (c_chr3 (c := kyW 2 i) (by omega) (hF i (by omega)) ky.1 ky.2 (And.intro (fun _ => kk) (fun z => absurd c2 z)))))))))
    · have c2 : ¬ I 73 (I 72 2 + nI i).toNatClampNeg = kyW 2 i := by rw [eb]; exact c
      have kk := h0 (fun z => c (z i (by omega)))
      refine am_wq_T (cut := fun z pc => (Nat.beq z 46 && Nat.beq pc 30)) (inl := fun z => !((Nat.beq z 205 || Nat.beq z 206))) 120 _ _ _ ?_
      exact And.intro rfl (c_len3 (And.intro (fun z => absurd z c1) (fun _ => And.intro rfl (And.intro rfl (And.intro ⟨rfl, v1⟩ (And.intro rfl (c_chr3 (c := kyW 2 i) (by omega) (hF i (by omega)) ky.1 ky.2 (And.intro (fun z => absurd z c2) (fun _ => And.intro rfl kk)))))))))
theorem c_here3 (hT : tpB I0 B len) (hs : scR I0 I a e g) (hae : a ≤ e) (hel : e ≤ len) (hF : ∀ i, i < 4 → I 9 i = kyW 2 i) (h1 : g = 256 → kyP B a e 2 → K (some (.int 1)) (am_mk kt I J T n s)) (h0 : ¬ (g = 256 ∧ kyP B a e 2) → K (some (.int 0)) (am_mk kt I J T n s)) : am_T am_C (46, 4, 0, [.ref 72, .ref 3, .null], []) (am_mk kt I J T n s) K := by
  have h96 := hT.1
  by_cases c : g = 256
  · have c4 : ¬ ¬ I 72 4 = 256 := fun z => z (hs.2.2.2.2.trans c)
    have ed : I 72 3 - I 72 2 = nI (e - a) := by rw [hs.2.2.2.1, hs.2.2.1]; exact nI_subI hae
    by_cases d : e - a = 4
    · have d4 : I 72 3 - I 72 2 = nI 4 := by rw [ed, d]
      have loop := c_here3_l (kt := kt) (J := J) (T := T) (n := n) (s := s) (K := K) hT hs (by omega) hF (fun z => h1 c ⟨d, z⟩) (fun z => h0 (fun y => z y.2.2)) 4 0 (by decide) (fun m hm => absurd hm (Nat.not_lt_zero m))
      refine am_wq_T (cut := fun z pc => (Nat.beq z 46 && Nat.beq pc 30)) (inl := fun z => !((Nat.beq z 205 || Nat.beq z 206))) 120 _ _ _ ?_
      exact And.intro rfl (And.intro (fun z => absurd z c4) (fun _ => And.intro rfl (And.intro rfl (And.intro rfl (c_len3 (And.intro (fun _ => loop) (fun z => absurd d4 z)))))))
    · have d4 : ¬ I 72 3 - I 72 2 = nI 4 := by rw [ed]; exact fun z => d ((nI_eq (by omega) (by decide)).mp z)
      have kk := h0 (fun y => d y.2.1)
      refine am_wq_T (cut := fun z pc => (Nat.beq z 46 && Nat.beq pc 30)) (inl := fun z => !((Nat.beq z 205 || Nat.beq z 206))) 120 _ _ _ ?_
      exact And.intro rfl (And.intro (fun z => absurd z c4) (fun _ => And.intro rfl (And.intro rfl (And.intro rfl (c_len3 (And.intro (fun z => absurd z d4) (fun _ => And.intro rfl kk)))))))
  · have c4 : ¬ I 72 4 = 256 := by rw [hs.2.2.2.2]; exact c
    have kk := h0 (fun y => c y.1)
    refine am_wq_T (cut := fun z pc => (Nat.beq z 46 && Nat.beq pc 30)) (inl := fun z => !((Nat.beq z 205 || Nat.beq z 206))) 120 _ _ _ ?_
    exact And.intro rfl (And.intro (fun _ => And.intro rfl kk) (fun z => absurd c4 z))
/-- which key stands here: 3 is none -/
noncomputable def kyV (B : Nat → Int32) (a e : Nat) (g : Int32) : Nat := @ite Nat (g = 256 ∧ kyP B a e 0) (Classical.propDecidable _) 0 (@ite Nat (g = 256 ∧ kyP B a e 1) (Classical.propDecidable _) 1 (@ite Nat (g = 256 ∧ kyP B a e 2) (Classical.propDecidable _) 2 3))
theorem kyV_0 (h : g = 256 ∧ kyP B a e 0) : kyV B a e g = 0 := @if_pos _ (Classical.propDecidable _) h _ _ _
theorem kyV_1 (h0 : ¬ (g = 256 ∧ kyP B a e 0)) (h : g = 256 ∧ kyP B a e 1) : kyV B a e g = 1 := (@if_neg _ (Classical.propDecidable _) h0 _ _ _).trans (@if_pos _ (Classical.propDecidable _) h _ _ _)
theorem kyV_2 (h0 : ¬ (g = 256 ∧ kyP B a e 0)) (h1 : ¬ (g = 256 ∧ kyP B a e 1)) (h : g = 256 ∧ kyP B a e 2) : kyV B a e g = 2 := (@if_neg _ (Classical.propDecidable _) h0 _ _ _).trans ((@if_neg _ (Classical.propDecidable _) h1 _ _ _).trans (@if_pos _ (Classical.propDecidable _) h _ _ _))
theorem kyV_3 (h0 : ¬ (g = 256 ∧ kyP B a e 0)) (h1 : ¬ (g = 256 ∧ kyP B a e 1)) (h : ¬ (g = 256 ∧ kyP B a e 2)) : kyV B a e g = 3 := (@if_neg _ (Classical.propDecidable _) h0 _ _ _).trans ((@if_neg _ (Classical.propDecidable _) h1 _ _ _).trans (@if_neg _ (Classical.propDecidable _) h _ _ _))
theorem c_key (hT : tpB I0 B len) (hs : scR I0 I a e g) (hae : a ≤ e) (hel : e ≤ len) (hF : ∀ j, j < 3 → ∀ i, i < lnK j → I (7 + j) i = kyW j i) (hK : K (some (.int (if kyV B a e g = 3 then -1 else nI (kyV B a e g)))) (am_mk kt I J T n s)) : am_T am_C (45, 5, 0, [.ref 72], []) (am_mk kt I J T n s) K := by
  refine am_wq_T (cut := fun _ _ => false) (inl := fun z => !(Nat.beq z 46)) 120 _ _ _ ?_
  refine And.intro rfl (c_here1 hT hs hae hel (hF 0 (by decide)) (fun y1 y2 => ?_) (fun n0 => ?_))
  · rw [kyV_0 ⟨y1, y2⟩, if_neg (by decide)] at hK
    exact And.intro (fun z => absurd z m1z) (fun _ => hK)
  refine And.intro (fun _ => And.intro rfl (c_here2 hT hs hae hel (hF 1 (by decide)) (fun y1 y2 => ?_) (fun n1 => ?_))) (fun z => absurd rfl z)
  · rw [kyV_1 n0 ⟨y1, y2⟩, if_neg (by decide)] at hK
    exact And.intro (fun z => absurd z m1z) (fun _ => hK)
  refine And.intro (fun _ => And.intro rfl (c_here3 hT hs hae hel (hF 2 (by decide)) (fun y1 y2 => ?_) (fun n2 => ?_))) (fun z => absurd rfl z)
  · rw [kyV_2 n0 n1 ⟨y1, y2⟩, if_neg (by decide)] at hK
    exact And.intro (fun z => absurd z m1z) (fun _ => hK)
  · rw [kyV_3 n0 n1 n2, if_pos rfl] at hK
    exact And.intro (fun _ => hK) (fun z => absurd rfl z)
end T92
