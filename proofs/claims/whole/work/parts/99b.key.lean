/-! the reference reads a text -/
section T99b
variable {kt : Nat → Nat × Nat} {I I' I0 : Nat → Nat → Int32} {J J' : Nat → Nat → Int64} {T T' : Nat → Nat → Nat} {n s : Nat} {K : Option Value → am_M → Prop} {B : Nat → Int32} {len key a e : Nat} {tk vl en g : Int32}
theorem ky_at : ∀ j, j < 3 → sg_keyAt j = nI (stK j) ∧ sg_keyAt (j + 1) = nI (stK j + lnK j) ∧ stK j + lnK j ≤ 13 ∧ 0 < lnK j ∧ lnK j ≤ 6 := by decide +kernel
theorem m_ky_0 {x1 x2 x4 : Value} {k m : Int32} (h : ∀ v4, am_T am_C (175, 2, 106, [.ref 107, x1, .int m, .int 0, v4], []) (am_mk kt I J T n s) K) : am_T am_C (175, 2, 55, [.ref 107, x1, .int m, .int 0, .int k], []) (am_mk kt I J T n s) K := by
  refine am_wq_T (cut := fun z pc => ((Nat.beq z 175 && Nat.beq pc 12) || ((Nat.beq z 175 && Nat.beq pc 55) || (Nat.beq z 175 && Nat.beq pc 106)))) (inl := fun z => !(Nat.beq z 174)) 120 _ _ _ ?_
  exact And.intro (fun _ => h _) (fun _ => And.intro (fun _ => h _) (fun z => absurd rfl z))
theorem m_ky_l {j : Nat} (hj : j < 3) (hT : tpS I0 B len) (hs : rc I0 I (nI e) (nI a) tk vl en) (hae : a + lnK j ≤ len) (h118 : ∀ i, i < 13 → I0 118 i = sg_keys i) (h119 : ∀ i, i < 4 → I0 119 i = sg_keyAt i) (h1 : (∀ i, i < lnK j → B (a + i) = kyW j i) → ∀ v4, am_T am_C (175, 2, 106, [.ref 107, .int (nI j), .int (nI (lnK j)), .int 1, v4], []) (am_mk kt I J T n s) K) (h0 : ¬ (∀ i, i < lnK j → B (a + i) = kyW j i) → ∀ v4, am_T am_C (175, 2, 106, [.ref 107, .int (nI j), .int (nI (lnK j)), .int 0, v4], []) (am_mk kt I J T n s) K) : ∀ (m i : Nat), i + m = lnK j → (∀ x, x < i → B (a + x) = kyW j x) → am_T am_C (175, 2, 55, [.ref 107, .int (nI j), .int (nI (lnK j)), .int 1, .int (nI i)], []) (am_mk kt I J T n s) K := by
  have h96 := hT.1
  have ka := ky_at j hj
  intro m
  induction m with
  | zero =>
    intro i hi hm
    have : i = lnK j := by omega
    subst this
    have c1 : nI (lnK j) ≤ nI (lnK j) := nI_le (Nat.le_refl _) (by omega)
    have kk := h1 hm (.int (nI (lnK j)))
    refine am_wq_T (cut := fun z pc => ((Nat.beq z 175 && Nat.beq pc 12) || ((Nat.beq z 175 && Nat.beq pc 55) || (Nat.beq z 175 && Nat.beq pc 106)))) (inl := fun z => !(Nat.beq z 174)) 120 _ _ _ ?_
    exact And.intro (fun _ => kk) (fun z => absurd c1 z)
  | succ m ih =>
    intro i hi hm
    have c1 : ¬ nI (lnK j) ≤ nI i := nI_ge (by omega) (by omega)
    have e1 : I 107 13 + nI i = nI (a + i) := by rw [hs.2.2.2.1, nI_add]
    have v1 : vp_in (I 107 13 + nI i) 96 := by rw [e1]; exact vpl (by omega) (by decide)
    have eb : I 117 (I 107 13 + nI i).toNatClampNeg = B (a + i) := by rw [e1]; exact rc_B hT hs (by omega)
    have vj : vp_in (nI j) 4 := vpl (by omega) (by decide)
    have ej : I 119 (nI j).toNatClampNeg = nI (stK j) := by rw [nI_clamp (by omega), hs.1 119 (by omega), h119 j (by omega)]; exact ka.1
    have e2 : I 119 (nI j).toNatClampNeg + nI i = nI (stK j + i) := by rw [ej, nI_add]
    have v2 : vp_in (I 119 (nI j).toNatClampNeg + nI i) 13 := by rw [e2]; exact vpl (by omega) (by decide)
    have ek : I 118 (I 119 (nI j).toNatClampNeg + nI i).toNatClampNeg = kyW j i := by rw [e2, nI_clamp (by omega), hs.1 118 (by omega), h118 _ (by omega)]; rfl
    by_cases c : B (a + i) = kyW j i
    · have c2 : ¬ ¬ I 117 (I 107 13 + nI i).toNatClampNeg = I 118 (I 119 (nI j).toNatClampNeg + nI i).toNatClampNeg := fun z => z (by rw [eb, ek]; exact c)
      have kk := ih (i + 1) (by omega) (fun x hx => by
        by_cases u : x = i
        · rw [u]; exact c
        · exact hm x (by omega))
      rw [nI_succ] at kk
      refine am_wq_T (cut := fun z pc => ((Nat.beq z 175 && Nat.beq pc 12) || ((Nat.beq z 175 && Nat.beq pc 55) || (Nat.beq z 175 && Nat.beq pc 106)))) (inl := fun z => !(Nat.beq z 174)) 120 _ _ _ ?_
      exact And.intro (fun z => absurd z c1) (fun _ => And.intro (fun z => absurd z m1z) (fun _ => And.intro rfl (And.intro rfl (And.intro ⟨rfl, v1⟩ (And.intro rfl (And.intro rfl (And.intro ⟨rfl, vj⟩ (And.intro ⟨rfl, v2⟩ (And.intro (fun z => absurd z c2) (fun _ => kk))))))))))
    · have c2 : ¬ I 117 (I 107 13 + nI i).toNatClampNeg = I 118 (I 119 (nI j).toNatClampNeg + nI i).toNatClampNeg := by rw [eb, ek]; exact c
      have kk := fun k => m_ky_0 (kt := kt) (I := I) (J := J) (T := T) (n := n) (s := s) (K := K) (x1 := .int (nI j)) (x2 := .null) (x4 := .null) (m := nI (lnK j)) (k := k) (h0 (fun z => c (z i (by omega))))
      refine am_wq_T (cut := fun z pc => ((Nat.beq z 175 && Nat.beq pc 12) || ((Nat.beq z 175 && Nat.beq pc 55) || (Nat.beq z 175 && Nat.beq pc 106)))) (inl := fun z => !(Nat.beq z 174)) 120 _ _ _ ?_
      exact And.intro (fun z => absurd z c1) (fun _ => And.intro (fun z => absurd z m1z) (fun _ => And.intro rfl (And.intro rfl (And.intro ⟨rfl, v1⟩ (And.intro rfl (And.intro rfl (And.intro ⟨rfl, vj⟩ (And.intro ⟨rfl, v2⟩ (And.intro (fun _ => kk _) (fun z => absurd c2 z))))))))))
/-- one key: it is this, or on to the next -/
theorem m_ky_1 {j : Nat} {x2 x3 x4 : Value} (hj : j < 3) (hT : tpS I0 B len) (hs : rc I0 I (nI e) (nI a) tk vl en) (hae : a ≤ e) (hel : e ≤ len) (h118 : ∀ i, i < 13 → I0 118 i = sg_keys i) (h119 : ∀ i, i < 4 → I0 119 i = sg_keyAt i) (h1 : kyP B a e j → ∀ x2 v4, am_T am_C (175, 2, 106, [.ref 107, .int (nI j), x2, .int 1, v4], []) (am_mk kt I J T n s) K) (h0 : ¬ kyP B a e j → ∀ x2 x3 x4, am_T am_C (175, 2, 12, [.ref 107, .int (nI (j + 1)), x2, x3, x4], []) (am_mk kt I J T n s) K) : am_T am_C (175, 2, 12, [.ref 107, .int (nI j), x2, x3, x4], []) (am_mk kt I J T n s) K := by
  have h96 := hT.1
  have ka := ky_at j hj
  rw [nI_succ] at h0
  have c3 : ¬ (3 : Int32) ≤ nI j := nI_ge (b := 3) hj (by decide)
  have vj : vp_in (nI j) 4 := vpl (by omega) (by decide)
  have vj1 : vp_in (nI j + 1) 4 := by rw [nI_1]; exact vpl (by omega) (by decide)
  have ej : I 119 (nI j).toNatClampNeg = nI (stK j) := by rw [nI_clamp (by omega), hs.1 119 (by omega), h119 j (by omega)]; exact ka.1
  have ej1 : I 119 (nI j + 1).toNatClampNeg = nI (stK j + lnK j) := by rw [nI_1, nI_clamp (by omega), hs.1 119 (by omega), h119 (j + 1) (by omega)]; exact ka.2.1
  have el : I 119 (nI j + 1).toNatClampNeg - I 119 (nI j).toNatClampNeg = nI (lnK j) := by
    rw [ej, ej1, nI_subI (by omega), Nat.add_sub_cancel_left]
  have ed : I 107 12 - I 107 13 = nI (e - a) := by rw [hs.2.2.1, hs.2.2.2.1]; exact nI_subI hae
  have zero : ¬ kyP B a e j → ∀ x2 v4, am_T am_C (175, 2, 106, [.ref 107, .int (nI j), x2, .int 0, v4], []) (am_mk kt I J T n s) K := fun u x2 v4 => by
    have kk := h0 u x2 (.int 0) v4
    refine am_wq_T (cut := fun z pc => ((Nat.beq z 175 && Nat.beq pc 12) || ((Nat.beq z 175 && Nat.beq pc 55) || (Nat.beq z 175 && Nat.beq pc 106)))) (inl := fun z => !(Nat.beq z 174)) 120 _ _ _ ?_
    exact And.intro (fun _ => kk) (fun z => absurd rfl z)
  by_cases d : e - a = lnK j
  · have d2 : ¬ ¬ I 119 (nI j + 1).toNatClampNeg - I 119 (nI j).toNatClampNeg = I 107 12 - I 107 13 := fun z => z (by rw [el, ed, d])
    have loop := m_ky_l (kt := kt) (J := J) (T := T) (n := n) (s := s) (K := K) hj hT hs (by omega) h118 h119 (fun u v4 => h1 ⟨d, u⟩ _ v4) (fun u v4 => zero (fun y => u y.2) _ v4) (lnK j) 0 (by omega) (fun x hx => absurd hx (Nat.not_lt_zero x))
    rw [← el] at loop
    refine am_wq_T (cut := fun z pc => ((Nat.beq z 175 && Nat.beq pc 12) || ((Nat.beq z 175 && Nat.beq pc 55) || (Nat.beq z 175 && Nat.beq pc 106)))) (inl := fun z => !(Nat.beq z 174)) 120 _ _ _ ?_
    exact And.intro (fun z => absurd z c3) (fun _ => And.intro rfl (And.intro ⟨rfl, vj1⟩ (And.intro rfl (And.intro ⟨rfl, vj⟩ (And.intro rfl (And.intro rfl (And.intro (fun z => absurd z d2) (fun _ => loop))))))))
  · have d2 : ¬ I 119 (nI j + 1).toNatClampNeg - I 119 (nI j).toNatClampNeg = I 107 12 - I 107 13 := by
      rw [el, ed]
      exact fun z => d ((nI_eq (by omega) (by omega)).mp z).symm
    have kk := m_ky_0 (kt := kt) (I := I) (J := J) (T := T) (n := n) (s := s) (K := K) (x1 := .int (nI j)) (x2 := .null) (x4 := .null) (m := I 119 (nI j + 1).toNatClampNeg - I 119 (nI j).toNatClampNeg) (k := 0) (zero (fun y => d y.1) _)
    refine am_wq_T (cut := fun z pc => ((Nat.beq z 175 && Nat.beq pc 12) || ((Nat.beq z 175 && Nat.beq pc 55) || (Nat.beq z 175 && Nat.beq pc 106)))) (inl := fun z => !(Nat.beq z 174)) 120 _ _ _ ?_
    exact And.intro (fun z => absurd z c3) (fun _ => And.intro rfl (And.intro ⟨rfl, vj1⟩ (And.intro rfl (And.intro ⟨rfl, vj⟩ (And.intro rfl (And.intro rfl (And.intro (fun _ => kk) (fun z => absurd d2 z))))))))
theorem m_key (hT : tpS I0 B len) (hs : rc I0 I (nI e) (nI a) tk vl en) (ht : rsT B a e g tk vl) (hE : g ≠ -1 → g ≠ 258 → rsE e g en) (hae : a ≤ e) (hel : e ≤ len) (h118 : ∀ i, i < 13 → I0 118 i = sg_keys i) (h119 : ∀ i, i < 4 → I0 119 i = sg_keyAt i) (h0 : kyV B a e g = 3 → K (some (.int 0)) (am_mk kt I J T n s)) (h1 : ∀ I' tk' vl' en', kyV B a e g < 3 → rc (am_up I0 107 17 (nI (kyV B a e g))) I' (nI (tkn B len e (wd g)).2.1) (nI (tkn B len e (wd g)).1) tk' vl' en' → rsT B (tkn B len e (wd g)).1 (tkn B len e (wd g)).2.1 (tkn B len e (wd g)).2.2 tk' vl' → ((tkn B len e (wd g)).2.2 ≠ -1 → (tkn B len e (wd g)).2.2 ≠ 258 → rsE (tkn B len e (wd g)).2.1 (tkn B len e (wd g)).2.2 en') → K (some (.int 1)) (am_mk kt I' J T n s)) : am_T am_C (175, 2, 0, [.ref 107, .null, .null, .null, .null], []) (am_mk kt I J T n s) K := by
  have h96 := hT.1
  by_cases c : g = 256
  · have t1 : I 107 14 = 1 := by rw [hs.2.2.2.2.1]; exact (ht.2.1 c).1
    have yes : ∀ j, j < 3 → kyV B a e g = j → ∀ x2 v4, am_T am_C (175, 2, 106, [.ref 107, .int (nI j), x2, .int 1, v4], []) (am_mk kt I J T n s) K := fun j hj ej x2 v4 => by
      have hT' : tpS (am_up I0 107 17 (nI (kyV B a e g))) B len := ⟨hT.1, by rw [up_ne (by omega)]; exact hT.2.1, fun k hk => by rw [up_ne (by omega)]; exact hT.2.2 k hk⟩
      have hs' : rc (am_up I0 107 17 (nI (kyV B a e g))) (am_up I 107 17 (nI j)) (nI e) (nI a) tk vl en := by
        rw [ej]
        refine ⟨fun r hr => ?_, fun k hk => ?_, ?_, ?_, ?_, ?_, ?_⟩
        · rw [up_off hr, up_off hr]; exact hs.1 r hr
        · by_cases u : k = 17
          · subst u; rw [up_eq, up_eq]
          · rw [up_ne (by omega), up_ne (by omega)]; exact hs.2.1 k hk
        · rw [up_ne (by omega)]; exact hs.2.2.1
        · rw [up_ne (by omega)]; exact hs.2.2.2.1
        · rw [up_ne (by omega)]; exact hs.2.2.2.2.1
        · rw [up_ne (by omega)]; exact hs.2.2.2.2.2.1
        · rw [up_ne (by omega)]; exact hs.2.2.2.2.2.2
      refine am_wq_T (cut := fun z pc => ((Nat.beq z 175 && Nat.beq pc 12) || ((Nat.beq z 175 && Nat.beq pc 55) || (Nat.beq z 175 && Nat.beq pc 106)))) (inl := fun z => !(Nat.beq z 174)) 120 _ _ _ ?_
      exact And.intro (fun z => absurd z m1z) (fun _ => And.intro rfl (And.intro rfl (m_go hT' hel hs' (hE (by rw [c]; decide) (by rw [c]; decide)) fun I1 tk1 vl1 en1 b1 b2 b3 => And.intro rfl (h1 I1 tk1 vl1 en1 (by omega) b1 b2 b3))))
    have go0 : ∀ x2 x3 x4, am_T am_C (175, 2, 12, [.ref 107, .int (nI 0), x2, x3, x4], []) (am_mk kt I J T n s) K := fun x2 x3 x4 => by
      refine m_ky_1 (by decide) hT hs hae hel h118 h119 (fun y => yes 0 (by decide) (kyV_0 ⟨c, y⟩)) (fun n0 _ _ _ => ?_)
      refine m_ky_1 (by decide) hT hs hae hel h118 h119 (fun y => yes 1 (by decide) (kyV_1 (fun z => n0 z.2) ⟨c, y⟩)) (fun n1 _ _ _ => ?_)
      refine m_ky_1 (by decide) hT hs hae hel h118 h119 (fun y => yes 2 (by decide) (kyV_2 (fun z => n0 z.2) (fun z => n1 z.2) ⟨c, y⟩)) (fun n2 _ _ _ => ?_)
      have c3 : (3 : Int32) ≤ nI (0 + 1 + 1 + 1) := by decide
      have kk := h0 (kyV_3 (fun z => n0 z.2) (fun z => n1 z.2) (fun z => n2 z.2))
      refine am_wq_T (cut := fun z pc => ((Nat.beq z 175 && Nat.beq pc 12) || ((Nat.beq z 175 && Nat.beq pc 55) || (Nat.beq z 175 && Nat.beq pc 106)))) (inl := fun z => !(Nat.beq z 174)) 120 _ _ _ ?_
      exact And.intro (fun _ => And.intro rfl kk) (fun z => absurd c3 z)
    refine am_wq_T (cut := fun z pc => ((Nat.beq z 175 && Nat.beq pc 12) || ((Nat.beq z 175 && Nat.beq pc 55) || (Nat.beq z 175 && Nat.beq pc 106)))) (inl := fun z => !(Nat.beq z 174)) 120 _ _ _ ?_
    exact And.intro rfl (And.intro (fun _ => go0 _ _ _) (fun z => absurd t1 z))
  · have t1 : ¬ I 107 14 = 1 := by
      rw [hs.2.2.2.2.1]
      unfold rsT at ht
      obtain ⟨t0, -, t2, t3, t4⟩ := ht
      by_cases g0 : g = -1
      · rw [t0 g0]; decide
      by_cases g2 : g = 257
      · have q := t2 g2
        by_cases u : e - a ≤ 4
        · rw [if_pos u] at q; rw [q.1]; decide
        · rw [if_neg u] at q; rw [q]; decide
      by_cases g3 : g = 258
      · rw [t3 g3]; decide
      rw [(t4 g0 c g2 g3).1]; decide
    have kk := h0 (kyV_3 (fun z => c z.1) (fun z => c z.1) (fun z => c z.1))
    refine am_wq_T (cut := fun z pc => ((Nat.beq z 175 && Nat.beq pc 12) || ((Nat.beq z 175 && Nat.beq pc 55) || (Nat.beq z 175 && Nat.beq pc 106)))) (inl := fun z => !(Nat.beq z 174)) 120 _ _ _ ?_
    exact And.intro rfl (And.intro (fun z => absurd z t1) (fun _ => And.intro rfl kk))
end T99b
