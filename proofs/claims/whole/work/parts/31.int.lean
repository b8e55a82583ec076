section T31
variable {kt : Nat → Nat × Nat} {I : Nat → Nat → Int32} {J : Nat → Nat → Int64} {T : Nat → Nat → Nat} {n s : Nat} {K : Option Value → am_M → Prop}
/-- an int within bounds that are written out -/
theorem in_of {x : Int32} {m : Nat} (hm : m < 2147483648) (h1 : ¬ x < 0) (h2 : ¬ nI m < x) : ∃ k : Nat, k ≤ m ∧ x = nI k := by
  obtain ⟨j, hj, rfl⟩ := nI_of h1
  exact ⟨j, by rcases Nat.lt_or_ge m j with q | q; exact absurd (nI_lt q hj) h2; exact q, rfl⟩
/-- a row, copied up to i -/
def cpN (dst src : Nat → Int32) (i : Nat) : Nat → Int32 := fun k => if k < i then src k else dst k
theorem cp_step (I : Nat → Nat → Int32) (a : Nat) (src : Nat → Int32) (i : Nat) (h : i < 2147483648) : am_up (am_row I a (cpN (I a) src i)) a (nI i).toNatClampNeg (src (nI i).toNatClampNeg) = am_row I a (cpN (I a) src (i + 1)) := by
  rw [nI_clamp h]
  funext b j
  unfold am_up am_row cpN
  by_cases hb : b = a
  · by_cases hj : j = i
    · subst hj; simp [hb]
    · simp only [hb, hj, and_false, if_false, if_true]
      by_cases h1 : j < i
      · rw [if_pos h1, if_pos (by omega)]
      · rw [if_neg h1, if_neg (by omega)]
  · simp [hb]
theorem cp_0 (I : Nat → Nat → Int32) (a : Nat) (src : Nat → Int32) : am_row I a (cpN (I a) src 0) = I := by
  funext b j
  unfold am_row cpN
  by_cases hb : b = a
  · subst hb; simp
  · simp [hb]
theorem m_put {h w : Nat} {x y v : Int32} (hx : x = nI h) (hy : y = nI w) (hh : h ≤ 10) (hw : w < 5) (hK : K none (am_mk kt (am_up I 108 (21 + 5 * h + w) v) J T n s)) : am_T am_C (122, 0, 0, [.ref 107, .int x, .int y, .int v], []) (am_mk kt I J T n s) K := by
  subst hx; subst hy
  refine am_wq_T (cut := fun _ _ => false) (inl := fun _ => true) 20 _ _ _ ?_
  refine And.intro rfl (And.intro ⟨rfl, ?_⟩ ?_)
  · show vp_in (21 + 5 * nI h + nI w) 1448
    rw [ix_of]
    exact vp_in_nI (by omega) (by omega)
  · show K none (am_mk kt (am_up I 108 (21 + 5 * nI h + nI w).toNatClampNeg v) J T n s)
    rw [ix_of, nI_clamp (by omega)]
    exact hK
/-- the first holes' depths, together -/
def dz (N : Nat → Int32) : Nat → Int32
  | 0 => 0
  | h + 1 => dz N h + N (23 + 5 * h)
theorem m_depth_loop {hc : Nat} (hN : I 108 1 = nI hc) (hhc : hc ≤ 11) : ∀ k i, i + k = hc → K (some (.int (dz (I 108) hc))) (am_mk kt I J T n s) → am_T am_C (156, 1, 4, [.ref 107, .int (dz (I 108) i), .int (nI i)], []) (am_mk kt I J T n s) K := by
  intro k
  induction k with
  | zero =>
    intro i hi hK
    have hi : i = hc := by omega
    subst hi
    refine am_wq_T (cut := fun z pc => Nat.beq z 156 && Nat.beq pc 4) (inl := fun z => Nat.beq z 9999) 60 _ _ _ ?_
    refine And.intro rfl (And.intro ⟨rfl, vpl (k := 1) (N := 1448) (by decide) (by decide)⟩ (And.intro (fun h => ?_) (fun h => ?_)))
    · exact hK
    · exact absurd (show nI i ≥ I 108 1 by rw [hN]; exact nI_le (Nat.le_refl _) (by omega)) h
  | succ k ih =>
    intro i hi hK
    refine am_wq_T (cut := fun z pc => Nat.beq z 156 && Nat.beq pc 4) (inl := fun z => Nat.beq z 9999) 60 _ _ _ ?_
    refine And.intro rfl (And.intro ⟨rfl, vpl (k := 1) (N := 1448) (by decide) (by decide)⟩ (And.intro (fun h => ?_) (fun h => ?_)))
    · exact absurd (show I 108 1 ≤ nI i from h) (by rw [hN]; exact nI_ge (by omega) (by omega))
    · refine And.intro rfl ?_
      refine m_of (x := nI i) (y := 2) (h := i) (w := 2) rfl rfl (by omega) (by decide) ?_
      have key := ih (i + 1) (by omega) hK
      rw [nI_succ i, show dz (I 108) (i + 1) = dz (I 108) i + I 108 (21 + 5 * i + 2) from by
        show dz (I 108) i + I 108 (23 + 5 * i) = _
        rw [show 21 + 5 * i + 2 = 23 + 5 * i by omega]] at key
      exact key
theorem m_depth {hc : Nat} (hN : I 108 1 = nI hc) (hhc : hc ≤ 11) (hK : K (some (.int (dz (I 108) hc))) (am_mk kt I J T n s)) : am_T am_C (156, 1, 0, [.ref 107, .null, .null], []) (am_mk kt I J T n s) K := by
  refine am_wq_T (cut := fun z pc => Nat.beq z 156 && Nat.beq pc 4) (inl := fun z => Nat.beq z 9999) 60 _ _ _ ?_
  exact m_depth_loop hN hhc hc 0 (by omega) hK
theorem m_filled {hc : Nat} (hN : I 108 1 = nI hc) (hhc : hc ≤ 11) (hK : K (some (.int (nI (cz (I 108) hc)))) (am_mk kt I J T n s)) : am_T am_C (155, 1, 0, [.ref 107, .null, .null], []) (am_mk kt I J T n s) K := by
  refine am_wq_T (cut := fun z pc => Nat.beq z 155 && Nat.beq pc 4) (inl := fun z => Nat.beq z 9999) 60 _ _ _ ?_
  exact m_filled_loop hN hhc hc 0 (by omega) hK
/-- what an owner owes -/
def oz (N : Nat → Int32) (o : Int32) : Nat → Int32
  | 0 => 0
  | h + 1 => oz N o h + if N (24 + 5 * h) = o then N (23 + 5 * h) else 0
theorem m_owed_loop {hc : Nat} {o : Int32} (hN : I 108 1 = nI hc) (hhc : hc ≤ 11) : ∀ k i, i + k = hc → K (some (.int (oz (I 108) o hc))) (am_mk kt I J T n s) → am_T am_C (165, 1, 4, [.ref 107, .int o, .int (oz (I 108) o i), .int (nI i)], []) (am_mk kt I J T n s) K := by
  intro k
  induction k with
  | zero =>
    intro i hi hK
    have hi : i = hc := by omega
    subst hi
    refine am_wq_T (cut := fun z pc => Nat.beq z 165 && Nat.beq pc 4) (inl := fun z => Nat.beq z 9999) 60 _ _ _ ?_
    refine And.intro rfl (And.intro ⟨rfl, vpl (k := 1) (N := 1448) (by decide) (by decide)⟩ (And.intro (fun h => ?_) (fun h => ?_)))
    · exact hK
    · exact absurd (show nI i ≥ I 108 1 by rw [hN]; exact nI_le (Nat.le_refl _) (by omega)) h
  | succ k ih =>
    intro i hi hK
    refine am_wq_T (cut := fun z pc => Nat.beq z 165 && Nat.beq pc 4) (inl := fun z => Nat.beq z 9999) 60 _ _ _ ?_
    refine And.intro rfl (And.intro ⟨rfl, vpl (k := 1) (N := 1448) (by decide) (by decide)⟩ (And.intro (fun h => ?_) (fun h => ?_)))
    · exact absurd (show I 108 1 ≤ nI i from h) (by rw [hN]; exact nI_ge (by omega) (by omega))
    · refine And.intro rfl ?_
      refine m_of (x := nI i) (y := 3) (h := i) (w := 3) rfl rfl (by omega) (by decide) ?_
      have key := ih (i + 1) (by omega) hK
      rw [nI_succ i] at key
      refine And.intro (fun h => ?_) (fun h => ?_)
      · rw [show oz (I 108) o (i + 1) = oz (I 108) o i + 0 from by
          show oz (I 108) o i + (if I 108 (24 + 5 * i) = o then I 108 (23 + 5 * i) else 0) = _
          rw [if_neg (show ¬ I 108 (24 + 5 * i) = o by rw [show 24 + 5 * i = 21 + 5 * i + 3 by omega]; exact h)]] at key
        exact key
      · refine And.intro rfl ?_
        refine m_of (x := nI i) (y := 2) (h := i) (w := 2) rfl rfl (by omega) (by decide) ?_
        rw [show oz (I 108) o (i + 1) = oz (I 108) o i + I 108 (21 + 5 * i + 2) from by
          show oz (I 108) o i + (if I 108 (24 + 5 * i) = o then I 108 (23 + 5 * i) else 0) = _
          rw [if_pos (show I 108 (24 + 5 * i) = o by rw [show 24 + 5 * i = 21 + 5 * i + 3 by omega]; exact Classical.not_not.mp h), show 21 + 5 * i + 2 = 23 + 5 * i by omega]] at key
        exact key
theorem m_owed {hc : Nat} {o : Int32} (hN : I 108 1 = nI hc) (hhc : hc ≤ 11) (hK : K (some (.int (oz (I 108) o hc))) (am_mk kt I J T n s)) : am_T am_C (165, 1, 0, [.ref 107, .int o, .null, .null], []) (am_mk kt I J T n s) K := by
  refine am_wq_T (cut := fun z pc => Nat.beq z 165 && Nat.beq pc 4) (inl := fun z => Nat.beq z 9999) 60 _ _ _ ?_
  exact m_owed_loop hN hhc hc 0 (by omega) hK
theorem m_draw (hK : K (some (.int ((I 108 0 * 1103515245 + 12345).toUInt32 >>> ((8 : Int32).toUInt32 &&& Int32.toUInt32 31)).toInt32)) (am_mk kt (am_up I 108 0 (I 108 0 * 1103515245 + 12345)) J T n s)) : am_T am_C (136, 0, 0, [.ref 107], []) (am_mk kt I J T n s) K := by
  refine am_wq_T (cut := fun _ _ => false) (inl := fun _ => true) 40 _ _ _ ?_
  have h0 : vp_in 0 1448 := vpl (k := 0) (N := 1448) (by decide) (by decide)
  refine And.intro rfl (And.intro rfl (And.intro ⟨rfl, h0⟩ (And.intro ⟨rfl, h0⟩ (And.intro rfl (And.intro ⟨rfl, h0⟩ ?_)))))
  exact hK
theorem m_earth {x : Int32} (hK : K (some (.int (x * I 108 4 / 100))) (am_mk kt I J T n s)) : am_T am_C (139, 0, 0, [.ref 107, .int x], []) (am_mk kt I J T n s) K := by
  refine am_wq_T (cut := fun _ _ => false) (inl := fun _ => true) 40 _ _ _ ?_
  refine And.intro rfl (And.intro ⟨rfl, vpl (k := 4) (N := 1448) (by decide) (by decide)⟩ (And.intro (by decide) ?_))
  exact hK
/-- places apart -/
def apt (a b : Int32) : Int32 := if 0 ≤ a - b then a - b else -(a - b)
theorem m_apart {h : Nat} {x y : Int32} (hx : x = nI h) (hh : h ≤ 10) (hK : K (some (.int (apt (I 108 (21 + 5 * h + 1)) y))) (am_mk kt I J T n s)) : am_T am_C (140, 1, 0, [.ref 107, .int x, .int y, .null], []) (am_mk kt I J T n s) K := by
  refine am_wq_T (cut := fun _ _ => false) (inl := fun z => Nat.beq z 9999) 40 _ _ _ ?_
  refine And.intro rfl ?_
  refine m_of (x := x) (y := 1) (h := h) (w := 1) hx rfl hh (by decide) ?_
  unfold apt at hK
  refine And.intro (fun q => ?_) (fun q => ?_)
  · rw [if_pos q] at hK; exact hK
  · rw [if_neg q] at hK; exact hK
theorem m_thinks_loop : ∀ k i, i + k = 76 → K none (am_mk kt (am_row I 115 (cpN (I 115) (I 108) 76)) J T n s) → am_T am_C (160, 0, 2, [.ref 107, .int (nI i)], []) (am_mk kt (am_row I 115 (cpN (I 115) (I 108) i)) J T n s) K := by
  intro k
  induction k with
  | zero =>
    intro i hi hK
    have hi : i = 76 := by omega
    subst hi
    refine am_wq_T (cut := fun z pc => Nat.beq z 160 && Nat.beq pc 2) (inl := fun z => Nat.beq z 9999) 60 _ _ _ ?_
    refine And.intro (fun h => ?_) (fun h => ?_)
    · exact hK
    · exact absurd (show nI 76 ≤ nI 76 from nI_le (Nat.le_refl _) (by decide)) h
  | succ k ih =>
    intro i hi hK
    refine am_wq_T (cut := fun z pc => Nat.beq z 160 && Nat.beq pc 2) (inl := fun z => Nat.beq z 9999) 60 _ _ _ ?_
    refine And.intro (fun h => ?_) (fun h => ?_)
    · exact absurd (show nI 76 ≤ nI i from h) (nI_ge (by omega) (by decide))
    · have key := ih (i + 1) (by omega) hK
      rw [nI_succ i, ← cp_step I 115 (I 108) i (by omega)] at key
      refine And.intro rfl (And.intro rfl (And.intro ⟨rfl, vpl (k := i) (N := 1448) (by omega) (by decide)⟩ (And.intro ⟨rfl, vpl (k := i) (N := 76) (by omega) (by decide)⟩ ?_)))
      exact key
theorem m_thinks (hK : K none (am_mk kt (am_row I 115 (cpN (I 115) (I 108) 76)) J T n s)) : am_T am_C (160, 0, 0, [.ref 107, .null], []) (am_mk kt I J T n s) K := by
  refine am_wq_T (cut := fun z pc => Nat.beq z 160 && Nat.beq pc 2) (inl := fun z => Nat.beq z 9999) 60 _ _ _ ?_
  have key := m_thinks_loop (I := I) 76 0 (by decide) hK
  rw [cp_0] at key
  exact key
end T31
