section T30
variable {kt : Nat → Nat × Nat} {I : Nat → Nat → Int32} {J : Nat → Nat → Int64} {T : Nat → Nat → Nat} {n s : Nat} {K : Option Value → am_M → Prop}
theorem vpl {k N : Nat} (h : k < N) (h2 : N < 2147483648) : vp_in (nI k) N := vp_in_nI h h2
theorem ix_of (h w : Nat) : (21 : Int32) + 5 * nI h + nI w = nI (21 + 5 * h + w) := by
  rw [show (21 : Int32) = nI 21 from rfl, show (5 : Int32) = nI 5 from rfl, pk_mul, nI_add, nI_add]
theorem m_of {h w : Nat} {x y : Int32} (hx : x = nI h) (hy : y = nI w) (hh : h ≤ 10) (hw : w < 5) (hK : K (some (.int (I 108 (21 + 5 * h + w)))) (am_mk kt I J T n s)) : am_T am_C (121, 0, 0, [.ref 107, .int x, .int y], []) (am_mk kt I J T n s) K := by
  subst hx; subst hy
  refine am_wq_T (cut := fun _ _ => false) (inl := fun _ => true) 20 _ _ _ ?_
  refine And.intro rfl (And.intro ⟨rfl, ?_⟩ ?_)
  · show vp_in (21 + 5 * nI h + nI w) 1448
    rw [ix_of]
    exact vp_in_nI (by omega) (by omega)
  · show K (some (.int (I 108 (21 + 5 * nI h + nI w).toNatClampNeg))) _
    rw [ix_of, nI_clamp (by omega)]
    exact hK
/-- how many of the first holes are filled -/
def cz (N : Nat → Int32) : Nat → Nat
  | 0 => 0
  | h + 1 => cz N h + if N (23 + 5 * h) = 0 then 1 else 0
theorem cz_le (N : Nat → Int32) : ∀ h, cz N h ≤ h
  | 0 => Nat.le_refl _
  | h + 1 => by
    have := cz_le N h
    unfold cz
    split <;> omega
theorem m_filled_loop {hc : Nat} (hN : I 108 1 = nI hc) (hhc : hc ≤ 11) : ∀ k i, i + k = hc → K (some (.int (nI (cz (I 108) hc)))) (am_mk kt I J T n s) → am_T am_C (155, 1, 4, [.ref 107, .int (nI (cz (I 108) i)), .int (nI i)], []) (am_mk kt I J T n s) K := by
  intro k
  induction k with
  | zero =>
    intro i hi hK
    have hi : i = hc := by omega
    subst hi
    refine am_wq_T (cut := fun z pc => Nat.beq z 155 && Nat.beq pc 4) (inl := fun z => Nat.beq z 9999) 60 _ _ _ ?_
    refine And.intro rfl (And.intro ⟨rfl, vpl (k := 1) (N := 1448) (by decide) (by decide)⟩ (And.intro (fun h => ?_) (fun h => ?_)))
    · exact hK
    · exact absurd (show nI i ≥ I 108 1 by rw [hN]; exact nI_le (Nat.le_refl _) (by omega)) h
  | succ k ih =>
    intro i hi hK
    refine am_wq_T (cut := fun z pc => Nat.beq z 155 && Nat.beq pc 4) (inl := fun z => Nat.beq z 9999) 60 _ _ _ ?_
    refine And.intro rfl (And.intro ⟨rfl, vpl (k := 1) (N := 1448) (by decide) (by decide)⟩ (And.intro (fun h => ?_) (fun h => ?_)))
    · exact absurd (show I 108 1 ≤ nI i from h) (by rw [hN]; exact nI_ge (by omega) (by omega))
    · refine And.intro rfl ?_
      refine m_of (x := nI i) (y := 2) (h := i) (w := 2) rfl rfl (by omega) (by decide) ?_
      have key := ih (i + 1) (by omega) hK
      rw [nI_succ i] at key
      refine And.intro (fun h => ?_) (fun h => ?_)
      · rw [show cz (I 108) (i + 1) = cz (I 108) i from by
          show cz (I 108) i + (if I 108 (23 + 5 * i) = 0 then 1 else 0) = _
          rw [if_neg (show ¬ I 108 (23 + 5 * i) = 0 by rw [show 23 + 5 * i = 21 + 5 * i + 2 by omega]; exact h), Nat.add_zero]] at key
        rw [show nI (cz (I 108) i) = nI (cz (I 108) i) + 0 from (Int32.add_zero _).symm] at key
        exact key
      · rw [show cz (I 108) (i + 1) = cz (I 108) i + 1 from by
          show cz (I 108) i + (if I 108 (23 + 5 * i) = 0 then 1 else 0) = _
          rw [if_pos (show I 108 (23 + 5 * i) = 0 by rw [show 23 + 5 * i = 21 + 5 * i + 2 by omega]; exact Classical.not_not.mp h)], nI_succ] at key
        exact key
theorem rH21 {i : Nat} (h : i < 10) : am_R (am_k kt, I, J, am_r T, n, s) 22 (nI i).toNatClampNeg = 27 + i := by
  rw [nI_clamp (by omega)]
  revert i
  exact fun {i} h => by
    match i, h with
    | 0, _ => rfl
    | 1, _ => rfl
    | 2, _ => rfl
    | 3, _ => rfl
    | 4, _ => rfl
    | 5, _ => rfl
    | 6, _ => rfl
    | 7, _ => rfl
    | 8, _ => rfl
    | 9, _ => rfl
theorem kH21 {i : Nat} (h : i < 10) : am_K (am_k kt, I, J, am_r T, n, s) (27 + i) = (1, 5) := by
  match i, h with
  | 0, _ => rfl
  | 1, _ => rfl
  | 2, _ => rfl
  | 3, _ => rfl
  | 4, _ => rfl
  | 5, _ => rfl
  | 6, _ => rfl
  | 7, _ => rfl
  | 8, _ => rfl
  | 9, _ => rfl
theorem c_filled_loop {N : Nat → Int32} {hc : Nat} (hN : I 21 1 = nI hc) (hhc : hc ≤ 10) (hH : ∀ h, h < hc → I (27 + h) 2 = N (23 + 5 * h)) : ∀ k i, i + k = hc → K (some (.int (nI (cz N hc)))) (am_mk kt I J T n s) → am_T am_C (26, 0, 4, [.ref 21, .int (nI (cz N i)), .int (nI i)], []) (am_mk kt I J T n s) K := by
  intro k
  induction k with
  | zero =>
    intro i hi hK
    have hi : i = hc := by omega
    subst hi
    refine am_wq_T (cut := fun z pc => Nat.beq z 26 && Nat.beq pc 4) (inl := fun z => Nat.beq z 9999) 60 _ _ _ ?_
    refine And.intro rfl (And.intro (fun h => ?_) (fun h => ?_))
    · exact hK
    · exact absurd (show nI i ≥ I 21 1 by rw [hN]; exact nI_le (Nat.le_refl _) (by omega)) h
  | succ k ih =>
    intro i hi hK
    refine am_wq_T (cut := fun z pc => Nat.beq z 26 && Nat.beq pc 4) (inl := fun z => Nat.beq z 9999) 60 _ _ _ ?_
    refine And.intro rfl (And.intro (fun h => ?_) (fun h => ?_))
    · exact absurd (show I 21 1 ≤ nI i from h) (by rw [hN]; exact nI_ge (by omega) (by omega))
    · have key := ih (i + 1) (by omega) hK
      rw [nI_succ i] at key
      refine And.intro rfl (And.intro ⟨rfl, vpl (k := i) (N := 10) (by omega) (by decide)⟩ ?_)
      rw [show am_R (am_k kt, I, J, am_r T, n, s) (am_R (am_k kt, I, J, am_r T, n, s) 21 0) (nI i).toNatClampNeg = 27 + i from rH21 (by omega)]
      refine And.intro (kH21 (by omega)) ?_
      refine And.intro (fun h => ?_) (fun h => ?_)
      · rw [show cz N (i + 1) = cz N i from by
          show cz N i + (if N (23 + 5 * i) = 0 then 1 else 0) = _
          rw [if_neg (show ¬ N (23 + 5 * i) = 0 by rw [← hH i (by omega)]; exact h), Nat.add_zero]] at key
        exact key
      · rw [show cz N (i + 1) = cz N i + 1 from by
          show cz N i + (if N (23 + 5 * i) = 0 then 1 else 0) = _
          rw [if_pos (show N (23 + 5 * i) = 0 by rw [← hH i (by omega)]; exact Classical.not_not.mp h)], nI_succ] at key
        exact key
end T30
