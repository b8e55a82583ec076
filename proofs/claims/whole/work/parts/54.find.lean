/-! findDealing: the table, and what is dealt out of it -/
section T54
variable {kt : Nat → Nat × Nat} {I I' : Nat → Nat → Int32} {J J' : Nat → Nat → Int64} {T : Nat → Nat → Nat} {n s : Nat} {K : Option Value → am_M → Prop} {N : Nat → Int32} {hc wc tc h w : Nat}
/-- a row of the reference, in order, within its bounds -/
def RB (N : Nat → Int32) (hc wc tc : Nat) : Prop := RO N hc wc tc ∧ HB N hc ∧ WB N wc ∧ hc ≤ 10
def TS (N : Nat → Int32) (hc wc tc : Nat) (w0 : Nat) (I : Nat → Nat → Int32) : Prop := ∀ w u, w0 ≤ w → w ≤ wc → u < 2 ^ hc → I 113 (1024 * w + u) = nI (SD N hc wc tc (wc - w) u)
theorem PG_108 {I0 : Nat → Nat → Int32} (h : ch PG I0 I) (hN : I0 108 = N) : I 108 = N := by rw [h 108 (by unfold PG PF; omega)]; exact hN
theorem p2hc (h10 : hc ≤ 10) : 2 ^ hc ≤ 1024 := Nat.pow_le_pow_right (n := 2) (by decide) h10
theorem m_fdA (hr : RB N hc wc tc) {I0 : Nat → Nat → Int32} (hN : I0 108 = N) {v3 v4 v5 v6 v7 : Value} : ∀ (j k : Nat) (I : Nat → Nat → Int32), k + j = 2 ^ hc → ch PG I0 I → (∀ u, u < k → I 113 (1024 * wc + u) = 0) → (∀ I' v2, ch PG I0 I' → TS N hc wc tc wc I' → am_T am_C (151, 5, 41, [.ref 107, .int (nI wc), v2, v3, v4, v5, v6, v7], []) (am_mk kt I' J T n s) K) → am_T am_C (151, 5, 10, [.ref 107, .int (nI wc), .int (nI k), v3, v4, v5, v6, v7], []) (am_mk kt I J T n s) K
  | 0, k, I, hk, hI, h, hK => by
    have h10 := hr.2.2.2
    have := p2hc h10
    have vp1 : vp_in 1 1448 := vpl (k := 1) (by decide) (by decide)
    have c1 : (1 : Int32) <<< (I 108 1 &&& 31) ≤ nI k := by rw [PG_108 hI hN, hr.1.2.2.2.1, shl1 hc (by omega)]; exact nI_le (by omega) (by omega)
    have key := hK I (.int (nI k)) hI fun w u a b c => by
      have : w = wc := by omega
      subst this
      rw [h u (by omega), Nat.sub_self]; rfl
    refine am_wq_T (cut := fun z pc => ((Nat.beq z 151 && Nat.beq pc 10) || (Nat.beq z 151 && Nat.beq pc 41))) (inl := fun _ => false) 120 _ _ _ ?_
    exact And.intro rfl (And.intro ⟨rfl, vp1⟩ (And.intro (fun _ => key) (fun q => absurd c1 q)))
  | j + 1, k, I, hk, hI, h, hK => by
    have h10 := hr.2.2.2
    have hw6 := hr.1.2.1
    have := p2hc h10
    have vp1 : vp_in 1 1448 := vpl (k := 1) (by decide) (by decide)
    have c1 : ¬ (1 : Int32) <<< (I 108 1 &&& 31) ≤ nI k := by rw [PG_108 hI hN, hr.1.2.2.2.1, shl1 hc (by omega)]; exact nI_ge (by omega) (by omega)
    have e1 : (1024 : Int32) * nI wc + nI k = nI (1024 * wc + k) := i1024 wc k
    have v1 : vp_in ((1024 : Int32) * nI wc + nI k) 7168 := by rw [e1]; exact vpl (by omega) (by decide)
    have key := m_fdA hr hN (v3 := v3) (v4 := v4) (v5 := v5) (v6 := v6) (v7 := v7) j (k + 1) (am_up I 113 ((1024 : Int32) * nI wc + nI k).toNatClampNeg 0) (by omega) (ch_tr hI (ch_up (P := PG) (.inl rfl)) fun r q => q.elim id id) (fun u hu => by
      rw [e1, nI_clamp (by omega)]
      by_cases q : u = k
      · subst q; exact up_eq _ _ _ _
      · rw [up_ne (by omega)]; exact h u (by omega)) hK
    rw [nI_succ] at key
    refine am_wq_T (cut := fun z pc => ((Nat.beq z 151 && Nat.beq pc 10) || (Nat.beq z 151 && Nat.beq pc 41))) (inl := fun _ => false) 120 _ _ _ ?_
    exact And.intro rfl (And.intro ⟨rfl, vp1⟩ (And.intro (fun q => absurd q c1) (fun _ => And.intro rfl (And.intro ⟨rfl, v1⟩ key))))
/-- which holes meet a want -/
theorem m_fdC (hr : RB N hc wc tc) {I0 : Nat → Nat → Int32} (hN : I0 108 = N) (hw : w < wc) {v5 v6 v7 : Value} : ∀ (j k sM : Nat) (I : Nat → Nat → Int32), k + j = hc → ch PF I0 I → sM < 2 ^ k → (∀ h, h < k → sM.testBit h = tkD N hc wc tc w h) → (∀ I' sM v4, ch PF I0 I' → sM < 2 ^ hc → (∀ h, h < hc → sM.testBit h = tkD N hc wc tc w h) → am_T am_C (151, 5, 92, [.ref 107, .int (nI wc), .int (nI w), .int (nI sM), v4, v5, v6, v7], []) (am_mk kt I' J T n s) K) → am_T am_C (151, 5, 54, [.ref 107, .int (nI wc), .int (nI w), .int (nI sM), .int (nI k), v5, v6, v7], []) (am_mk kt I J T n s) K
  | 0, k, sM, I, hk, hI, hs, h, hK => by
    have h10 := hr.2.2.2
    have : k = hc := by omega
    subst this
    have vp1 : vp_in 1 1448 := vpl (k := 1) (by decide) (by decide)
    have hN' : I 108 = N := by rw [hI 108 (by unfold PF; omega)]; exact hN
    have c1 : I 108 (Int32.toNatClampNeg 1) ≤ nI k := by rw [hN']; show N 1 ≤ nI k; rw [hr.1.2.2.2.1]; exact nI_le (Nat.le_refl _) (by omega)
    have key := hK I sM (.int (nI k)) hI hs h
    refine am_wq_T (cut := fun z pc => ((Nat.beq z 151 && Nat.beq pc 54) || (Nat.beq z 151 && Nat.beq pc 92))) (inl := fun _ => false) 120 _ _ _ ?_
    exact And.intro rfl (And.intro ⟨rfl, vp1⟩ (And.intro (fun _ => key) (fun q => absurd c1 q)))
  | j + 1, k, sM, I, hk, hI, hs, h, hK => by
    have h10 := hr.2.2.2
    have hw6 := hr.1.2.1
    have vp1 : vp_in 1 1448 := vpl (k := 1) (by decide) (by decide)
    have hN' : I 108 = N := by rw [hI 108 (by unfold PF; omega)]; exact hN
    have c1 : ¬ I 108 (Int32.toNatClampNeg 1) ≤ nI k := by rw [hN']; show ¬ N 1 ≤ nI k; rw [hr.1.2.2.2.1]; exact nI_ge (by omega) (by omega)
    have l1 : ¬ (1 : Int32) = 0 := by decide
    have e2 : 2 ^ k + 2 ^ k = 2 ^ (k + 1) := by rw [Nat.pow_succ]; omega
    refine am_wq_T (cut := fun z pc => ((Nat.beq z 151 && Nat.beq pc 54) || (Nat.beq z 151 && Nat.beq pc 92))) (inl := fun z => !(Nat.beq z 147)) 120 _ _ _ ?_
    refine And.intro rfl (And.intro ⟨rfl, vp1⟩ (And.intro (fun q => absurd q c1) (fun _ => And.intro rfl ?_)))
    refine m_doesMeet hN' hr.1 hr.2.1 (h := k) (by omega) (by omega) (fun I1 a b c => ?_) (fun I1 a b c => ?_)
    · have key := m_fdC hr hN hw (v5 := v5) (v6 := v6) (v7 := v7) j (k + 1) (bor sM k) I1 (by omega) (ch_tr hI a fun r q => q.elim id id) (bor_lt (hc := k + 1) (by omega) (by omega)) (fun h' hh => by
        rw [bor_bit]
        by_cases q : h' = k
        · subst q; rw [decide_eq_true rfl, Bool.or_true]; exact ((tkD_t hw hw6 (by omega) h10).mpr c).symm
        · rw [decide_eq_false (by omega), Bool.or_false]; exact h h' (by omega)) hK
      rw [nI_succ, ← or_bor (by omega)] at key
      exact And.intro (fun q => absurd q l1) (fun _ => key)
    · have key := m_fdC hr hN hw (v5 := v5) (v6 := v6) (v7 := v7) j (k + 1) sM I1 (by omega) (ch_tr hI a fun r q => q.elim id id) (by omega) (fun h' hh => by
        by_cases q : h' = k
        · subst q
          rw [Nat.testBit_lt_two_pow hs]
          cases e : tkD N hc wc tc w h' with
          | false => rfl
          | true => exact absurd ((tkD_t hw hw6 (by omega) h10).mp e) c
        · exact h h' (by omega)) hK
      rw [nI_succ, show nI sM = nI sM ||| 0 by rw [show (0 : Int32) = nI 0 from rfl, nI_or, Nat.or_zero]] at key
      exact And.intro (fun _ => key) (fun q => absurd rfl q)
/-- the best of a want, of a set of holes that are used -/
theorem m_fdE (hr : RB N hc wc tc) (hN : I 108 = N) (hw : w < wc) {sM u : Nat} (hs : ∀ h, h < hc → sM.testBit h = tkD N hc wc tc w h) (hu : u < 2 ^ hc) (hT : TS N hc wc tc (w + 1) I) : ∀ (j h : Nat) (v7 : Value), h + j = hc → (∀ v6 v7, am_T am_C (151, 5, 186, [.ref 107, .int (nI wc), .int (nI w), .int (nI sM), .int (nI u), .int (nI (SD N hc wc tc (wc - w) u)), v6, v7], []) (am_mk kt I J T n s) K) → am_T am_C (151, 5, 128, [.ref 107, .int (nI wc), .int (nI w), .int (nI sM), .int (nI u), .int (nI (mxh (fun h => SD N hc wc tc (wc - (w + 1)) (bor u h) + 1000 - faM N w h) (fun h => tkD N hc wc tc w h && !u.testBit h) (SD N hc wc tc (wc - (w + 1)) u) h)), .int (nI h), v7], []) (am_mk kt I J T n s) K
  | 0, h, v7, hh, hK => by
    have h10 := hr.2.2.2
    have : h = hc := by omega
    subst this
    have vp1 : vp_in 1 1448 := vpl (k := 1) (by decide) (by decide)
    have c1 : I 108 (Int32.toNatClampNeg 1) ≤ nI h := by rw [hN]; show N 1 ≤ nI h; rw [hr.1.2.2.2.1]; exact nI_le (Nat.le_refl _) (by omega)
    have e : SD N h wc tc (wc - w) u = mxh (fun h' => SD N h wc tc (wc - (w + 1)) (bor u h') + 1000 - faM N w h') (fun h' => tkD N h wc tc w h' && !u.testBit h') (SD N h wc tc (wc - (w + 1)) u) h := by
      obtain ⟨k, hk⟩ : ∃ k, wc - w = k + 1 := ⟨wc - w - 1, by omega⟩
      have e1 : wc - (w + 1) = k := by omega
      have e2 : wc - (k + 1) = w := by omega
      rw [hk, e1]
      show mxh _ _ _ _ = _
      rw [e2]
    have key := hK (.int (nI h)) v7
    rw [e] at key
    refine am_wq_T (cut := fun z pc => ((Nat.beq z 151 && Nat.beq pc 128) || (Nat.beq z 151 && Nat.beq pc 186))) (inl := fun _ => false) 120 _ _ _ ?_
    exact And.intro rfl (And.intro ⟨rfl, vp1⟩ (And.intro (fun _ => key) (fun q => absurd c1 q)))
  | j + 1, h, v7, hh, hK => by
    have h10 := hr.2.2.2
    have hw6 := hr.1.2.1
    have hlt : h < hc := by omega
    have vp1 : vp_in 1 1448 := vpl (k := 1) (by decide) (by decide)
    have c1 : ¬ I 108 (Int32.toNatClampNeg 1) ≤ nI h := by rw [hN]; show ¬ N 1 ≤ nI h; rw [hr.1.2.2.2.1]; exact nI_ge hlt (by omega)
    have ab := and_bit (s := sM) (u := u) (h := h) (by omega)
    rw [hs h hlt] at ab
    obtain ⟨B, eB⟩ : ∃ B, mxh (fun h => SD N hc wc tc (wc - (w + 1)) (bor u h) + 1000 - faM N w h) (fun h => tkD N hc wc tc w h && !u.testBit h) (SD N hc wc tc (wc - (w + 1)) u) h = B := ⟨_, rfl⟩
    have bB : B ≤ 7000 := by
      rw [← eB]
      rcases mxh_at (g := fun h => SD N hc wc tc (wc - (w + 1)) (bor u h) + 1000 - faM N w h) (c := fun h => tkD N hc wc tc w h && !u.testBit h) (b := SD N hc wc tc (wc - (w + 1)) u) h with e | ⟨h', _, _, e⟩
      · rw [e]; have := SD_b (N := N) (hc := hc) (wc := wc) (tc := tc) (k := wc - (w + 1)) (u := u) (by omega); omega
      · rw [e]; have := SD_b (N := N) (hc := hc) (wc := wc) (tc := tc) (k := wc - (w + 1)) (u := bor u h') (by omega); omega
    have ih := fun v7 => m_fdE hr hN hw hs hu hT j (h + 1) v7 (by omega) hK
    unfold mxh at ih
    rw [eB, nI_succ] at ih
    rw [eB]
    by_cases hb : (tkD N hc wc tc w h && !u.testBit h) = true
    · have c2 : ¬ (nI sM &&& (nI u ^^^ (-1))) &&& ((1 : Int32) <<< (nI h &&& 31)) = 0 := fun q => by rw [ab.mp q] at hb; cases hb
      have sb := SD_b (N := N) (hc := hc) (wc := wc) (tc := tc) (k := wc - (w + 1)) (u := bor u h) (by omega)
      rw [if_pos hb] at ih
      refine am_wq_T (cut := fun z pc => ((Nat.beq z 151 && Nat.beq pc 128) || (Nat.beq z 151 && Nat.beq pc 186))) (inl := fun z => !(Nat.beq z 150)) 120 _ _ _ ?_
      refine And.intro rfl (And.intro ⟨rfl, vp1⟩ (And.intro (fun q => absurd q c1) (fun _ => And.intro (fun q => absurd q c2) (fun _ => And.intro rfl ?_))))
      refine m_score hN hr.2.1 hr.2.2.1 h10 hw6 hlt hw hu (hT (w + 1) (bor u h) (Nat.le_refl _) (by omega) (bor_lt hu hlt)) ?_
      refine And.intro (fun q => ?_) (fun q => ?_)
      · have q : nI (SD N hc wc tc (wc - (w + 1)) (bor u h) + 1000 - faM N w h) ≤ nI B := q
        rw [if_neg (by have := (nI_leI (by omega) (by omega)).mp q; omega)] at ih
        exact ih _
      · have q : ¬ nI (SD N hc wc tc (wc - (w + 1)) (bor u h) + 1000 - faM N w h) ≤ nI B := q
        rw [if_pos (Nat.lt_of_not_le fun x => q ((nI_leI (by omega) (by omega)).mpr x))] at ih
        exact ih _
    · have c2 : (nI sM &&& (nI u ^^^ (-1))) &&& ((1 : Int32) <<< (nI h &&& 31)) = 0 := ab.mpr (by cases e : (tkD N hc wc tc w h && !u.testBit h); rfl; exact absurd e hb)
      rw [if_neg hb] at ih
      refine am_wq_T (cut := fun z pc => ((Nat.beq z 151 && Nat.beq pc 128) || (Nat.beq z 151 && Nat.beq pc 186))) (inl := fun z => !(Nat.beq z 150)) 120 _ _ _ ?_
      exact And.intro rfl (And.intro ⟨rfl, vp1⟩ (And.intro (fun q => absurd q c1) (fun _ => And.intro (fun _ => ih _) (fun q => absurd c2 q))))
theorem m_fdD (hr : RB N hc wc tc) {I0 : Nat → Nat → Int32} (hN : I0 108 = N) (hw : w < wc) {sM : Nat} (hs : ∀ h, h < hc → sM.testBit h = tkD N hc wc tc w h) : ∀ (j u : Nat) (I : Nat → Nat → Int32) (v5 v6 v7 : Value), u + j = 2 ^ hc → ch PG I0 I → TS N hc wc tc (w + 1) I → (∀ x, x < u → I 113 (1024 * w + x) = nI (SD N hc wc tc (wc - w) x)) → (∀ I' v4 v5 v6 v7, ch PG I0 I' → TS N hc wc tc w I' → am_T am_C (151, 5, 207, [.ref 107, .int (nI wc), .int (nI w), .int (nI sM), v4, v5, v6, v7], []) (am_mk kt I' J T n s) K) → am_T am_C (151, 5, 95, [.ref 107, .int (nI wc), .int (nI w), .int (nI sM), .int (nI u), v5, v6, v7], []) (am_mk kt I J T n s) K
  | 0, u, I, v5, v6, v7, hu, hI, hT, h, hK => by
    have h10 := hr.2.2.2
    have := p2hc h10
    have vp1 : vp_in 1 1448 := vpl (k := 1) (by decide) (by decide)
    have c1 : (1 : Int32) <<< (I 108 1 &&& 31) ≤ nI u := by rw [PG_108 hI hN, hr.1.2.2.2.1, shl1 hc (by omega)]; exact nI_le (by omega) (by omega)
    have key := hK I (.int (nI u)) v5 v6 v7 hI fun w' x a b c => by
      by_cases q : w' = w
      · subst q; exact h x (by omega)
      · exact hT w' x (by omega) b c
    refine am_wq_T (cut := fun z pc => ((Nat.beq z 151 && Nat.beq pc 95) || (Nat.beq z 151 && Nat.beq pc 207))) (inl := fun _ => false) 120 _ _ _ ?_
    exact And.intro rfl (And.intro ⟨rfl, vp1⟩ (And.intro (fun _ => key) (fun q => absurd c1 q)))
  | j + 1, u, I, v5, v6, v7, hu, hI, hT, h, hK => by
    have h10 := hr.2.2.2
    have hw6 := hr.1.2.1
    have := p2hc h10
    have vp1 : vp_in 1 1448 := vpl (k := 1) (by decide) (by decide)
    have hN' := PG_108 hI hN
    have c1 : ¬ (1 : Int32) <<< (I 108 1 &&& 31) ≤ nI u := by rw [hN', hr.1.2.2.2.1, shl1 hc (by omega)]; exact nI_ge (by omega) (by omega)
    have e1 : (1024 : Int32) * (nI w + 1) + nI u = nI (1024 * (w + 1) + u) := by rw [nI_1, i1024]
    have v1 : vp_in ((1024 : Int32) * (nI w + 1) + nI u) 7168 := by rw [e1]; exact vpl (by omega) (by decide)
    have f1 : I 113 ((1024 : Int32) * (nI w + 1) + nI u).toNatClampNeg = nI (SD N hc wc tc (wc - (w + 1)) u) := by rw [e1, nI_clamp (by omega)]; exact hT (w + 1) u (Nat.le_refl _) (by omega) (by omega)
    have e2 : (1024 : Int32) * nI w + nI u = nI (1024 * w + u) := i1024 w u
    have v2 : vp_in ((1024 : Int32) * nI w + nI u) 7168 := by rw [e2]; exact vpl (by omega) (by decide)
    have ih := fun v5 v6 v7 => m_fdD hr hN hw hs j (u + 1) (am_up I 113 ((1024 : Int32) * nI w + nI u).toNatClampNeg (nI (SD N hc wc tc (wc - w) u))) v5 v6 v7 (by omega) (ch_tr hI (ch_up (P := PG) (.inl rfl)) fun r q => q.elim id id) (fun w' x a b c => by
        rw [e2, nI_clamp (by omega), up_ne (by omega)]; exact hT w' x a b c) (fun x hx => by
        rw [e2, nI_clamp (by omega)]
        by_cases q : x = u
        · subst q; exact up_eq _ _ _ _
        · rw [up_ne (by omega)]; exact h x (by omega)) hK
    have key := m_fdE (kt := kt) (J := J) (T := T) (n := n) (s := s) (K := K) hr hN' hw hs (show u < 2 ^ hc by omega) hT hc 0 v7 (by omega) fun v6 v7 => by
      have ih := ih (.int (nI (SD N hc wc tc (wc - w) u))) v6 v7
      rw [nI_succ] at ih
      refine am_wq_T (cut := fun z pc => (Nat.beq z 151 && Nat.beq pc 95)) (inl := fun _ => false) 120 _ _ _ ?_
      exact And.intro rfl (And.intro ⟨rfl, v2⟩ ih)
    rw [show mxh (fun h => SD N hc wc tc (wc - (w + 1)) (bor u h) + 1000 - faM N w h) (fun h => tkD N hc wc tc w h && !u.testBit h) (SD N hc wc tc (wc - (w + 1)) u) 0 = SD N hc wc tc (wc - (w + 1)) u from rfl, ← f1] at key
    refine am_wq_T (cut := fun z pc => ((Nat.beq z 151 && Nat.beq pc 128) || (Nat.beq z 151 && Nat.beq pc 207))) (inl := fun _ => false) 120 _ _ _ ?_
    exact And.intro rfl (And.intro ⟨rfl, vp1⟩ (And.intro (fun q => absurd q c1) (fun _ => And.intro rfl (And.intro ⟨rfl, v1⟩ key))))
theorem m_fdB (hr : RB N hc wc tc) {I0 : Nat → Nat → Int32} (hN : I0 108 = N) : ∀ (j : Nat) (I : Nat → Nat → Int32) (v3 v4 v5 v6 v7 : Value), j ≤ wc → ch PG I0 I → TS N hc wc tc j I → (∀ I' v2 v3 v4 v5 v6 v7, ch PG I0 I' → TS N hc wc tc 0 I' → am_T am_C (151, 5, 213, [.ref 107, .int (nI wc), v2, v3, v4, v5, v6, v7], []) (am_mk kt I' J T n s) K) → am_T am_C (151, 5, 45, [.ref 107, .int (nI wc), .int (nI j - 1), v3, v4, v5, v6, v7], []) (am_mk kt I J T n s) K
  | 0, I, v3, v4, v5, v6, v7, hj, hI, hT, hK => by
    have c1 : nI 0 - 1 < 0 := by decide
    have key := hK I (.int (nI 0 - 1)) v3 v4 v5 v6 v7 hI hT
    refine am_wq_T (cut := fun z pc => ((Nat.beq z 151 && Nat.beq pc 45) || (Nat.beq z 151 && Nat.beq pc 213))) (inl := fun _ => false) 120 _ _ _ ?_
    exact And.intro (fun _ => key) (fun q => absurd c1 q)
  | w + 1, I, v3, v4, v5, v6, v7, hj, hI, hT, hK => by
    have hw6 := hr.1.2.1
    have c1 : ¬ nI (w + 1) - 1 < 0 := by rw [nI_p1]; exact nI_pos (by omega)
    have hN' := PG_108 hI hN
    have key := m_fdC (kt := kt) (J := J) (T := T) (n := n) (s := s) (K := K) (v5 := v5) (v6 := v6) (v7 := v7) hr hN' (w := w) (by omega) hc 0 0 I (by omega) ch_rfl (by decide) (fun _ q => absurd q (by omega)) fun I2 sM v4 a b c => by
      have hT2 : TS N hc wc tc (w + 1) I2 := fun w' x p q r => by rw [a 113 (by unfold PF; omega)]; exact hT w' x p q r
      have k2 := m_fdD (kt := kt) (J := J) (T := T) (n := n) (s := s) (K := K) hr hN (w := w) (by omega) c (2 ^ hc) 0 I2 v5 v6 v7 (by omega) (ch_tr hI a fun r q => q.elim id fun q => .inr (.inr q)) hT2 (fun _ q => absurd q (by omega)) fun I3 v4 v5 v6 v7 d e => by
        have ih := m_fdB hr hN w I3 (.int (nI sM)) v4 v5 v6 v7 (by omega) d e hK
        rw [Int32.sub_eq_add_neg] at ih
        refine am_wq_T (cut := fun z pc => (Nat.beq z 151 && Nat.beq pc 45)) (inl := fun _ => false) 120 _ _ _ ?_
        exact ih
      refine am_wq_T (cut := fun z pc => (Nat.beq z 151 && Nat.beq pc 95)) (inl := fun _ => false) 120 _ _ _ ?_
      exact k2
    rw [← nI_p1 w] at key
    refine am_wq_T (cut := fun z pc => ((Nat.beq z 151 && Nat.beq pc 54) || (Nat.beq z 151 && Nat.beq pc 213))) (inl := fun _ => false) 120 _ _ _ ?_
    exact And.intro (fun q => absurd q c1) (fun _ => key)
/-! what is dealt -/
theorem m_fdG (hr : RB N hc wc tc) {I0 : Nat → Nat → Int32} (hN : I0 108 = N) (hw : w < wc) {U : Nat} (hU : U < 2 ^ hc) (hT0 : TS N hc wc tc 0 I0) : ∀ (j : Nat) (I : Nat → Nat → Int32) (d : Nat) (v5 v6 v7 : Value), j ≤ hc → ch (fun r => r = 114 ∨ PF r) I0 I → I 114 w = hv d → (∀ x, x < w → I 114 x = I0 114 x) → (d ≠ 99 → d < hc ∧ GC (tkD N hc wc tc) (faN N) (fun w u => (SD N hc wc tc (wc - w) u : Int)) U w d) → (∀ h, j ≤ h → h < hc → GC (tkD N hc wc tc) (faN N) (fun w u => (SD N hc wc tc (wc - w) u : Int)) U w h → d ≠ 99 ∧ d ≤ h) →
    (∀ I' d v5 v6 v7 v4, ch (fun r => r = 114 ∨ PF r) I0 I' → I' 114 w = hv d → (∀ x, x < w → I' 114 x = I0 114 x) → (d ≠ 99 → d < hc ∧ GC (tkD N hc wc tc) (faN N) (fun w u => (SD N hc wc tc (wc - w) u : Int)) U w d) → (∀ h, h < hc → GC (tkD N hc wc tc) (faN N) (fun w u => (SD N hc wc tc (wc - w) u : Int)) U w h → d ≠ 99 ∧ d ≤ h) → am_T am_C (151, 5, 321, [.ref 107, .int (nI wc), .int (nI U), .int (nI w), v4, v5, v6, v7], []) (am_mk kt I' J T n s) K) →
    am_T am_C (151, 5, 239, [.ref 107, .int (nI wc), .int (nI U), .int (nI w), .int (nI j - 1), v5, v6, v7], []) (am_mk kt I J T n s) K
  | 0, I, d, v5, v6, v7, hj, hI, hd, hx, h1, h2, hK => by
    have c1 : nI 0 - 1 < 0 := by decide
    have key := hK I d v5 v6 v7 (.int (nI 0 - 1)) hI hd hx h1 fun h => h2 h (Nat.zero_le _)
    refine am_wq_T (cut := fun z pc => ((Nat.beq z 151 && Nat.beq pc 239) || (Nat.beq z 151 && Nat.beq pc 321))) (inl := fun _ => false) 120 _ _ _ ?_
    exact And.intro (fun _ => key) (fun q => absurd c1 q)
  | h + 1, I, d, v5, v6, v7, hj, hI, hd, hx, h1, h2, hK => by
    have h10 := hr.2.2.2
    have hw6 := hr.1.2.1
    have hlt : h < hc := by omega
    have p1024 := p2hc h10
    have c1 : ¬ nI (h + 1) - 1 < 0 := by rw [nI_p1]; exact nI_pos (by omega)
    have vw : vp_in (nI w) 6 := vpl (by omega) (by decide)
    have hN' : I 108 = N := by rw [hI 108 (by unfold PF; omega)]; exact hN
    have cU := hU
    have sb := shr_bit U (by omega) h (by omega)
    have l1 : ¬ (1 : Int32) = 0 := by decide
    -- whether it is the one, from 290 on
    have no : ∀ I2, ch (fun r => r = 114 ∨ PF r) I I2 → I2 114 = I 114 → ¬ GC (tkD N hc wc tc) (faN N) (fun w u => (SD N hc wc tc (wc - w) u : Int)) U w h → am_T am_C (151, 5, 290, [.ref 107, .int (nI wc), .int (nI U), .int (nI w), .int (nI (h + 1) - 1), v5, v6, v7], []) (am_mk kt I2 J T n s) K := fun I2 a b c => by
      have hwv : I2 114 (nI w).toNatClampNeg = hv d := by rw [nI_clamp (by omega), b]; exact hd
      have key := m_fdG hr hN hw hU hT0 h (am_up I2 114 (nI w).toNatClampNeg (I2 114 (nI w).toNatClampNeg)) d (.int 0) v6 v7 (by omega) (ch_tr (ch_tr (S := fun r => r = 114 ∨ PF r) hI a fun r q => q.elim id id) (ch_up (P := fun r => r = 114 ∨ PF r) (.inl rfl)) fun r q => q.elim id id) (by rw [hwv, nI_clamp (by omega), up_eq]) (fun x hxx => by rw [nI_clamp (by omega), up_ne (by omega), b]; exact hx x hxx) h1 (fun h' a1 a2 a3 => by
        by_cases e : h' = h
        · subst e; exact absurd a3 c
        · exact h2 h' (by omega) a2 a3) hK
      rw [← nI_p1 h, Int32.sub_eq_add_neg] at key
      refine am_wq_T (cut := fun z pc => (Nat.beq z 151 && Nat.beq pc 239)) (inl := fun _ => false) 120 _ _ _ ?_
      exact And.intro rfl (And.intro (fun _ => And.intro rfl (And.intro ⟨rfl, vw⟩ (And.intro ⟨rfl, vw⟩ key))) (fun q => absurd rfl q))
    have yes : ∀ I2, ch (fun r => r = 114 ∨ PF r) I I2 → I2 114 = I 114 → GC (tkD N hc wc tc) (faN N) (fun w u => (SD N hc wc tc (wc - w) u : Int)) U w h → am_T am_C (151, 5, 286, [.ref 107, .int (nI wc), .int (nI U), .int (nI w), .int (nI (h + 1) - 1), v5, v6, v7], []) (am_mk kt I2 J T n s) K := fun I2 a b c => by
      have key := m_fdG hr hN hw hU hT0 h (am_up I2 114 (nI w).toNatClampNeg (nI (h + 1) - 1)) h (.int 1) v6 v7 (by omega) (ch_tr (ch_tr (S := fun r => r = 114 ∨ PF r) hI a fun r q => q.elim id id) (ch_up (P := fun r => r = 114 ∨ PF r) (.inl rfl)) fun r q => q.elim id id) (by rw [nI_clamp (by omega), up_eq, nI_p1]; exact (if_neg (by omega)).symm) (fun x hxx => by rw [nI_clamp (by omega), up_ne (by omega), b]; exact hx x hxx) (fun _ => ⟨hlt, c⟩) (fun h' a1 a2 a3 => ⟨by omega, a1⟩) hK
      rw [show nI h - 1 = nI (h + 1) - 1 + -1 by rw [nI_p1, Int32.sub_eq_add_neg]] at key
      refine am_wq_T (cut := fun z pc => (Nat.beq z 151 && Nat.beq pc 239)) (inl := fun _ => false) 120 _ _ _ ?_
      exact And.intro rfl (And.intro (fun q => absurd q l1) (fun _ => And.intro ⟨rfl, vw⟩ key))
    have no2 := no
    have yes2 := yes
    simp only [nI_p1] at no2 yes2
    by_cases cb : U.testBit h = true
    · have c2 : ¬ (nI U >>> ((nI (h + 1) - 1) &&& 31)) &&& 1 = 0 := by rw [nI_p1]; exact sb ▸ cb
      have key := no I ch_rfl rfl fun q => by rw [q.1] at cb; cases cb
      refine am_wq_T (cut := fun z pc => (Nat.beq z 151 && Nat.beq pc 290)) (inl := fun _ => false) 120 _ _ _ ?_
      exact And.intro (fun q => absurd q c1) (fun _ => And.intro (fun _ => key) (fun q => absurd c2 q))
    · have cb' : U.testBit h = false := by cases e : U.testBit h; rfl; exact absurd e cb
      have c2 : ¬ ¬ (nI U >>> ((nI (h + 1) - 1) &&& 31)) &&& 1 = 0 := by rw [nI_p1]; rw [sb, cb']; decide
      refine am_wq_T (cut := fun z pc => ((Nat.beq z 151 && Nat.beq pc 290) || (Nat.beq z 151 && Nat.beq pc 286))) (inl := fun z => !((Nat.beq z 147 || Nat.beq z 150))) 120 _ _ _ ?_
      refine And.intro (fun q => absurd q c1) (fun _ => And.intro (fun q => absurd q c2) (fun _ => And.intro rfl ?_))
      show am_T am_C (147, 4, 0, [.ref 107, .int (nI w), .int (nI (h + 1) - 1)], []) (am_mk kt I J T n s) _
      rw [nI_p1]
      refine m_doesMeet hN' hr.1 hr.2.1 hlt (by omega) (fun I2 a b c => ?_) (fun I2 a b c => ?_)
      · have a' : ch (fun r => r = 114 ∨ PF r) I I2 := ch_w a fun r q => .inr q
        have e114 : I2 114 = I 114 := a 114 (by unfold PF; omega)
        have ht := (tkD_t (tc := tc) (N := N) hw hw6 hlt h10).mpr c
        have f := faM_b hr.2.1 hr.2.2.1 hlt hw
        obtain ⟨fk, fk1, fk2, fk3⟩ := faN_k hr.2.1 hr.2.2.1 hlt hw
        have hT2 : TS N hc wc tc 0 I2 := fun w' x p q r => by rw [a 113 (by unfold PF; omega), hI 113 (by unfold PF; omega)]; exact hT0 w' x p q r
        have sb1 := SD_b (N := N) (hc := hc) (wc := wc) (tc := tc) (k := wc - (w + 1)) (u := bor U h) (by omega)
        have sb2 := SD_b (N := N) (hc := hc) (wc := wc) (tc := tc) (k := wc - w) (u := U) (by omega)
        have e1 : (1024 : Int32) * nI w + nI U = nI (1024 * w + U) := i1024 w U
        have v1 : vp_in ((1024 : Int32) * nI w + nI U) 7168 := by rw [e1]; exact vpl (by omega) (by decide)
        have f1 : I2 113 ((1024 : Int32) * nI w + nI U).toNatClampNeg = nI (SD N hc wc tc (wc - w) U) := by rw [e1, nI_clamp (by omega)]; exact hT2 w U (Nat.zero_le _) (by omega) hU
        have gc : nI (SD N hc wc tc (wc - (w + 1)) (bor U h) + 1000 - faM N w h) = nI (SD N hc wc tc (wc - w) U) ↔ GC (tkD N hc wc tc) (faN N) (fun w u => (SD N hc wc tc (wc - w) u : Int)) U w h := by
          rw [nI_eq (by omega) (by omega)]
          have ef : faN N w h = faM N w h := by unfold faM; rw [fk3]; rfl
          unfold GC
          rw [ef]
          constructor
          · intro q; exact ⟨cb', ht, by show ((SD N hc wc tc (wc - (w + 1)) (bor U h) : Nat) : Int) + 1000 - (faM N w h : Nat) = ((SD N hc wc tc (wc - w) U : Nat) : Int); omega⟩
          · intro q; have : ((SD N hc wc tc (wc - (w + 1)) (bor U h) : Nat) : Int) + 1000 - (faM N w h : Nat) = ((SD N hc wc tc (wc - w) U : Nat) : Int) := q.2.2; omega
        refine And.intro (fun q => absurd q l1) (fun _ => And.intro rfl ?_)
        refine m_score b hr.2.1 hr.2.2.1 h10 hw6 hlt hw hU (hT2 (w + 1) (bor U h) (Nat.zero_le _) (by omega) (bor_lt hU hlt)) ?_
        refine And.intro rfl (And.intro ⟨rfl, v1⟩ (And.intro (fun q => ?_) (fun q => ?_)))
        · have q : ¬ nI (SD N hc wc tc (wc - (w + 1)) (bor U h) + 1000 - faM N w h) = I2 113 ((1024 : Int32) * nI w + nI U).toNatClampNeg := q
          rw [f1] at q
          exact no2 I2 a' e114 fun x => q (gc.mpr x)
        · have q : ¬ ¬ nI (SD N hc wc tc (wc - (w + 1)) (bor U h) + 1000 - faM N w h) = I2 113 ((1024 : Int32) * nI w + nI U).toNatClampNeg := q
          rw [f1] at q
          exact yes2 I2 a' e114 (gc.mp (Classical.not_not.mp q))
      · have key := no2 I2 (ch_w a fun r q => .inr q) (a 114 (by unfold PF; omega)) fun q => c ((tkD_t hw hw6 hlt h10).mp q.2.1)
        exact And.intro (fun _ => key) (fun q => absurd rfl q)
theorem m_fdF (hr : RB N hc wc tc) {I0 : Nat → Nat → Int32} (hN : I0 108 = N) (hT0 : TS N hc wc tc 0 I0) : ∀ (j w : Nat) (I : Nat → Nat → Int32) (d U : Nat → Nat) (v4 v5 v6 v7 : Value), w + j = wc → ch (fun r => r = 114 ∨ PF r) I0 I → (∀ x, x < w → I 114 x = hv (d x)) → GD (tkD N hc wc tc) (faN N) w hc (fun w u => (SD N hc wc tc (wc - w) u : Int)) d U → (∀ I' d U, ch (fun r => r = 114 ∨ PF r) I0 I' → (∀ x, x < wc → I' 114 x = hv (d x)) → GD (tkD N hc wc tc) (faN N) wc hc (fun w u => (SD N hc wc tc (wc - w) u : Int)) d U → K none (am_mk kt I' J T n s)) → am_T am_C (151, 5, 217, [.ref 107, .int (nI wc), .int (nI (U w)), .int (nI w), v4, v5, v6, v7], []) (am_mk kt I J T n s) K
  | 0, w, I, d, U, v4, v5, v6, v7, hw, hI, hd, hG, hK => by
    have hw6 := hr.1.2.1
    have : w = wc := by omega
    subst this
    have c1 : nI w ≤ nI w := nI_le (Nat.le_refl _) (by omega)
    refine am_wq_T (cut := fun z pc => (Nat.beq z 151 && Nat.beq pc 217)) (inl := fun _ => false) 120 _ _ _ ?_
    exact And.intro (fun _ => hK I d U hI hd hG) (fun q => absurd c1 q)
  | j + 1, w, I, d, U, v4, v5, v6, v7, hw, hI, hd, hG, hK => by
    have hw6 := hr.1.2.1
    have h10 := hr.2.2.2
    have wW : w < wc := by omega
    have c1 : ¬ nI wc ≤ nI w := nI_ge wW (by omega)
    have vw : vp_in (nI w) 6 := vpl (by omega) (by decide)
    have vp1 : vp_in 1 1448 := vpl (k := 1) (by decide) (by decide)
    have hN' : I 108 = N := by rw [hI 108 (by unfold PF; omega)]; exact hN
    have hU := GD_lt hG w (Nat.le_refl _)
    have e1 : am_up I 114 (nI w).toNatClampNeg (-1) 108 1 = nI hc := by rw [up_off (by decide), hN']; exact hr.1.2.2.2.1
    have hT1 : TS N hc wc tc 0 (am_up I 114 (nI w).toNatClampNeg (-1)) := fun w' x p q r => by rw [up_off (by decide), hI 113 (by unfold PF; omega)]; exact hT0 w' x p q r
    have key := m_fdG (kt := kt) (J := J) (T := T) (n := n) (s := s) (K := K) hr (I0 := am_up I 114 (nI w).toNatClampNeg (-1)) (by rw [up_off (by decide)]; exact hN') wW hU hT1 hc (am_up I 114 (nI w).toNatClampNeg (-1)) 99 v5 v6 v7 (Nat.le_refl _) ch_rfl (by rw [nI_clamp (by omega), up_eq]; rfl) (fun _ _ => rfl) (fun q => absurd rfl q) (fun h a b _ => absurd a (by omega)) fun I2 dw v5 v6 v7 v4 a b c e f => by
      have hG' : GD (tkD N hc wc tc) (faN N) (w + 1) hc (fun w u => (SD N hc wc tc (wc - w) u : Int)) (up1 d w dw) (up1 U (w + 1) (if dw = 99 then U w else bor (U w) dw)) := by
        refine ⟨by rw [up1_ne (by omega)]; exact hG.1, fun x hx => ?_⟩
        by_cases q : x = w
        · subst q
          rw [up1_eq, up1_eq, up1_ne (by omega)]
          exact ⟨rfl, e, f⟩
        · rw [up1_ne (by omega), up1_ne q, up1_ne (by omega)]
          exact hG.2 x (by omega)
      have ih := fun v4 => m_fdF hr hN hT0 j (w + 1) I2 (up1 d w dw) (up1 U (w + 1) (if dw = 99 then U w else bor (U w) dw)) v4 v5 v6 v7 (by omega) (ch_tr (ch_tr (S := fun r => r = 114 ∨ PF r) hI (ch_up (P := fun r => r = 114 ∨ PF r) (.inl rfl)) fun r q => q.elim id id) a fun r q => q.elim id id) (fun x hx => by
        by_cases q : x = w
        · subst q; rw [up1_eq]; exact b
        · rw [up1_ne q, c x (by omega), nI_clamp (by omega), up_ne (by omega)]; exact hd x (by omega)) hG' hK
      have eb : I2 114 (nI w).toNatClampNeg = hv dw := by rw [nI_clamp (by omega)]; exact b
      by_cases q9 : dw = 99
      · have n0 : ¬ 0 ≤ I2 114 (nI w).toNatClampNeg := by rw [eb, q9]; decide
        rw [up1_eq, if_pos q9, nI_succ, show nI (U w) = nI (U w) ||| 0 by rw [show (0 : Int32) = nI 0 from rfl, nI_or, Nat.or_zero]] at ih
        refine am_wq_T (cut := fun z pc => (Nat.beq z 151 && Nat.beq pc 217)) (inl := fun _ => false) 120 _ _ _ ?_
        exact And.intro rfl (And.intro ⟨rfl, vw⟩ (And.intro (fun q => absurd q n0) (fun _ => ih _)))
      · have hdw := (e q9).1
        have ev : hv dw = nI dw := if_neg q9
        have n0 : 0 ≤ I2 114 (nI w).toNatClampNeg := by rw [eb, ev]; exact nI_pos' (by omega)
        rw [up1_eq, if_neg q9, nI_succ, ← or_bor (by omega), ← ev, ← eb] at ih
        refine am_wq_T (cut := fun z pc => (Nat.beq z 151 && Nat.beq pc 217)) (inl := fun _ => false) 120 _ _ _ ?_
        exact And.intro rfl (And.intro ⟨rfl, vw⟩ (And.intro (fun _ => And.intro rfl (And.intro ⟨rfl, vw⟩ (ih _))) (fun q => absurd n0 q)))
    rw [← e1] at key
    refine am_wq_T (cut := fun z pc => (Nat.beq z 151 && Nat.beq pc 239)) (inl := fun _ => false) 120 _ _ _ ?_
    exact And.intro (fun q => absurd q c1) (fun _ => And.intro rfl (And.intro ⟨rfl, vw⟩ (And.intro rfl (And.intro ⟨rfl, vp1⟩ key))))
theorem m_find (hr : RB N hc wc tc) (hN : I 108 = N) (hK : ∀ I' d U, ch PG I I' → (∀ x, x < wc → I' 114 x = hv (d x)) → GD (tkD N hc wc tc) (faN N) wc hc (fun w u => (SD N hc wc tc (wc - w) u : Int)) d U → K none (am_mk kt I' J T n s)) : am_T am_C (151, 5, 0, [.ref 107, .null, .null, .null, .null, .null, .null, .null], []) (am_mk kt I J T n s) K := by
  have vp7 : vp_in 7 1448 := vpl (k := 7) (by decide) (by decide)
  have e7 : I 108 7 = nI wc := by rw [hN]; exact hr.1.2.2.2.2.1
  have key := m_fdA (kt := kt) (J := J) (T := T) (n := n) (s := s) (K := K) hr (I0 := I) hN (v3 := .null) (v4 := .null) (v5 := .null) (v6 := .null) (v7 := .null) (2 ^ hc) 0 I (by omega) ch_rfl (fun _ q => absurd q (by omega)) fun I2 v2 a b => by
    have k2 := m_fdB (kt := kt) (J := J) (T := T) (n := n) (s := s) (K := K) hr (I0 := I) hN wc I2 .null .null .null .null .null (Nat.le_refl _) a b fun I3 v2 v3 v4 v5 v6 v7 c d => by
      have k3 := m_fdF (kt := kt) (J := J) (T := T) (n := n) (s := s) (K := K) hr (I0 := I3) (PG_108 c hN) d wc 0 I3 (fun _ => 99) (fun _ => 0) v4 v5 v6 v7 (by omega) ch_rfl (fun _ q => absurd q (by omega)) ⟨rfl, fun _ q => absurd q (by omega)⟩ fun I4 d4 U4 e f g => hK I4 d4 U4 (ch_tr c e fun r q => q.elim id fun q => q.elim (fun q => .inr (.inl q)) fun q => .inr (.inr q)) f g
      refine am_wq_T (cut := fun z pc => (Nat.beq z 151 && Nat.beq pc 217)) (inl := fun _ => false) 120 _ _ _ ?_
      exact k3
    refine am_wq_T (cut := fun z pc => (Nat.beq z 151 && Nat.beq pc 45)) (inl := fun _ => false) 120 _ _ _ ?_
    exact k2
  rw [← e7] at key
  refine am_wq_T (cut := fun z pc => (Nat.beq z 151 && Nat.beq pc 10)) (inl := fun _ => false) 120 _ _ _ ?_
  exact And.intro rfl (And.intro ⟨rfl, vp7⟩ key)
end T54
