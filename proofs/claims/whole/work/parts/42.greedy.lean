/-! the dealing, want by want: the greatest score, then the least hole (pure) -/
section T42
def sx (f : Nat → Int) (w : Nat) : Nat → Int
  | 0 => 0
  | k + 1 => f w + sx f (w + 1) k
theorem sx_s (f : Nat → Int) (w k : Nat) : sx f w (k + 1) = f w + sx f (w + 1) k := rfl
theorem sm_sx (f : Nat → Int) : ∀ k w, sm f (w + k) = sm f w + sx f w k
  | 0, w => (Int.add_zero _).symm
  | k + 1, w => by
    rw [show w + (k + 1) = (w + 1) + k by omega, sm_sx f k (w + 1), sm_s, sx_s]
    omega
def sc (far : Nat → Nat → Int) (a : Nat → Nat) (w : Nat) : Int := if a w = 99 then 0 else 1000 - far w (a w)
def bor (u h : Nat) : Nat := u ||| 1 <<< h
theorem bor_bit (u h k : Nat) : (bor u h).testBit k = (u.testBit k || decide (h = k)) := by
  unfold bor
  rw [Nat.testBit_or, Nat.one_shiftLeft, Nat.testBit_two_pow]
theorem bor_lt {u h hc : Nat} (hu : u < 2 ^ hc) (hh : h < hc) : bor u h < 2 ^ hc := by
  unfold bor
  rw [Nat.one_shiftLeft]
  exact Nat.or_lt_two_pow hu (Nat.pow_lt_pow_right (by decide) hh)
/-- the table of scores -/
def GS (tk : Nat → Nat → Bool) (far : Nat → Nat → Int) (W hc : Nat) (S : Nat → Nat → Int) : Prop :=
  (∀ u, u < 2 ^ hc → S W u = 0) ∧ ∀ w u, w < W → u < 2 ^ hc → S (w + 1) u ≤ S w u ∧
    (∀ h, h < hc → tk w h = true → u.testBit h = false → S (w + 1) (bor u h) + 1000 - far w h ≤ S w u) ∧
    (S w u = S (w + 1) u ∨ ∃ h, h < hc ∧ tk w h = true ∧ u.testBit h = false ∧ S w u = S (w + 1) (bor u h) + 1000 - far w h)
def GC (tk : Nat → Nat → Bool) (far : Nat → Nat → Int) (S : Nat → Nat → Int) (u w h : Nat) : Prop := u.testBit h = false ∧ tk w h = true ∧ S (w + 1) (bor u h) + 1000 - far w h = S w u
/-- what is dealt out of it -/
def GD (tk : Nat → Nat → Bool) (far : Nat → Nat → Int) (W hc : Nat) (S : Nat → Nat → Int) (d U : Nat → Nat) : Prop :=
  U 0 = 0 ∧ ∀ w, w < W → U (w + 1) = (if d w = 99 then U w else bor (U w) (d w)) ∧ (d w ≠ 99 → d w < hc ∧ GC tk far S (U w) w (d w)) ∧ ∀ h, h < hc → GC tk far S (U w) w h → d w ≠ 99 ∧ d w ≤ h
def SV (tk : Nat → Nat → Bool) (u w k : Nat) (a : Nat → Nat) : Prop :=
  (∀ i, w ≤ i → i < w + k → a i ≠ 99 → tk i (a i) = true ∧ u.testBit (a i) = false) ∧ ∀ i j, w ≤ i → i < w + k → w ≤ j → j < w + k → a i = a j → i = j ∨ a i = 99
variable {tk : Nat → Nat → Bool} {far : Nat → Nat → Int} {W hc : Nat} {a d U : Nat → Nat} {S : Nat → Nat → Int}
theorem SV_step {u w k : Nat} (h : SV tk u w (k + 1) a) : SV tk (if a w = 99 then u else bor u (a w)) (w + 1) k a := by
  refine ⟨fun i h1 h2 h9 => ⟨(h.1 i (by omega) (by omega) h9).1, ?_⟩, fun i j h1 h2 h3 h4 => h.2 i j (by omega) (by omega) (by omega) (by omega)⟩
  have q := (h.1 i (by omega) (by omega) h9).2
  by_cases e : a w = 99
  · rw [if_pos e]; exact q
  · rw [if_neg e, bor_bit, q, Bool.false_or]
    apply decide_eq_false
    intro q2
    rcases h.2 w i (by omega) (by omega) (by omega) (by omega) q2 with c | c
    · omega
    · exact e c
theorem sx_le (hS : GS tk far W hc S) (htk : ∀ w h, tk w h = true → h < hc) : ∀ k w u, w + k = W → u < 2 ^ hc → SV tk u w k a → sx (sc far a) w k ≤ S w u
  | 0, w, u, e, hu, _ => by
    have : w = W := by omega
    subst this
    rw [hS.1 u hu]; exact Int.le_refl _
  | k + 1, w, u, e, hu, h => by
    obtain ⟨g1, g2, -⟩ := hS.2 w u (by omega) hu
    have st := SV_step h
    rw [sx_s]
    unfold sc
    by_cases q : a w = 99
    · rw [if_pos q] at st ⊢
      have := sx_le hS htk k (w + 1) u (by omega) hu st
      unfold sc at this
      omega
    · rw [if_neg q] at st ⊢
      have c := h.1 w (by omega) (by omega) q
      have hl := htk _ _ c.1
      have := sx_le hS htk k (w + 1) (bor u (a w)) (by omega) (bor_lt hu hl) st
      have := g2 (a w) hl c.1 c.2
      unfold sc at *
      omega
theorem GD_lt (hG : GD tk far W hc S d U) : ∀ w, w ≤ W → U w < 2 ^ hc
  | 0, _ => by rw [hG.1]; exact Nat.pow_pos (by decide)
  | w + 1, h => by
    have := GD_lt hG w (by omega)
    rw [(hG.2 w (by omega)).1]
    by_cases q : d w = 99
    · rw [if_pos q]; exact this
    · rw [if_neg q]; exact bor_lt this ((hG.2 w (by omega)).2.1 q).1
theorem GD_mono (hG : GD tk far W hc S d U) {w h : Nat} (hb : (U w).testBit h = true) : ∀ k, w + k ≤ W → (U (w + k)).testBit h = true
  | 0, _ => hb
  | k + 1, hk => by
    have := GD_mono hG hb k (by omega)
    rw [show w + (k + 1) = (w + k) + 1 by omega, (hG.2 (w + k) (by omega)).1]
    by_cases q : d (w + k) = 99
    · rw [if_pos q]; exact this
    · rw [if_neg q, bor_bit, this]; rfl
theorem GD_val (hG : GD tk far W hc S d U) : Val tk W d := by
  have key : ∀ i j, i < j → j < W → d i = d j → d i = 99 := by
    intro i j hij hj e
    by_cases q : d i = 99
    · exact q
    · have b : (U (i + 1)).testBit (d i) = true := by
        rw [(hG.2 i (by omega)).1, if_neg q, bor_bit]; simp
      have b2 := GD_mono hG b (j - (i + 1)) (by omega)
      rw [show i + 1 + (j - (i + 1)) = j by omega] at b2
      have := ((hG.2 j hj).2.1 (by rw [← e]; exact q)).2.1
      rw [← e, b2] at this; cases this
  refine ⟨fun w hw h9 => ((hG.2 w hw).2.1 h9).2.2.1, fun i j hi hj e => ?_⟩
  rcases Nat.lt_trichotomy i j with c | c | c
  · exact .inr (key i j c hj e)
  · exact .inl c
  · right; rw [e]; exact key j i c hi e.symm
theorem GD_sc (hS : GS tk far W hc S) (hG : GD tk far W hc S d U) : ∀ k w, w + k = W → sx (sc far d) w k = S w (U w)
  | 0, w, e => by
    have : w = W := by omega
    subst this
    rw [hS.1 _ (GD_lt hG w (Nat.le_refl _))]; rfl
  | k + 1, w, e => by
    have ih := GD_sc hS hG k (w + 1) (by omega)
    obtain ⟨g1, g2, g3⟩ := hG.2 w (by omega)
    rw [sx_s, ih, g1]
    unfold sc
    by_cases q : d w = 99
    · rw [if_pos q, if_pos q]
      rcases (hS.2 w (U w) (by omega) (GD_lt hG w (by omega))).2.2 with c | ⟨h, c1, c2, c3, c4⟩
      · rw [c]; omega
      · exact absurd q (g3 h c1 ⟨c3, c2, c4.symm⟩).1
    · rw [if_neg q, if_neg q]
      have := (g2 q).2.2.2
      omega
theorem sx_pr (far : Nat → Nat → Int) (a : Nat → Nat) : ∀ k w, sx (pr far a) w k = 310023175 * sx (um a) w k + 1771561 * sx (ml far a) w k + sx (cd a) w k
  | 0, _ => rfl
  | k + 1, w => by
    rw [sx_s, sx_s, sx_s, sx_s, sx_pr far a k (w + 1)]
    unfold pr; omega
theorem sx_sc (far : Nat → Nat → Int) (a : Nat → Nat) : ∀ (k : Nat) (w : Nat), sx (sc far a) w k = 1000 * (k - sx (um a) w k) - sx (ml far a) w k
  | 0, _ => rfl
  | k + 1, w => by
    rw [sx_s, sx_s, sx_s, sx_sc far a k (w + 1)]
    unfold sc um ml
    by_cases q : a w = 99
    · rw [if_pos q, if_pos q, if_pos q]; omega
    · rw [if_neg q, if_neg q, if_neg q]; omega
theorem sx_b (hF : Fr tk far) : ∀ (k w : Nat), w + k ≤ 6 → (∀ i, w ≤ i → i < w + k → a i ≠ 99 → tk i (a i) = true) → (0 ≤ sx (um a) w k ∧ sx (um a) w k ≤ k) ∧ (0 ≤ sx (ml far a) w k ∧ sx (ml far a) w k ≤ 29 * k) ∧ 0 ≤ sx (cd a) w k ∧ sx (cd a) w k + eD (w + k) ≤ eD w
  | 0, _, _, _ => ⟨⟨Int.le_refl 0, Int.le_refl 0⟩, ⟨Int.le_refl 0, Int.le_refl 0⟩, Int.le_refl 0, by show (0 : Int) + _ ≤ _; rw [Nat.add_zero]; omega⟩
  | k + 1, w, hk, h => by
    obtain ⟨h1, h2, h3⟩ := sx_b hF k (w + 1) (by omega) fun i a b => h i (by omega) (by omega)
    have a1 := um_b a w
    have a2 := ml_b hF (h w (by omega) (by omega))
    have a3 := cd_b hF (h w (by omega) (by omega))
    have e := eD_s (w := w) (by omega)
    rw [sx_s, sx_s, sx_s, show w + (k + 1) = w + 1 + k by omega]
    omega
theorem GD_le (hF : Fr tk far) (hW : W ≤ 6) (hS : GS tk far W hc S) (hG : GD tk far W hc S d U) (htk : ∀ w h, tk w h = true → h < hc) {b : Nat → Nat} : ∀ k w, w + k = W → SV tk (U w) w k b → sx (pr far d) w k ≤ sx (pr far b) w k
  | 0, _, _, _ => Int.le_refl _
  | k + 1, w, e, h => by
    obtain ⟨g1, g2, g3⟩ := hG.2 w (by omega)
    have hv := GD_val hG
    have st := SV_step h
    by_cases q : b w = d w
    · rw [q, ← g1] at st
      have ih := GD_le hF hW hS hG htk k (w + 1) (by omega) st
      rw [sx_s, sx_s]
      have : pr far d w = pr far b w := by unfold pr um ml cd; rw [q]
      omega
    · have bd := sx_b hF (a := d) (k + 1) w (by omega) fun i _ _ => hv.1 i (by omega)
      have bb := sx_b hF (a := b) (k + 1) w (by omega) fun i x y z => (h.1 i x y z).1
      have sd := GD_sc hS hG (k + 1) w e
      have sb := sx_le (a := b) hS htk (k + 1) w (U w) e (GD_lt hG w (by omega)) h
      rw [sx_pr, sx_pr]
      rw [sx_sc] at sd sb
      have e0 := eD_pos (w + (k + 1))
      have ew : eD w ≤ 1771561 := by
        obtain ⟨f1, f2, f3, f4, f5, f6⟩ := eD6
        have hwc : w = 0 ∨ w = 1 ∨ w = 2 ∨ w = 3 ∨ w = 4 ∨ w = 5 := by omega
        rcases hwc with rfl | rfl | rfl | rfl | rfl | rfl <;> first | (rw [eD_0]; decide) | (simp only [f1, f2, f3, f4, f5, f6]; decide)
      by_cases eq : sx (um b) w (k + 1) = sx (um d) w (k + 1) ∧ sx (ml far b) w (k + 1) = sx (ml far d) w (k + 1)
      · have lt : dgt (d w) + 1 ≤ dgt (b w) := by
          have sb1 := sx_le (a := b) hS htk k (w + 1) _ (by omega) (by
            by_cases c : b w = 99
            · rw [if_pos c]; exact GD_lt hG w (by omega)
            · rw [if_neg c]; exact bor_lt (GD_lt hG w (by omega)) (htk _ _ (h.1 w (by omega) (by omega) c).1)) st
          have sd2 : sx (sc far b) w (k + 1) = S w (U w) := by rw [sx_sc, eq.1, eq.2]; exact sd
          rw [sx_s] at sd2
          by_cases c : b w = 99
          · have nd : d w ≠ 99 := fun x => q (by rw [c, x])
            have l := htk _ _ (hv.1 w (by omega) nd)
            have l2 := (hF _ _ (hv.1 w (by omega) nd)).1
            unfold dgt
            rw [if_pos c, if_neg nd]; omega
          · rw [if_neg c] at sb1
            have hb := h.1 w (by omega) (by omega) c
            have hl := htk _ _ hb.1
            have s1 := ((hS.2 w (U w) (by omega) (GD_lt hG w (by omega))).2.1) (b w) hl hb.1 hb.2
            have es : sc far b w = 1000 - far w (b w) := if_neg c
            rw [es] at sd2
            have g := g3 (b w) hl ⟨hb.2, hb.1, by omega⟩
            unfold dgt
            rw [if_neg c, if_neg g.1]
            omega
        have ep := eD_pos (w + 1)
        have m := Int.mul_le_mul_of_nonneg_right lt (show (0 : Int) ≤ eD (w + 1) by omega)
        rw [Int.add_mul, Int.one_mul] at m
        have rd := sx_b hF (a := d) k (w + 1) (by omega) fun i _ _ => hv.1 i (by omega)
        have rb := sx_b hF (a := b) k (w + 1) (by omega) fun i x y z => (h.1 i (by omega) (by omega) z).1
        have ek := eD_pos (w + 1 + k)
        have c1 : sx (cd d) w (k + 1) = dgt (d w) * eD (w + 1) + sx (cd d) (w + 1) k := rfl
        have c2 : sx (cd b) w (k + 1) = dgt (b w) * eD (w + 1) + sx (cd b) (w + 1) k := rfl
        omega
      · omega
theorem GD_min {p : Int} (hF : Fr tk far) (hW : W ≤ 6) (hS : GS tk far W hc S) (hG : GD tk far W hc S d U) (htk : ∀ w h, tk w h = true → h < hc) (hp : IsMin tk far W p) : Val tk W d ∧ p = price far W d := by
  refine ⟨GD_val hG, IsMin_of hp (GD_val hG) fun b hb => ?_⟩
  have := GD_le hF hW hS hG htk (b := b) W 0 (by omega) ⟨fun i _ hi h9 => ⟨hb.1 i (by omega) h9, by rw [hG.1]; exact Nat.zero_testBit _⟩, fun i j _ h1 _ h2 => hb.2 i j (by omega) (by omega)⟩
  have e1 := sm_sx (pr far d) W 0
  have e2 := sm_sx (pr far b) W 0
  rw [Nat.zero_add] at e1 e2
  unfold price
  rw [e1, e2]
  show (0 : Int) + _ ≤ 0 + _
  omega
end T42
