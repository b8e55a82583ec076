/-! what is dealt: prices (pure) -/
section T41
def eD (w : Nat) : Int := 11 ^ (6 - w)
theorem eD_s {w : Nat} (h : w < 6) : eD w = 11 * eD (w + 1) := by
  unfold eD
  rw [show 6 - w = (6 - (w + 1)) + 1 by omega, Int.pow_succ, Int.mul_comm]
theorem eD_0 : eD 0 = 1771561 := by decide
theorem eD_pos (w : Nat) : 0 < eD w := by
  unfold eD
  exact Int.pow_pos (by decide)
def dgt (x : Nat) : Int := if x = 99 then 10 else x
def um (a : Nat → Nat) (w : Nat) : Int := if a w = 99 then 1 else 0
def ml (far : Nat → Nat → Int) (a : Nat → Nat) (w : Nat) : Int := if a w = 99 then 0 else far w (a w)
def cd (a : Nat → Nat) (w : Nat) : Int := dgt (a w) * eD (w + 1)
def pr (far : Nat → Nat → Int) (a : Nat → Nat) (w : Nat) : Int := 310023175 * um a w + 1771561 * ml far a w + cd a w
def price (far : Nat → Nat → Int) (W : Nat) (a : Nat → Nat) : Int := sm (pr far a) W
def IsMin (tk : Nat → Nat → Bool) (far : Nat → Nat → Int) (W : Nat) (p : Int) : Prop := (∃ a, Val tk W a ∧ price far W a = p) ∧ ∀ a, Val tk W a → p ≤ price far W a
/-- miles that are told, holes with one digit -/
def Fr (tk : Nat → Nat → Bool) (far : Nat → Nat → Int) : Prop := ∀ w h, tk w h = true → h < 10 ∧ 0 ≤ far w h ∧ far w h ≤ 29
theorem price_eq (far : Nat → Nat → Int) (a : Nat → Nat) : ∀ W, price far W a = 310023175 * sm (um a) W + 1771561 * sm (ml far a) W + sm (cd a) W
  | 0 => rfl
  | W + 1 => by
    have := price_eq far a W
    unfold price at *
    rw [sm_s, sm_s, sm_s, sm_s, this]
    unfold pr; omega
variable {tk : Nat → Nat → Bool} {far : Nat → Nat → Int} {W : Nat} {a : Nat → Nat}
theorem um_metc (a : Nat → Nat) : ∀ W : Nat, sm (um a) W = W - metc W a
  | 0 => rfl
  | W + 1 => by
    have := um_metc a W
    unfold metc at *
    rw [sm_s, sm_s, this]
    unfold um
    by_cases h : a W = 99
    · rw [if_pos h, i1_f (by simp [h])]; omega
    · rw [if_neg h, i1_t (by simp [h])]; omega
theorem dgt_b (hF : Fr tk far) {w : Nat} (h : a w ≠ 99 → tk w (a w) = true) : 0 ≤ dgt (a w) ∧ dgt (a w) ≤ 10 := by
  unfold dgt
  by_cases q : a w = 99
  · rw [if_pos q]; decide
  · rw [if_neg q]; have := hF _ _ (h q); omega
theorem ml_b (hF : Fr tk far) {w : Nat} (h : a w ≠ 99 → tk w (a w) = true) : 0 ≤ ml far a w ∧ ml far a w ≤ 29 := by
  unfold ml
  by_cases q : a w = 99
  · rw [if_pos q]; decide
  · rw [if_neg q]; have := hF _ _ (h q); omega
theorem um_b (a : Nat → Nat) (w : Nat) : 0 ≤ um a w ∧ um a w ≤ 1 := by
  unfold um
  by_cases q : a w = 99
  · rw [if_pos q]; decide
  · rw [if_neg q]; decide
theorem cd_b (hF : Fr tk far) {w : Nat} (h : a w ≠ 99 → tk w (a w) = true) : 0 ≤ cd a w ∧ cd a w ≤ 10 * eD (w + 1) := by
  have := dgt_b hF h
  have e := eD_pos (w + 1)
  unfold cd
  exact ⟨Int.mul_nonneg this.1 (by omega), Int.mul_le_mul_of_nonneg_right this.2 (by omega)⟩
theorem sm_b (hF : Fr tk far) : ∀ W, W ≤ 6 → (∀ w, w < W → a w ≠ 99 → tk w (a w) = true) → (0 ≤ sm (um a) W ∧ sm (um a) W ≤ W) ∧ (0 ≤ sm (ml far a) W ∧ sm (ml far a) W ≤ 29 * W) ∧ 0 ≤ sm (cd a) W ∧ sm (cd a) W + eD W ≤ eD 0
  | 0, _, _ => ⟨⟨Int.le_refl 0, Int.le_refl 0⟩, ⟨Int.le_refl 0, Int.le_refl 0⟩, Int.le_refl 0, by show (0 : Int) + _ ≤ _; omega⟩
  | W + 1, hW, h => by
    obtain ⟨h1, h2, h3⟩ := sm_b hF W (by omega) fun w hw => h w (by omega)
    have a1 := um_b a W
    have a2 := ml_b hF (h W (by omega))
    have a3 := cd_b hF (h W (by omega))
    have e := eD_s (w := W) (by omega)
    rw [sm_s, sm_s, sm_s]
    omega
theorem price_b (hF : Fr tk far) (hW : W ≤ 6) (h : Val tk W a) : 0 ≤ price far W a ∧ price far W a ≤ 2170162225 := by
  have b := sm_b hF W hW h.1
  have e := eD_pos W
  have e0 := eD_0
  rw [price_eq]; omega
theorem IsMin_max {p : Int} (hF : Fr tk far) (hW : W ≤ 6) (h : IsMin tk far W p) : ∃ n : Int, 0 ≤ n ∧ n ≤ W ∧ IsMax tk W n ∧ p / 310023175 = W - n := by
  obtain ⟨⟨a, a1, a2⟩, a3⟩ := h
  have b := sm_b hF W hW a1.1
  have e := eD_pos W
  have e0 := eD_0
  have pe := price_eq far a W
  have u := um_metc a W
  refine ⟨metc W a, by omega, by omega, ⟨⟨a, a1, rfl⟩, fun c hc => ?_⟩, by omega⟩
  have b' := sm_b hF W hW hc.1
  have pe' := price_eq far c W
  have u' := um_metc c W
  have := a3 c hc
  omega
theorem IsMin_of {p : Int} (h : IsMin tk far W p) (h1 : Val tk W a) (h2 : ∀ b, Val tk W b → price far W a ≤ price far W b) : p = price far W a := by
  obtain ⟨⟨c, c1, c2⟩, c3⟩ := h
  have := c3 a h1
  have := h2 c c1
  omega
theorem price_mil (hF : Fr tk far) (hW : W ≤ 6) (h : Val tk W a) : price far W a % 310023175 / 1771561 = sm (ml far a) W := by
  have b := sm_b hF W hW h.1
  have e := eD_pos W
  have e0 := eD_0
  rw [price_eq]; omega
theorem cd6 (a : Nat → Nat) : cd a 0 = dgt (a 0) * 161051 ∧ cd a 1 = dgt (a 1) * 14641 ∧ cd a 2 = dgt (a 2) * 1331 ∧ cd a 3 = dgt (a 3) * 121 ∧ cd a 4 = dgt (a 4) * 11 ∧ cd a 5 = dgt (a 5) * 1 := ⟨rfl, rfl, rfl, rfl, rfl, rfl⟩
theorem eD6 : eD 1 = 161051 ∧ eD 2 = 14641 ∧ eD 3 = 1331 ∧ eD 4 = 121 ∧ eD 5 = 11 ∧ eD 6 = 1 := by decide
theorem price_dgt (hF : Fr tk far) (hW : W ≤ 6) (h : Val tk W a) {w : Nat} (hw : w < W) : price far W a % 1771561 / eD (w + 1) % 11 = dgt (a w) := by
  have b := sm_b hF W hW h.1
  have e := eD_pos W
  have e0 := eD_0
  have e1 : price far W a % 1771561 = sm (cd a) W := by rw [price_eq]; omega
  rw [e1]
  have d : ∀ i, i < W → 0 ≤ dgt (a i) ∧ dgt (a i) ≤ 10 := fun i hi => dgt_b hF (h.1 i hi)
  obtain ⟨c0, c1, c2, c3, c4, c5⟩ := cd6 a
  obtain ⟨f1, f2, f3, f4, f5, f6⟩ := eD6
  clear e1 e e0 b h hF
  have hWc : W = 1 ∨ W = 2 ∨ W = 3 ∨ W = 4 ∨ W = 5 ∨ W = 6 := by omega
  have d0 := d 0
  have d1 := d 1
  have d2 := d 2
  have d3 := d 3
  have d4 := d 4
  have d5 := d 5
  clear d
  rcases hWc with rfl | rfl | rfl | rfl | rfl | rfl
  all_goals
    simp only [sm, c0, c1, c2, c3, c4, c5]
    have hwc : w = 0 ∨ w = 1 ∨ w = 2 ∨ w = 3 ∨ w = 4 ∨ w = 5 := by omega
    rcases hwc with rfl | rfl | rfl | rfl | rfl | rfl
    all_goals first | omega | (simp only [Nat.reduceAdd, f1, f2, f3, f4, f5, f6]; omega)
/-! one hole behind the other: the least price for each set of wants -/
def msk (a : Nat → Nat) : Nat → Nat
  | 0 => 0
  | w + 1 => msk a w + if a w = 99 then 0 else 2 ^ w
theorem msk_lt (a : Nat → Nat) : ∀ w, msk a w < 2 ^ w
  | 0 => by show (0 : Nat) < 2 ^ 0; decide
  | w + 1 => by
    have := msk_lt a w
    have e : 2 ^ (w + 1) = 2 ^ w + 2 ^ w := by rw [Nat.pow_succ]; omega
    unfold msk
    split <;> omega
theorem msk_bit (a : Nat → Nat) {w : Nat} : ∀ W, w < W → (msk a W).testBit w = decide (a w ≠ 99)
  | 0, h => absurd h (by omega)
  | W + 1, h => by
    unfold msk
    by_cases e : w = W
    · subst e
      by_cases q : a w = 99
      · rw [if_pos q, Nat.add_zero, Nat.testBit_lt_two_pow (msk_lt a w)]; simp [q]
      · rw [if_neg q, Nat.add_comm, Nat.testBit_two_pow_add_eq, Nat.testBit_lt_two_pow (msk_lt a w)]; simp [q]
    · have ih := msk_bit a (w := w) W (by omega)
      by_cases q : a W = 99
      · rw [if_pos q, Nat.add_zero]; exact ih
      · rw [if_neg q, Nat.add_comm, Nat.testBit_two_pow_add_gt (by omega)]; exact ih
theorem msk_up {w x : Nat} (hx : x ≠ 99) (ha : a w = 99) : ∀ W, msk (up1 a w x) W = msk a W + if w < W then 2 ^ w else 0
  | 0 => rfl
  | W + 1 => by
    have ih := msk_up hx ha W
    unfold msk
    rw [ih]
    by_cases e : w = W
    · subst e
      rw [up1_eq, if_neg hx, ha, if_pos rfl, if_neg (by omega), if_pos (by omega)]
    · rw [up1_ne (Ne.symm e)]
      by_cases q : w < W
      · rw [if_pos q, if_pos (show w < W + 1 by omega)]; omega
      · rw [if_neg q, if_neg (show ¬ w < W + 1 by omega)]; omega
def NV : Int := 4611686018427387904
def VH (tk : Nat → Nat → Bool) (W h : Nat) (a : Nat → Nat) : Prop := Val tk W a ∧ ∀ w, w < W → a w ≠ 99 → a w < h
def PI (tk : Nat → Nat → Bool) (far : Nat → Nat → Int) (W h : Nat) (L : Nat → Int) : Prop :=
  (∀ S, S < 64 → L S = NV ∨ ∃ a, VH tk W h a ∧ msk a W = S ∧ L S = price far W a) ∧ ∀ a, VH tk W h a → L (msk a W) ≤ price far W a
/-- what a hole's offer makes of the row -/
def OF (W : Nat) (p : Nat → Int) (L L' : Nat → Int) : Prop :=
  (∀ S, S < 64 → L' S ≤ L S) ∧ (∀ S w, S < 64 → w < W → S.testBit w = false → L S ≠ NV → p w ≠ NV → L' (S + 2 ^ w) ≤ L S + p w) ∧
  ∀ S, S < 64 → L' S = L S ∨ ∃ w S', w < W ∧ S = S' + 2 ^ w ∧ S'.testBit w = false ∧ L S' ≠ NV ∧ p w ≠ NV ∧ L' S = L S' + p w
theorem msk64 (hW : W ≤ 6) (a : Nat → Nat) : msk a W < 64 := Nat.lt_of_lt_of_le (msk_lt a W) (Nat.pow_le_pow_right (by decide) hW)
theorem PI_0 {L : Nat → Int} (h0 : L 0 = sm (fun w => 310023175 + 10 * eD (w + 1)) W) (h1 : ∀ S, S < 64 → S ≠ 0 → L S = NV) : PI tk far W 0 L := by
  have e0 : ∀ (a : Nat → Nat), (∀ w, w < W → a w = 99) → msk a W = 0 ∧ price far W a = L 0 := by
    intro a ha
    constructor
    · have : ∀ V, V ≤ W → msk a V = 0 := by
        intro V
        induction V with
        | zero => intro _; rfl
        | succ V ih => intro hV; unfold msk; rw [ih (by omega), if_pos (ha V (by omega))]
      exact this W (Nat.le_refl _)
    · rw [h0]
      refine sm_eq W fun w hw => ?_
      unfold pr um ml cd dgt
      rw [ha w hw]
      simp
  refine ⟨fun S hS => ?_, fun a ha => ?_⟩
  · by_cases q : S = 0
    · subst q
      have e := e0 (fun _ => 99) fun _ _ => rfl
      exact .inr ⟨fun _ => 99, ⟨⟨fun _ _ q => absurd rfl q, fun _ _ _ _ _ => .inr rfl⟩, fun _ _ q => absurd rfl q⟩, e.1, e.2.symm⟩
    · exact .inl (h1 S hS q)
  · have e := e0 a fun w hw => by
      by_cases q : a w = 99
      · exact q
      · have := ha.2 w hw q; omega
    rw [e.1, e.2]
    exact Int.le_refl _
theorem price_up {w x : Nat} (hw : w < W) : price far W (up1 a w x) = price far W a + pr far (up1 a w x) w - pr far a w := by
  unfold price
  exact sm_upd (h := w) (fun i hi => by unfold pr um ml cd; rw [up1_ne hi]) W hw
theorem PI_step {p L L' : Nat → Int} {h : Nat} (hF : Fr tk far) (hW : W ≤ 6) (hh : h < 10) (hP : PI tk far W h L) (hO : OF W p L L') (hp : ∀ w, w < W → p w = if tk w h = true then far w h * 1771561 - 310023175 + ((h : Int) - 10) * eD (w + 1) else NV) : PI tk far W (h + 1) L' := by
  have pe : ∀ a w, a w = 99 → pr far (up1 a w h) w - pr far a w = far w h * 1771561 - 310023175 + ((h : Int) - 10) * eD (w + 1) := by
    intro a w ha
    unfold pr um ml cd dgt
    rw [up1_eq, ha, if_neg (show ¬ h = 99 by omega), if_neg (show ¬ h = 99 by omega), if_neg (show ¬ h = 99 by omega), if_pos rfl, if_pos rfl, if_pos rfl, Int.sub_mul]
    omega
  refine ⟨fun S hS => ?_, fun a ha => ?_⟩
  · rcases hO.2.2 S hS with q | ⟨w, S', w1, w2, w3, w4, w5, w6⟩
    · rcases hP.1 S hS with c | ⟨a, a1, a2, a3⟩
      · exact .inl (by rw [q]; exact c)
      · exact .inr ⟨a, ⟨a1.1, fun w hw h9 => by have := a1.2 w hw h9; omega⟩, a2, by rw [q]; exact a3⟩
    · have hS' : S' < 64 := by
        have : 0 < 2 ^ w := Nat.pow_pos (by decide)
        omega
      rcases hP.1 S' hS' with c | ⟨a, a1, a2, a3⟩
      · exact absurd c w4
      · have a9 : a w = 99 := by
          have := msk_bit a W w1
          rw [a2, w3] at this
          have := of_decide_eq_false this.symm
          omega
        have ht : tk w h = true := by
          have := hp w w1
          by_cases q : tk w h = true
          · exact q
          · rw [if_neg q] at this; exact absurd this w5
        refine .inr ⟨up1 a w h, ⟨⟨fun v hv h9 => ?_, fun v v' hv hv' e => ?_⟩, fun v hv h9 => ?_⟩, ?_, ?_⟩
        · by_cases e : v = w
          · subst e; rw [up1_eq]; exact ht
          · rw [up1_ne e] at h9 ⊢; exact a1.1.1 v hv h9
        · by_cases e1 : v = w
          · by_cases e2 : v' = w
            · left; omega
            · subst e1
              rw [up1_eq, up1_ne e2] at e
              by_cases q : a v' = 99
              · omega
              · have := a1.2 v' hv' q; omega
          · by_cases e2 : v' = w
            · subst e2
              rw [up1_eq, up1_ne e1] at e
              by_cases q : a v = 99
              · omega
              · have := a1.2 v hv q; omega
            · rw [up1_ne e1, up1_ne e2] at e
              rw [up1_ne e1]
              exact a1.1.2 v v' hv hv' e
        · by_cases e : v = w
          · subst e; rw [up1_eq]; omega
          · rw [up1_ne e] at h9 ⊢; have := a1.2 v hv h9; omega
        · rw [msk_up (by omega) a9, if_pos w1, a2]; exact w2.symm
        · rw [price_up w1, w6, a3, hp w w1, if_pos ht]
          have := pe a w a9
          omega
  · by_cases hx : ∃ w, w < W ∧ a w = h
    · obtain ⟨w, hw, e⟩ := hx
      have ht : tk w h = true := by rw [← e]; exact ha.1.1 w hw (by omega)
      have others : ∀ v, v < W → v ≠ w → a v ≠ h := fun v hv ne q => by
        rcases ha.1.2 v w hv hw (by rw [q, e]) with c | c
        · exact ne c
        · omega
      have hb : VH tk W h (up1 a w 99) := by
        refine ⟨⟨fun v hv h9 => ?_, fun v v' hv hv' q => ?_⟩, fun v hv h9 => ?_⟩
        · by_cases e : v = w
          · subst e; rw [up1_eq] at h9; exact absurd rfl h9
          · rw [up1_ne e] at h9 ⊢; exact ha.1.1 v hv h9
        · by_cases e1 : v = w
          · subst e1; right; exact up1_eq _ _ _
          · rw [up1_ne e1] at q ⊢
            by_cases e2 : v' = w
            · subst e2; rw [up1_eq] at q; exact .inr q
            · rw [up1_ne e2] at q; exact ha.1.2 v v' hv hv' q
        · by_cases e : v = w
          · subst e; rw [up1_eq] at h9; exact absurd rfl h9
          · rw [up1_ne e] at h9 ⊢
            have := ha.2 v hv h9
            have := others v hv e
            omega
      have ea : up1 (up1 a w 99) w h = a := by
        funext v
        by_cases q : v = w
        · subst q; rw [up1_eq, e]
        · rw [up1_ne q, up1_ne q]
      have h9 : up1 a w 99 w = 99 := up1_eq _ _ _
      have m1 := msk_up (a := up1 a w 99) (w := w) (x := h) (by omega) h9 W
      rw [ea, if_pos hw] at m1
      have p1 := price_up (far := far) (a := up1 a w 99) (w := w) (x := h) hw
      have p2 := pe _ w h9
      rw [ea] at p1 p2
      have l1 := hP.2 _ hb
      have pb := price_b hF hW hb.1
      have pw := hp w hw
      rw [if_pos ht] at pw
      have ne1 : L (msk (up1 a w 99) W) ≠ NV := by unfold NV; omega
      have ep : eD (w + 1) ≤ 1771561 := by
        obtain ⟨f1, f2, f3, f4, f5, f6⟩ := eD6
        have hwc : w = 0 ∨ w = 1 ∨ w = 2 ∨ w = 3 ∨ w = 4 ∨ w = 5 := by omega
        rcases hwc with rfl | rfl | rfl | rfl | rfl | rfl <;> simp only [Nat.reduceAdd, f1, f2, f3, f4, f5, f6] <;> decide
      have ne2 : p w ≠ NV := by
        have f := hF _ _ ht
        have e1 := eD_pos (w + 1)
        have : ((h : Int) - 10) * eD (w + 1) ≤ 0 := Int.mul_nonpos_of_nonpos_of_nonneg (by omega) (by omega)
        unfold NV; omega
      have bit : (msk (up1 a w 99) W).testBit w = false := by rw [msk_bit _ W hw, h9]; rfl
      have := hO.2.1 _ w (msk64 hW _) hw bit ne1 ne2
      rw [← m1] at this
      omega
    · have hb : VH tk W h a := ⟨ha.1, fun v hv h9 => by
        have := ha.2 v hv h9
        have : a v ≠ h := fun q => hx ⟨v, hv, q⟩
        omega⟩
      exact Int.le_trans (hO.1 _ (msk64 hW a)) (hP.2 a hb)
/-- a hole that is left out -/
theorem PI_skip {L : Nat → Int} {h : Nat} (hP : PI tk far W h L) (hn : ∀ w, tk w h = false) : PI tk far W (h + 1) L := by
  refine ⟨fun S hS => ?_, fun a ha => hP.2 a ⟨ha.1, fun v hv h9 => ?_⟩⟩
  · rcases hP.1 S hS with c | ⟨a, a1, a2, a3⟩
    · exact .inl c
    · exact .inr ⟨a, ⟨a1.1, fun w hw h9 => by have := a1.2 w hw h9; omega⟩, a2, a3⟩
  · have := ha.2 v hv h9
    have : a v ≠ h := fun q => by
      have := ha.1.1 v hv h9
      rw [q, hn] at this; cases this
    omega
theorem PI_min {L : Nat → Int} {hc : Nat} {p : Int} (hF : Fr tk far) (hW : W ≤ 6) (htk : ∀ w h, tk w h = true → h < hc) (hP : PI tk far W hc L) (h1 : ∀ S, S < 64 → p ≤ L S) (h2 : p = NV ∨ ∃ S, S < 64 ∧ p = L S) : IsMin tk far W p := by
  have up : ∀ a, Val tk W a → p ≤ price far W a := fun a ha => Int.le_trans (h1 _ (msk64 hW a)) (hP.2 a ⟨ha, fun w hw h9 => htk _ _ (ha.1 w hw h9)⟩)
  refine ⟨?_, up⟩
  have v0 : Val tk W (fun _ => 99) := ⟨fun _ _ q => absurd rfl q, fun _ _ _ _ _ => .inr rfl⟩
  have b := price_b hF hW v0
  have u := up _ v0
  have ne : p ≠ NV := by unfold NV; omega
  rcases h2 with q | ⟨S, hS, e⟩
  · exact absurd q ne
  · rcases hP.1 S hS with c | ⟨a, a1, a2, a3⟩
    · exact absurd (e.trans c) ne
    · exact ⟨a, a1.1, by omega⟩
end T41
