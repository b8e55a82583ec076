/-! sums; wants and the holes that they have: how many can have one (pure) -/
section T40m
def sm (f : Nat → Int) : Nat → Int
  | 0 => 0
  | n + 1 => sm f n + f n
theorem sm_s (f : Nat → Int) (n : Nat) : sm f (n + 1) = sm f n + f n := rfl
theorem sm_le {f g : Nat → Int} : ∀ n, (∀ i, i < n → f i ≤ g i) → sm f n ≤ sm g n
  | 0, _ => Int.le_refl _
  | n + 1, h => by
    have h1 := sm_le n fun i hi => h i (by omega)
    have h2 := h n (by omega)
    rw [sm_s, sm_s]; omega
theorem sm_eq {f g : Nat → Int} : ∀ n, (∀ i, i < n → f i = g i) → sm f n = sm g n
  | 0, _ => rfl
  | n + 1, h => by
    have h1 := sm_eq n fun i hi => h i (by omega)
    have h2 := h n (by omega)
    rw [sm_s, sm_s, h1, h2]
theorem sm_add (f g : Nat → Int) : ∀ n, sm (fun i => f i + g i) n = sm f n + sm g n
  | 0 => rfl
  | n + 1 => by
    have := sm_add f g n
    rw [sm_s, sm_s, sm_s, this]; omega
theorem sm_0 : ∀ n, sm (fun _ => 0) n = 0
  | 0 => rfl
  | n + 1 => by rw [sm_s, sm_0 n]; rfl
theorem sm_mul (c : Int) (f : Nat → Int) : ∀ n, sm (fun i => c * f i) n = c * sm f n
  | 0 => by simp [sm]
  | n + 1 => by rw [sm_s, sm_s, sm_mul c f n, Int.mul_add]
theorem sm_swap (f : Nat → Nat → Int) (m : Nat) : ∀ n, sm (fun i => sm (f i) m) n = sm (fun j => sm (fun i => f i j) n) m
  | 0 => by show (0 : Int) = sm (fun _ => 0) m; rw [sm_0]
  | n + 1 => by
    rw [sm_s, sm_swap f m n, ← sm_add]
    rfl
def i1 (b : Bool) : Int := bif b then 1 else 0
theorem i1_t {b : Bool} (h : b = true) : i1 b = 1 := by rw [h]; rfl
theorem i1_f {b : Bool} (h : b = false) : i1 b = 0 := by rw [h]; rfl
theorem i1_01 (b : Bool) : 0 ≤ i1 b ∧ i1 b ≤ 1 := by cases b <;> decide
theorem i1_ne {b : Bool} (h : ¬ b = true) : i1 b = 0 := i1_f (by cases b; rfl; exact absurd rfl h)
theorem sm_z {f : Nat → Int} (n : Nat) (h : ∀ i, i < n → f i = 0) : sm f n = 0 := by rw [sm_eq n (g := fun _ => 0) h, sm_0]
theorem sm_nn {f : Nat → Int} (n : Nat) (h : ∀ i, i < n → 0 ≤ f i) : 0 ≤ sm f n := by
  have := sm_le (f := fun _ => 0) n h
  rw [sm_0] at this; exact this
theorem sm_ge {f : Nat → Int} : ∀ n, (∀ i, i < n → 0 ≤ f i) → ∀ i, i < n → f i ≤ sm f n
  | 0, _, i, hi => absurd hi (by omega)
  | n + 1, h, i, hi => by
    rw [sm_s]
    have h0 := sm_nn n fun i hi => h i (by omega)
    have hn := h n (by omega)
    rcases Nat.lt_or_ge i n with c | c
    · have := sm_ge n (fun i hi => h i (by omega)) i c; omega
    · have : i = n := by omega
      subst this; omega
theorem sm_le1 {b : Nat → Bool} : ∀ n, (∀ i j, i < n → j < n → b i = true → b j = true → i = j) → sm (fun i => i1 (b i)) n ≤ 1
  | 0, _ => show (0 : Int) ≤ 1 by decide
  | n + 1, h => by
    rw [sm_s]
    by_cases hb : b n = true
    · rw [sm_z n fun i hi => i1_ne fun q => by have := h i n (by omega) (by omega) q hb; omega]
      have := i1_01 (b n); omega
    · rw [i1_ne hb]
      have := sm_le1 n fun i j hi hj => h i j (by omega) (by omega)
      omega
theorem sm_ex {b : Nat → Bool} : ∀ n, 1 ≤ sm (fun i => i1 (b i)) n → ∃ i, i < n ∧ b i = true
  | 0, h => absurd (show (1 : Int) ≤ 0 from h) (by decide)
  | n + 1, h => by
    by_cases hb : b n = true
    · exact ⟨n, by omega, hb⟩
    · rw [sm_s, i1_ne hb] at h
      obtain ⟨i, h1, h2⟩ := sm_ex (b := b) n (by omega)
      exact ⟨i, by omega, h2⟩
theorem sm_upd {f g : Nat → Int} {h : Nat} (e : ∀ i, i ≠ h → g i = f i) : ∀ n, h < n → sm g n = sm f n + g h - f h
  | 0, hn => absurd hn (by omega)
  | n + 1, hn => by
    rw [sm_s, sm_s]
    rcases Nat.lt_or_ge h n with c | c
    · rw [sm_upd e n c, e n (by omega)]; omega
    · have : h = n := by omega
      subst this
      rw [sm_eq h (f := g) (g := f) fun i hi => e i (by omega)]; omega
def up1 {α : Type} (M : Nat → α) (h : Nat) (w : α) : Nat → α := fun k => if k = h then w else M k
theorem up1_eq {α : Type} (M : Nat → α) (h : Nat) (w : α) : up1 M h w h = w := if_pos rfl
theorem up1_ne {α : Type} {M : Nat → α} {h k : Nat} {w : α} (q : k ≠ h) : up1 M h w k = M k := if_neg q
/-- wants and the holes that they have (99: none), no hole twice -/
def Val (tk : Nat → Nat → Bool) (W : Nat) (a : Nat → Nat) : Prop := (∀ w, w < W → a w ≠ 99 → tk w (a w) = true) ∧ ∀ w w', w < W → w' < W → a w = a w' → w = w' ∨ a w = 99
def metc (W : Nat) (a : Nat → Nat) : Int := sm (fun w => i1 (a w != 99)) W
def IsMax (tk : Nat → Nat → Bool) (W : Nat) (n : Int) : Prop := (∃ a, Val tk W a ∧ metc W a = n) ∧ ∀ a, Val tk W a → metc W a ≤ n
theorem IsMax_u {tk : Nat → Nat → Bool} {W : Nat} {n m : Int} (h : IsMax tk W n) (h' : IsMax tk W m) : n = m := by
  obtain ⟨⟨a, a1, a2⟩, a3⟩ := h
  obtain ⟨⟨b, b1, b2⟩, b3⟩ := h'
  have := a3 b b1
  have := b3 a a1
  omega
/-- how many holes have the want v -/
def cnt (hc : Nat) (M : Nat → Nat) (v : Nat) : Int := sm (fun h => i1 (M h == v)) hc
theorem cnt_up {hc : Nat} {M : Nat → Nat} {h w v : Nat} (hh : h < hc) : cnt hc (up1 M h w) v = cnt hc M v + i1 (w == v) - i1 (M h == v) := by
  unfold cnt
  rw [sm_upd (f := fun h => i1 (M h == v)) (g := fun k => i1 (up1 M h w k == v)) (h := h) (fun i hi => by simp only [up1_ne hi]) hc hh]
  simp only [up1_eq]
/-- holes out of which no want leads -/
def Cl (tk : Nat → Nat → Bool) (hc : Nat) (M : Nat → Nat) (D : Nat → Bool) : Prop := ∀ h, D h = true → h < hc ∧ M h ≠ 99 ∧ ∀ h', h' < hc → tk (M h) h' = true → D h' = true
/-- a search that found nothing: from the holes asked A0 to A1 -/
def FF (tk : Nat → Nat → Bool) (hc : Nat) (M : Nat → Nat) (A0 A1 : Nat → Bool) (w : Nat) : Prop :=
  (∀ h, A0 h = true → A1 h = true) ∧ (∀ h, h < hc → tk w h = true → A1 h = true) ∧ ∀ h, A1 h = true → A0 h = true ∨ (h < hc ∧ M h ≠ 99 ∧ ∀ h', h' < hc → tk (M h) h' = true → A1 h' = true)
/-- one that found a hole -/
def FS (tk : Nat → Nat → Bool) (hc : Nat) (M : Nat → Nat) (A0 : Nat → Bool) (w : Nat) (M' : Nat → Nat) : Prop :=
  (∀ v, v ≠ 99 → cnt hc M' v = cnt hc M v + i1 (w == v)) ∧ (∀ h, h < hc → M' h ≠ 99 → tk (M' h) h = true) ∧ (∀ h, A0 h = true ∨ hc ≤ h → M' h = M h) ∧
  ∀ D, Cl tk hc M D → (∀ h, D h = true → M' h = M h) ∧ ∃ h, h < hc ∧ D h = false ∧ tk w h = true
/-- on its way, at the hole k -/
def FL (tk : Nat → Nat → Bool) (hc : Nat) (M : Nat → Nat) (A0 A : Nat → Bool) (w k : Nat) : Prop :=
  (∀ h, A0 h = true → A h = true) ∧ (∀ h, h < k → tk w h = true → A h = true) ∧ ∀ h, A h = true → A0 h = true ∨ (h < hc ∧ M h ≠ 99 ∧ ∀ h', h' < hc → tk (M h) h' = true → A h' = true)
variable {tk : Nat → Nat → Bool} {hc : Nat} {M M' : Nat → Nat} {A0 A A1 : Nat → Bool} {w k : Nat}
theorem FL_0 : FL tk hc M A0 A0 w 0 := ⟨fun _ h => h, fun _ h => absurd h (by omega), fun _ h => .inl h⟩
theorem FL_skip (h : FL tk hc M A0 A w k) (q : tk w k = true → A k = true) : FL tk hc M A0 A w (k + 1) := by
  refine ⟨h.1, fun h' h1 h2 => ?_, h.2.2⟩
  rcases Nat.lt_or_ge h' k with c | c
  · exact h.2.1 h' c h2
  · have : h' = k := by omega
    subst this; exact q h2
theorem FL_end (h : FL tk hc M A0 A w hc) : FF tk hc M A0 A w := h
theorem FL_fail (hk : k < hc) (hm : M k ≠ 99) (h : FL tk hc M A0 A w k) (q : FF tk hc M (up1 A k true) A1 (M k)) : FL tk hc M A0 A1 w (k + 1) := by
  have e : ∀ h', A h' = true → A1 h' = true := fun h' c => q.1 h' (by
    by_cases e : h' = k
    · subst e; exact up1_eq _ _ _
    · rw [up1_ne e]; exact c)
  have ek : A1 k = true := q.1 k (up1_eq _ _ _)
  refine ⟨fun h' c => e h' (h.1 h' c), fun h' h1 h2 => ?_, fun h' c => ?_⟩
  · rcases Nat.lt_or_ge h' k with c | c
    · exact e h' (h.2.1 h' c h2)
    · have : h' = k := by omega
      subst this; exact ek
  · rcases q.2.2 h' c with d | d
    · by_cases e1 : h' = k
      · subst e1; exact .inr ⟨hk, hm, q.2.1⟩
      · rw [up1_ne e1] at d
        rcases h.2.2 h' d with f | f
        · exact .inl f
        · exact .inr ⟨f.1, f.2.1, fun h2 h3 h4 => e h2 (f.2.2 h2 h3 h4)⟩
    · exact .inr d
theorem beq_ne {a b : Nat} (h : a ≠ b) : (a == b) = false := by simp [h]
theorem FS_free (hk : k < hc) (hA : A0 k = false) (hm : M k = 99) (ht : tk w k = true) (hv : ∀ h, h < hc → M h ≠ 99 → tk (M h) h = true) : FS tk hc M A0 w (up1 M k w) := by
  refine ⟨fun v hv0 => ?_, fun h hh h9 => ?_, fun h hA0 => ?_, fun D hD => ⟨fun h hd => ?_, ?_⟩⟩
  · rw [cnt_up hk, hm, beq_ne (Ne.symm hv0)]; show _ - 0 = _; omega
  · by_cases e : h = k
    · subst e; rw [up1_eq]; exact ht
    · rw [up1_ne e] at h9 ⊢; exact hv h hh h9
  · exact up1_ne fun e => by
      subst e
      rcases hA0 with q | q
      · rw [hA] at q; cases q
      · omega
  · exact up1_ne fun e => by subst e; exact (hD h hd).2.1 hm
  · refine ⟨k, hk, ?_, ht⟩
    cases hd : D k with
    | false => rfl
    | true => exact absurd hm (hD k hd).2.1
theorem FS_move (hk : k < hc) (hA : A0 k = false) (hs : ∀ h, A0 h = true → A h = true) (hm : M k ≠ 99) (ht : tk w k = true) (q : FS tk hc M (up1 A k true) (M k) M') : FS tk hc M A0 w (up1 M' k w) := by
  have ek : M' k = M k := q.2.2.1 k (.inl (up1_eq _ _ _))
  refine ⟨fun v hv0 => ?_, fun h hh h9 => ?_, fun h hA0 => ?_, fun D hD => ?_⟩
  · rw [cnt_up hk, q.1 v hv0, ek]; omega
  · by_cases e : h = k
    · subst e; rw [up1_eq]; exact ht
    · rw [up1_ne e] at h9 ⊢; exact q.2.1 h hh h9
  · by_cases e : h = k
    · subst e
      rcases hA0 with q | q
      · rw [hA] at q; cases q
      · omega
    · rw [up1_ne e]
      refine q.2.2.1 h ?_
      rcases hA0 with c | c
      · exact .inl (by rw [up1_ne e]; exact hs h c)
      · exact .inr c
  · obtain ⟨d1, h2, d2, d3, d4⟩ := q.2.2.2 D hD
    have hd : D k = false := by
      cases hd : D k with
      | false => rfl
      | true => exact absurd ((hD k hd).2.2 h2 d2 d4) (by rw [d3]; decide)
    refine ⟨fun h hh => ?_, k, hk, hd, ht⟩
    rw [up1_ne fun e => by subst e; rw [hd] at hh; cases hh]
    exact d1 h hh
/-- ahead of the want w: n have found one -/
def KS (tk : Nat → Nat → Bool) (hc : Nat) (M : Nat → Nat) (w : Nat) (n : Int) : Prop := ∃ (g : Nat → Bool) (D : Nat → Bool),
  (∀ v, v ≠ 99 → cnt hc M v = i1 (decide (v < w) && g v)) ∧ (∀ h, h < hc → M h ≠ 99 → tk (M h) h = true) ∧ n = sm (fun v => i1 (g v)) w ∧ Cl tk hc M D ∧ ∀ v, v < w → g v = false → ∀ h, h < hc → tk v h = true → D h = true
theorem KS_0 (h : ∀ h, h < hc → M h = 99) : KS tk hc M 0 0 := by
  refine ⟨fun _ => false, fun _ => false, fun v hv => ?_, fun h' hh h9 => absurd (h h' hh) h9, rfl, (fun _ (q : false = true) => by cases q), fun v hv => absurd hv (by omega)⟩
  rw [Bool.and_false]
  exact sm_z hc fun i hi => i1_f (by rw [h i hi]; exact beq_ne (Ne.symm hv))
theorem KS_succ {n : Int} (hw : w < 99) (h : KS tk hc M w n) (q : FS tk hc M (fun _ => false) w M') : KS tk hc M' (w + 1) (n + 1) := by
  obtain ⟨g, D, h1, h2, h3, h4, h5⟩ := h
  obtain ⟨q1, q2, q3, q4⟩ := q
  obtain ⟨d1, d2⟩ := q4 D h4
  refine ⟨up1 g w true, D, fun v hv => ?_, q2, ?_, fun h hd => ?_, fun v hv hg => ?_⟩
  · rw [q1 v hv, h1 v hv]
    by_cases e : v = w
    · subst e; simp [up1_eq, i1]
    · rw [up1_ne e, beq_ne (Ne.symm e)]
      have e2 : decide (v < w + 1) = decide (v < w) := by
        apply decide_eq_decide.mpr; omega
      rw [e2]; simp [i1]
  · rw [sm_s, up1_eq, h3, sm_eq w (f := fun v => i1 (up1 g w true v)) (g := fun v => i1 (g v)) fun i hi => by rw [up1_ne (by omega)]]
    rfl
  · rw [d1 h hd]; exact h4 h hd
  · have : v ≠ w := fun e => by subst e; rw [up1_eq] at hg; cases hg
    rw [up1_ne this] at hg
    exact h5 v (by omega) hg
theorem KS_fail {n : Int} (hw : w < 99) (h : KS tk hc M w n) (q : FF tk hc M (fun _ => false) A1 w) : KS tk hc M (w + 1) n := by
  obtain ⟨g, D, h1, h2, h3, h4, h5⟩ := h
  refine ⟨up1 g w false, fun h => D h || A1 h, fun v hv => ?_, h2, ?_, fun h hd => ?_, fun v hv hg => ?_⟩
  · rw [h1 v hv]
    by_cases e : v = w
    · subst e; simp [up1_eq]
    · rw [up1_ne e]
      have e2 : decide (v < w + 1) = decide (v < w) := by
        apply decide_eq_decide.mpr; omega
      rw [e2]
  · rw [sm_s, up1_eq, h3, sm_eq w (f := fun v => i1 (up1 g w false v)) (g := fun v => i1 (g v)) fun i hi => by rw [up1_ne (by omega)]]
    show _ = _ + (0 : Int)
    omega
  · rcases (Bool.or_eq_true _ _).mp hd with c | c
    · exact ⟨(h4 h c).1, (h4 h c).2.1, fun h' a b => by show (D h' || A1 h') = true; rw [(h4 h c).2.2 h' a b]; rfl⟩
    · rcases q.2.2 h c with d | d
      · cases d
      · exact ⟨d.1, d.2.1, fun h' a b => by show (D h' || A1 h') = true; rw [d.2.2 h' a b, Bool.or_true]⟩
  · intro h' a b
    show (D h' || A1 h') = true
    by_cases e : v = w
    · subst e; rw [q.2.1 h' a b, Bool.or_true]
    · rw [up1_ne e] at hg
      rw [h5 v (by omega) hg h' a b]; rfl
/-- the hole that has the want -/
def fnd (M : Nat → Nat) (w : Nat) : Nat → Nat
  | 0 => 99
  | k + 1 => if M k = w then k else fnd M w k
theorem fnd_t {M : Nat → Nat} {w : Nat} : ∀ k, fnd M w k ≠ 99 → fnd M w k < k ∧ M (fnd M w k) = w
  | 0, h => absurd rfl h
  | k + 1, h => by
    unfold fnd at h ⊢
    by_cases e : M k = w
    · rw [if_pos e] at h ⊢; exact ⟨by omega, e⟩
    · rw [if_neg e] at h ⊢
      have := fnd_t k h
      exact ⟨by omega, this.2⟩
theorem fnd_f {M : Nat → Nat} {w : Nat} : ∀ k, k ≤ 99 → fnd M w k = 99 → ∀ h, h < k → M h ≠ w
  | 0, _, _, h, hh => absurd hh (by omega)
  | k + 1, hk, q, h, hh => by
    unfold fnd at q
    by_cases e : M k = w
    · rw [if_pos e] at q; omega
    · rw [if_neg e] at q
      rcases Nat.lt_or_ge h k with c | c
      · exact fnd_f k (by omega) q h c
      · have : h = k := by omega
        subst this; exact e
theorem KS_max {n : Int} {W : Nat} (hW : W ≤ 50) (hh : hc ≤ 50) (htk : ∀ w h, tk w h = true → h < hc) (h : KS tk hc M W n) : IsMax tk W n := by
  obtain ⟨g, D, h1, h2, h3, h4, h5⟩ := h
  refine ⟨⟨fun w => fnd M w hc, ⟨fun w hw h9 => ?_, fun w w' hw hw' e => ?_⟩, ?_⟩, fun b hb => ?_⟩
  · have q := fnd_t hc h9
    have := h2 _ q.1 (by rw [q.2]; omega)
    rw [q.2] at this; exact this
  · by_cases h9 : fnd M w hc = 99
    · exact .inr h9
    · left
      have e : fnd M w hc = fnd M w' hc := e
      have h9' : fnd M w' hc ≠ 99 := by rw [← e]; exact h9
      have f1 := (fnd_t hc h9).2
      have f2 := (fnd_t hc h9').2
      rw [← e, f1] at f2; exact f2
  · rw [h3]
    refine sm_eq W fun w hw => ?_
    have q := h1 w (by omega)
    rw [decide_eq_true hw, Bool.true_and] at q
    rw [← q]
    show i1 (fnd M w hc != 99) = _
    by_cases h9 : fnd M w hc = 99
    · rw [h9]
      exact (sm_z hc fun i hi => i1_f (beq_ne (fnd_f hc (by omega) h9 i hi))).symm
    · have f := fnd_t hc h9
      have hg := sm_ge (f := fun h => i1 (M h == w)) hc (fun i _ => (i1_01 _).1) _ f.1
      simp only [f.2, beq_self_eq_true, i1_t] at hg
      have e : cnt hc M w ≤ 1 := by rw [q]; exact (i1_01 _).2
      have e2 : (1 : Int) ≤ cnt hc M w := hg
      rw [i1_t (by simp [h9])]
      omega
  · have key : sm (fun w => i1 (b w != 99) + sm (fun h => i1 (D h && M h == w)) hc) W ≤ sm (fun w => i1 (g w) + sm (fun h => i1 (D h && b w == h)) hc) W := by
      refine sm_le W fun w hw => ?_
      have q := h1 w (by omega)
      rw [decide_eq_true hw, Bool.true_and] at q
      have dle : sm (fun h => i1 (D h && M h == w)) hc ≤ i1 (g w) := by
        rw [← q]
        refine sm_le hc fun h hh => ?_
        cases D h <;> cases (M h == w) <;> decide
      have r0 : 0 ≤ sm (fun h => i1 (D h && b w == h)) hc := sm_nn hc fun _ _ => (i1_01 _).1
      by_cases h9 : b w = 99
      · rw [i1_f (b := b w != 99) (by simp [h9])]; omega
      · rw [i1_t (b := b w != 99) (by simp [h9])]
        have ht := hb.1 w hw h9
        have hlt := htk _ _ ht
        have r1 : D (b w) = true → 1 ≤ sm (fun h => i1 (D h && b w == h)) hc := fun hd => by
          have := sm_ge (f := fun h => i1 (D h && b w == h)) hc (fun _ _ => (i1_01 _).1) (b w) hlt
          simp only [hd, beq_self_eq_true, Bool.and_self, i1_t] at this
          exact this
        cases hg : g w with
        | false =>
          have := r1 (h5 w hw hg _ hlt ht)
          rw [hg] at dle
          have : i1 false = 0 := rfl
          omega
        | true =>
          rw [hg] at dle
          have e1 : i1 true = 1 := rfl
          by_cases hd : 1 ≤ sm (fun h => i1 (D h && M h == w)) hc
          · obtain ⟨h, hh', hx⟩ := sm_ex hc hd
            have hx := (Bool.and_eq_true _ _).mp hx
            have hm : M h = w := by simpa using hx.2
            have := r1 ((h4 h hx.1).2.2 (b w) hlt (by rw [hm]; exact ht))
            omega
          · omega
    rw [sm_add, sm_add, sm_swap (fun w h => i1 (D h && M h == w)), sm_swap (fun w h => i1 (D h && b w == h))] at key
    have e1 : sm (fun h => sm (fun w => i1 (D h && M h == w)) W) hc = sm (fun h => i1 (D h)) hc := by
      refine sm_eq hc fun h hh' => ?_
      cases hd : D h with
      | false => exact sm_z W fun _ _ => rfl
      | true =>
        obtain ⟨d1, d2, d3⟩ := h4 h hd
        have hlt : M h < W := by
          rcases Nat.lt_or_ge (M h) W with c | c
          · exact c
          · have q := h1 (M h) d2
            rw [decide_eq_false (by omega), Bool.false_and] at q
            have := sm_ge (f := fun h' => i1 (M h' == M h)) hc (fun _ _ => (i1_01 _).1) h hh'
            simp only [beq_self_eq_true, i1_t] at this
            have e : (1 : Int) ≤ cnt hc M (M h) := this
            rw [q] at e; exact absurd e (by decide)
        have a := sm_ge (f := fun w => i1 (true && M h == w)) W (fun _ _ => (i1_01 _).1) _ hlt
        simp only [beq_self_eq_true, Bool.and_self, i1_t] at a
        have c := sm_le1 (b := fun w => (true && M h == w)) W fun i j _ _ h1 h2 => by
          simp only [Bool.true_and, beq_iff_eq] at h1 h2
          rw [← h1, ← h2]
        rw [i1_t rfl]
        exact Int.le_antisymm c a
    have e2 : sm (fun h => sm (fun w => i1 (D h && b w == h)) W) hc ≤ sm (fun h => i1 (D h)) hc := by
      refine sm_le hc fun h hh' => ?_
      cases hd : D h with
      | false => exact Int.le_of_eq (sm_z W fun _ _ => rfl)
      | true =>
        rw [i1_t rfl]
        refine sm_le1 (b := fun w => (true && b w == h)) W fun i j hi hj h1 h2 => ?_
        simp only [Bool.true_and, beq_iff_eq] at h1 h2
        rcases hb.2 i j hi hj (by rw [h1, h2]) with c | c
        · exact c
        · omega
    rw [h3]
    show sm (fun w => i1 (b w != 99)) W ≤ _
    omega
theorem metc_up {W : Nat} {a : Nat → Nat} {w x : Nat} (hw : w < W) : metc W (up1 a w x) = metc W a + i1 (x != 99) - i1 (a w != 99) := by
  unfold metc
  rw [sm_upd (f := fun w => i1 (a w != 99)) (g := fun k => i1 (up1 a w x k != 99)) (h := w) (fun i hi => by simp only [up1_ne hi]) W hw]
  simp only [up1_eq]
/-- one hole more: one more can be met just if it takes a want without which as many can be -/
theorem frees_iff {tk : Nat → Nat → Bool} {nw : Nat → Bool} {H W : Nat} {n n2 : Int} (hH : H < 99) (htk : ∀ w h, tk w h = true → h < H) (h1 : IsMax tk W n) (h2 : IsMax (fun w h => if h = H then nw w else tk w h) W n2) : n < n2 ↔ ∃ w, w < W ∧ nw w = true ∧ IsMax (fun w' h => tk w' h && w' != w) W n := by
  constructor
  · intro hlt
    obtain ⟨⟨a, a1, a2⟩, -⟩ := h2
    by_cases hx : ∃ w, w < W ∧ a w = H
    · obtain ⟨w, hw, e⟩ := hx
      have hnw : nw w = true := by
        have := a1.1 w hw (by omega)
        simpa [e] using this
      have hb : Val (fun w' h => tk w' h && w' != w) W (up1 a w 99) := by
        refine ⟨fun v hv h9 => ?_, fun v v' hv hv' q => ?_⟩
        · by_cases ev : v = w
          · subst ev; rw [up1_eq] at h9; exact absurd rfl h9
          · rw [up1_ne ev] at h9 ⊢
            have c := a1.1 v hv h9
            have nH : a v ≠ H := fun q => by
              rcases a1.2 v w hv hw (by rw [q, e]) with d | d
              · exact ev d
              · omega
            simp only [if_neg nH] at c
            simp [c, ev]
        · by_cases ev : v = w
          · subst ev; right; exact up1_eq _ _ _
          · rw [up1_ne ev] at q ⊢
            by_cases ev' : v' = w
            · subst ev'; rw [up1_eq] at q; exact .inr q
            · rw [up1_ne ev'] at q
              exact a1.2 v v' hv hv' q
      have hm := metc_up (a := a) (x := 99) hw
      rw [i1_f (b := (99 : Nat) != 99) rfl, i1_t (b := a w != 99) (by simp [e]; omega)] at hm
      have sub : ∀ c, Val (fun w' h => tk w' h && w' != w) W c → Val tk W c := fun c hc => ⟨fun v hv h9 => ((Bool.and_eq_true _ _).mp (hc.1 v hv h9)).1, hc.2⟩
      refine ⟨w, hw, hnw, ⟨_, hb, ?_⟩, fun c hc => h1.2 c (sub c hc)⟩
      have := h1.2 _ (sub _ hb)
      omega
    · exfalso
      have : Val tk W a := ⟨fun v hv h9 => by
        have c := a1.1 v hv h9
        simp only [if_neg (show ¬ a v = H from fun q => hx ⟨v, hv, q⟩)] at c
        exact c, a1.2⟩
      have := h1.2 a this
      omega
  · rintro ⟨w, hw, hnw, ⟨a, a1, a2⟩, -⟩
    have h9 : a w = 99 := by
      by_cases q : a w = 99
      · exact q
      · have := a1.1 w hw q
        simp at this
    have hb : Val (fun w h => if h = H then nw w else tk w h) W (up1 a w H) := by
      refine ⟨fun v hv q => ?_, fun v v' hv hv' q => ?_⟩
      · by_cases ev : v = w
        · subst ev; rw [up1_eq]; simp only [if_true]; exact hnw
        · rw [up1_ne ev] at q ⊢
          have c := ((Bool.and_eq_true _ _).mp (a1.1 v hv q)).1
          have := htk _ _ c
          simp only [if_neg (show ¬ a v = H by omega)]; exact c
      · by_cases ev : v = w
        · by_cases ev' : v' = w
          · left; omega
          · subst ev
            rw [up1_eq, up1_ne ev'] at q
            by_cases q9 : a v' = 99
            · omega
            · have := htk _ _ ((Bool.and_eq_true _ _).mp (a1.1 v' hv' q9)).1
              omega
        · by_cases ev' : v' = w
          · subst ev'
            rw [up1_eq, up1_ne ev] at q
            rw [up1_ne ev]
            by_cases q9 : a v = 99
            · exact .inr q9
            · have := htk _ _ ((Bool.and_eq_true _ _).mp (a1.1 v hv q9)).1
              omega
          · rw [up1_ne ev, up1_ne ev'] at q
            rw [up1_ne ev]
            exact a1.2 v v' hv hv' q
    have hm := metc_up (a := a) (x := H) hw
    rw [i1_t (b := H != 99) (by simp; omega), i1_f (b := a w != 99) (by simp [h9])] at hm
    have := h2.2 _ hb
    omega
end T40m
