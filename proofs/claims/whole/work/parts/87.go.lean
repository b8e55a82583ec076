/-! words and signs of a text: the reference -/
section T87
variable {kt : Nat → Nat × Nat} {I I' I0 : Nat → Nat → Int32} {J J' : Nat → Nat → Int64} {T T' : Nat → Nat → Nat} {n s : Nat} {K : Option Value → am_M → Prop} {B : Nat → Int32} {len a e : Nat} {g : Int32}
def tpS (I0 : Nat → Nat → Int32) (B : Nat → Int32) (len : Nat) : Prop := len ≤ 96 ∧ I0 107 11 = nI len ∧ ∀ k, k < len → I0 117 k = B k ∧ sg_in (B k) 0 255
/-- where the reference reads: next, from, token, value, ended -/
def rc (I0 I : Nat → Nat → Int32) (nx fr tk vl en : Int32) : Prop := ch (fun r => r = 107) I0 I ∧ (∀ k, ¬ (12 ≤ k ∧ k < 17) → I 107 k = I0 107 k) ∧ I 107 12 = nx ∧ I 107 13 = fr ∧ I 107 14 = tk ∧ I 107 15 = vl ∧ I 107 16 = en
theorem rc_ch {k : Nat} {v : Int32} (h : ch (fun r => r = 107) I0 I) : ch (fun r => r = 107) I0 (am_up I 107 k v) := ch_tr h (ch_up (P := fun r => r = 107) rfl) fun r q => q.elim id id
theorem rc_12 {nx fr tk vl en v w : Int32} (hv : v = w) (h : rc I0 I nx fr tk vl en) : rc I0 (am_up I 107 12 v) w fr tk vl en := by
  subst hv
  exact ⟨rc_ch h.1, fun k hk => by rw [up_ne (by omega)]; exact h.2.1 k hk, up_eq _ _ _ _, by rw [up_ne (by omega)]; exact h.2.2.2.1, by rw [up_ne (by omega)]; exact h.2.2.2.2.1, by rw [up_ne (by omega)]; exact h.2.2.2.2.2.1, by rw [up_ne (by omega)]; exact h.2.2.2.2.2.2⟩
theorem rc_13 {nx fr tk vl en v w : Int32} (hv : v = w) (h : rc I0 I nx fr tk vl en) : rc I0 (am_up I 107 13 v) nx w tk vl en := by
  subst hv
  exact ⟨rc_ch h.1, fun k hk => by rw [up_ne (by omega)]; exact h.2.1 k hk, by rw [up_ne (by omega)]; exact h.2.2.1, up_eq _ _ _ _, by rw [up_ne (by omega)]; exact h.2.2.2.2.1, by rw [up_ne (by omega)]; exact h.2.2.2.2.2.1, by rw [up_ne (by omega)]; exact h.2.2.2.2.2.2⟩
theorem rc_14 {nx fr tk vl en v w : Int32} (hv : v = w) (h : rc I0 I nx fr tk vl en) : rc I0 (am_up I 107 14 v) nx fr w vl en := by
  subst hv
  exact ⟨rc_ch h.1, fun k hk => by rw [up_ne (by omega)]; exact h.2.1 k hk, by rw [up_ne (by omega)]; exact h.2.2.1, by rw [up_ne (by omega)]; exact h.2.2.2.1, up_eq _ _ _ _, by rw [up_ne (by omega)]; exact h.2.2.2.2.2.1, by rw [up_ne (by omega)]; exact h.2.2.2.2.2.2⟩
theorem rc_15 {nx fr tk vl en v w : Int32} (hv : v = w) (h : rc I0 I nx fr tk vl en) : rc I0 (am_up I 107 15 v) nx fr tk w en := by
  subst hv
  exact ⟨rc_ch h.1, fun k hk => by rw [up_ne (by omega)]; exact h.2.1 k hk, by rw [up_ne (by omega)]; exact h.2.2.1, by rw [up_ne (by omega)]; exact h.2.2.2.1, by rw [up_ne (by omega)]; exact h.2.2.2.2.1, up_eq _ _ _ _, by rw [up_ne (by omega)]; exact h.2.2.2.2.2.2⟩
theorem rc_16 {nx fr tk vl en v w : Int32} (hv : v = w) (h : rc I0 I nx fr tk vl en) : rc I0 (am_up I 107 16 v) nx fr tk vl w := by
  subst hv
  exact ⟨rc_ch h.1, fun k hk => by rw [up_ne (by omega)]; exact h.2.1 k hk, by rw [up_ne (by omega)]; exact h.2.2.1, by rw [up_ne (by omega)]; exact h.2.2.2.1, by rw [up_ne (by omega)]; exact h.2.2.2.2.1, by rw [up_ne (by omega)]; exact h.2.2.2.2.2.1, up_eq _ _ _ _⟩
theorem rc_len {nx fr tk vl en : Int32} (hT : tpS I0 B len) (h : rc I0 I nx fr tk vl en) : I 107 11 = nI len := by rw [h.2.1 11 (by omega)]; exact hT.2.1
theorem rc_B {nx fr tk vl en : Int32} (hT : tpS I0 B len) (h : rc I0 I nx fr tk vl en) {k : Nat} (hk : k < len) : I 117 (nI k).toNatClampNeg = B k := by
  have := hT.1
  rw [nI_clamp (by omega), h.1 117 (by omega)]
  exact (hT.2.2 k hk).1
theorem m_isL {nx fr tk vl en : Int32} {k : Nat} {x : Int32} (hx : x = nI k) (hT : tpS I0 B len) (h : rc I0 I nx fr tk vl en) (hk : k ≤ len) (h1 : k < len → srt (B k) = 256 → K (some (.int 1)) (am_mk kt I J T n s)) (h0 : ¬ (k < len ∧ srt (B k) = 256) → K (some (.int 0)) (am_mk kt I J T n s)) : am_T am_C (172, 0, 0, [.ref 107, .int x], []) (am_mk kt I J T n s) K := by
  subst hx
  have h96 := hT.1
  by_cases c : k < len
  · have c1 : ¬ I 107 11 ≤ nI k := by rw [rc_len hT h]; exact nI_ge c (by omega)
    have v1 : vp_in (nI k) 96 := vpl (by omega) (by decide)
    have eb := rc_B hT h c
    have il := srt_l (hT.2.2 k c).2
    rw [← eb] at il
    by_cases d1 : I 117 (nI k).toNatClampNeg < 97
    · have kk := h0 (fun z => (il.mp (by rw [eb]; exact z.2)).1 d1)
      refine am_wq_T (cut := fun _ _ => false) (inl := fun _ => true) 120 _ _ _ ?_
      exact And.intro rfl (And.intro (fun z => absurd z c1) (fun _ => And.intro rfl (And.intro ⟨rfl, v1⟩ (And.intro (fun _ => And.intro rfl kk) (fun z => absurd d1 z)))))
    · by_cases d2 : 122 < I 117 (nI k).toNatClampNeg
      · have kk := h0 (fun z => (il.mp (by rw [eb]; exact z.2)).2 d2)
        refine am_wq_T (cut := fun _ _ => false) (inl := fun _ => true) 120 _ _ _ ?_
        exact And.intro rfl (And.intro (fun z => absurd z c1) (fun _ => And.intro rfl (And.intro ⟨rfl, v1⟩ (And.intro (fun z => absurd z d1) (fun _ => And.intro rfl (And.intro ⟨rfl, v1⟩ (And.intro (fun _ => And.intro rfl kk) (fun z => absurd d2 z))))))))
      · have kk := h1 c (by rw [← eb]; exact il.mpr ⟨d1, d2⟩)
        refine am_wq_T (cut := fun _ _ => false) (inl := fun _ => true) 120 _ _ _ ?_
        exact And.intro rfl (And.intro (fun z => absurd z c1) (fun _ => And.intro rfl (And.intro ⟨rfl, v1⟩ (And.intro (fun z => absurd z d1) (fun _ => And.intro rfl (And.intro ⟨rfl, v1⟩ (And.intro (fun z => absurd z d2) (fun _ => And.intro rfl kk))))))))
  · have c1 : I 107 11 ≤ nI k := by rw [rc_len hT h]; exact nI_le (by omega) (by omega)
    have kk := h0 (fun z => c z.1)
    refine am_wq_T (cut := fun _ _ => false) (inl := fun _ => true) 120 _ _ _ ?_
    exact And.intro rfl (And.intro (fun _ => And.intro rfl kk) (fun z => absurd c1 z))
theorem m_isF {nx fr tk vl en : Int32} {k : Nat} {x : Int32} (hx : x = nI k) (hT : tpS I0 B len) (h : rc I0 I nx fr tk vl en) (hk : k ≤ len) (h1 : k < len → srt (B k) = 257 → K (some (.int 1)) (am_mk kt I J T n s)) (h0 : ¬ (k < len ∧ srt (B k) = 257) → K (some (.int 0)) (am_mk kt I J T n s)) : am_T am_C (173, 0, 0, [.ref 107, .int x], []) (am_mk kt I J T n s) K := by
  subst hx
  have h96 := hT.1
  by_cases c : k < len
  · have c1 : ¬ I 107 11 ≤ nI k := by rw [rc_len hT h]; exact nI_ge c (by omega)
    have v1 : vp_in (nI k) 96 := vpl (by omega) (by decide)
    have eb := rc_B hT h c
    have il := srt_f (hT.2.2 k c).2
    rw [← eb] at il
    by_cases d1 : I 117 (nI k).toNatClampNeg < 48
    · have kk := h0 (fun z => (il.mp (by rw [eb]; exact z.2)).1 d1)
      refine am_wq_T (cut := fun _ _ => false) (inl := fun _ => true) 120 _ _ _ ?_
      exact And.intro rfl (And.intro (fun z => absurd z c1) (fun _ => And.intro rfl (And.intro ⟨rfl, v1⟩ (And.intro (fun _ => And.intro rfl kk) (fun z => absurd d1 z)))))
    · by_cases d2 : 57 < I 117 (nI k).toNatClampNeg
      · have kk := h0 (fun z => (il.mp (by rw [eb]; exact z.2)).2 d2)
        refine am_wq_T (cut := fun _ _ => false) (inl := fun _ => true) 120 _ _ _ ?_
        exact And.intro rfl (And.intro (fun z => absurd z c1) (fun _ => And.intro rfl (And.intro ⟨rfl, v1⟩ (And.intro (fun z => absurd z d1) (fun _ => And.intro rfl (And.intro ⟨rfl, v1⟩ (And.intro (fun _ => And.intro rfl kk) (fun z => absurd d2 z))))))))
      · have kk := h1 c (by rw [← eb]; exact il.mpr ⟨d1, d2⟩)
        refine am_wq_T (cut := fun _ _ => false) (inl := fun _ => true) 120 _ _ _ ?_
        exact And.intro rfl (And.intro (fun z => absurd z c1) (fun _ => And.intro rfl (And.intro ⟨rfl, v1⟩ (And.intro (fun z => absurd z d1) (fun _ => And.intro rfl (And.intro ⟨rfl, v1⟩ (And.intro (fun z => absurd z d2) (fun _ => And.intro rfl kk))))))))
  · have c1 : I 107 11 ≤ nI k := by rw [rc_len hT h]; exact nI_le (by omega) (by omega)
    have kk := h0 (fun z => c z.1)
    refine am_wq_T (cut := fun _ _ => false) (inl := fun _ => true) 120 _ _ _ ?_
    exact And.intro rfl (And.intro (fun _ => And.intro rfl kk) (fun z => absurd c1 z))
theorem m_sp {fr tk vl en : Int32} {l1 : Value} (hT : tpS I0 B len) (hK : ∀ I', rc I0 I' (nI (skp (fun k => decide (B k = 32)) (len - e) e)) fr tk vl en → am_T am_C (174, 1, 38, [.ref 107, l1], []) (am_mk kt I' J T n s) K) : ∀ (j b : Nat) (I : Nat → Nat → Int32), b + j = len → skp (fun k => decide (B k = 32)) (len - e) e = skp (fun k => decide (B k = 32)) j b → rc I0 I (nI b) fr tk vl en → am_T am_C (174, 1, 0, [.ref 107, l1], []) (am_mk kt I J T n s) K := by
  have h96 := hT.1
  intro j
  induction j with
  | zero =>
    intro b I hb he hs
    have : b = len := by omega
    subst this
    have c1 : I 107 11 ≤ I 107 12 := by rw [rc_len hT hs, hs.2.2.1]; exact nI_le (Nat.le_refl _) (by omega)
    have kk := hK I (by rw [he]; exact hs)
    refine am_wq_T (cut := fun z pc => ((Nat.beq z 174 && Nat.beq pc 0) || ((Nat.beq z 174 && Nat.beq pc 38) || ((Nat.beq z 174 && Nat.beq pc 93) || ((Nat.beq z 174 && Nat.beq pc 117) || ((Nat.beq z 174 && Nat.beq pc 170) || (Nat.beq z 174 && Nat.beq pc 238))))))) (inl := fun z => !((Nat.beq z 172 || Nat.beq z 173))) 120 _ _ _ ?_
    exact And.intro rfl (And.intro rfl (And.intro (fun _ => kk) (fun z => absurd c1 z)))
  | succ j ih =>
    intro b I hb he hs
    have c1 : ¬ I 107 11 ≤ I 107 12 := by rw [rc_len hT hs, hs.2.2.1]; exact nI_ge (by omega) (by omega)
    have v1 : vp_in (I 107 12) 96 := by rw [hs.2.2.1]; exact vpl (by omega) (by decide)
    have eb : I 117 (I 107 12).toNatClampNeg = B b := by rw [hs.2.2.1]; exact rc_B hT hs (by omega)
    by_cases c : B b = 32
    · have c2 : ¬ ¬ I 117 (I 107 12).toNatClampNeg = 32 := fun z => z (eb.trans c)
      have kk := ih (b + 1) (am_up I 107 12 (I 107 12 + 1)) (by omega) (he.trans (skp_y (decide_eq_true c))) (rc_12 (by rw [hs.2.2.1, nI_1]) hs)
      refine am_wq_T (cut := fun z pc => ((Nat.beq z 174 && Nat.beq pc 0) || ((Nat.beq z 174 && Nat.beq pc 38) || ((Nat.beq z 174 && Nat.beq pc 93) || ((Nat.beq z 174 && Nat.beq pc 117) || ((Nat.beq z 174 && Nat.beq pc 170) || (Nat.beq z 174 && Nat.beq pc 238))))))) (inl := fun z => !((Nat.beq z 172 || Nat.beq z 173))) 120 _ _ _ ?_
      exact And.intro rfl (And.intro rfl (And.intro (fun z => absurd z c1) (fun _ => And.intro rfl (And.intro rfl (And.intro ⟨rfl, v1⟩ (And.intro (fun z => absurd z c2) (fun _ => And.intro rfl (And.intro rfl kk))))))))
    · have c2 : ¬ I 117 (I 107 12).toNatClampNeg = 32 := by rw [eb]; exact c
      have kk := hK I (by rw [he, skp_n (fun z => c (of_decide_eq_true z))]; exact hs)
      refine am_wq_T (cut := fun z pc => ((Nat.beq z 174 && Nat.beq pc 0) || ((Nat.beq z 174 && Nat.beq pc 38) || ((Nat.beq z 174 && Nat.beq pc 93) || ((Nat.beq z 174 && Nat.beq pc 117) || ((Nat.beq z 174 && Nat.beq pc 170) || (Nat.beq z 174 && Nat.beq pc 238))))))) (inl := fun z => !((Nat.beq z 172 || Nat.beq z 173))) 120 _ _ _ ?_
      exact And.intro rfl (And.intro rfl (And.intro (fun z => absurd z c1) (fun _ => And.intro rfl (And.intro rfl (And.intro ⟨rfl, v1⟩ (And.intro (fun _ => kk) (fun z => absurd c2 z)))))))
theorem m_wl {fr tk vl en : Int32} {l1 : Value} {b0 : Nat} (hT : tpS I0 B len) (hK : ∀ I', rc I0 I' (nI (skp (fun k => decide (srt (B k) = 256)) (len - b0) b0)) fr tk vl en → am_T am_C (174, 1, 117, [.ref 107, l1], []) (am_mk kt I' J T n s) K) : ∀ (j b : Nat) (I : Nat → Nat → Int32), b + j = len → skp (fun k => decide (srt (B k) = 256)) (len - b0) b0 = skp (fun k => decide (srt (B k) = 256)) j b → rc I0 I (nI b) fr tk vl en → am_T am_C (174, 1, 93, [.ref 107, l1], []) (am_mk kt I J T n s) K := by
  have h96 := hT.1
  intro j
  induction j with
  | zero =>
    intro b I hb he hs
    have : b = len := by omega
    subst this
    have kk := hK I (by rw [he]; exact hs)
    refine am_wq_T (cut := fun z pc => ((Nat.beq z 174 && Nat.beq pc 0) || ((Nat.beq z 174 && Nat.beq pc 38) || ((Nat.beq z 174 && Nat.beq pc 93) || ((Nat.beq z 174 && Nat.beq pc 117) || ((Nat.beq z 174 && Nat.beq pc 170) || (Nat.beq z 174 && Nat.beq pc 238))))))) (inl := fun z => !((Nat.beq z 172 || Nat.beq z 173))) 120 _ _ _ ?_
    exact And.intro rfl (And.intro rfl (m_isL (k := b) hs.2.2.1 hT hs (by omega) (fun z => absurd z (by omega)) (fun _ => And.intro (fun _ => kk) (fun z => absurd rfl z))))
  | succ j ih =>
    intro b I hb he hs
    by_cases c : srt (B b) = 256
    · have kk := ih (b + 1) (am_up I 107 12 (I 107 12 + 1)) (by omega) (he.trans (skp_y (decide_eq_true c))) (rc_12 (by rw [hs.2.2.1, nI_1]) hs)
      refine am_wq_T (cut := fun z pc => ((Nat.beq z 174 && Nat.beq pc 0) || ((Nat.beq z 174 && Nat.beq pc 38) || ((Nat.beq z 174 && Nat.beq pc 93) || ((Nat.beq z 174 && Nat.beq pc 117) || ((Nat.beq z 174 && Nat.beq pc 170) || (Nat.beq z 174 && Nat.beq pc 238))))))) (inl := fun z => !((Nat.beq z 172 || Nat.beq z 173))) 120 _ _ _ ?_
      exact And.intro rfl (And.intro rfl (m_isL (k := b) hs.2.2.1 hT hs (by omega) (fun _ _ => And.intro (fun z => absurd z m1z) (fun _ => And.intro rfl (And.intro rfl kk))) (fun z => absurd ⟨by omega, c⟩ z)))
    · have kk := hK I (by rw [he, skp_n (fun z => c (of_decide_eq_true z))]; exact hs)
      refine am_wq_T (cut := fun z pc => ((Nat.beq z 174 && Nat.beq pc 0) || ((Nat.beq z 174 && Nat.beq pc 38) || ((Nat.beq z 174 && Nat.beq pc 93) || ((Nat.beq z 174 && Nat.beq pc 117) || ((Nat.beq z 174 && Nat.beq pc 170) || (Nat.beq z 174 && Nat.beq pc 238))))))) (inl := fun z => !((Nat.beq z 172 || Nat.beq z 173))) 120 _ _ _ ?_
      exact And.intro rfl (And.intro rfl (m_isL (k := b) hs.2.2.1 hT hs (by omega) (fun _ z => absurd z c) (fun _ => And.intro (fun _ => kk) (fun z => absurd rfl z))))
/-- a number: so many figures from here on -/
def nv (B : Nat → Int32) (a : Nat) : Nat → Int32
  | 0 => 0
  | j + 1 => nv B a j * 10 + B (a + j) - 48
/-- of the first four figures -/
def nv4 (B : Nat → Int32) (a : Nat) (j : Nat) : Int32 := nv B a (if j < 4 then j else 4)
theorem nv4_y {j : Nat} (h : j < 4) : nv4 B a (j + 1) = 10 * nv4 B a j + B (a + j) - 48 := by
  unfold nv4
  rw [if_pos h]
  by_cases c : j + 1 < 4
  · rw [if_pos c, Int32.mul_comm]; rfl
  · rw [if_neg c, show (4 : Nat) = j + 1 by omega, Int32.mul_comm]; rfl
theorem nv4_n {j : Nat} (h : ¬ j < 4) : nv4 B a (j + 1) = nv4 B a j := by
  unfold nv4
  rw [if_neg h, if_neg (by omega)]
theorem m_wf {tk en : Int32} {l1 : Value} {b0 : Nat} (hT : tpS I0 B len) (ha : a < len) (hK : ∀ I', rc I0 I' (nI (skp (fun k => decide (srt (B k) = 257)) (len - b0) b0)) (nI a) tk (nv4 B a (skp (fun k => decide (srt (B k) = 257)) (len - b0) b0 - a)) en → am_T am_C (174, 1, 238, [.ref 107, l1], []) (am_mk kt I' J T n s) K) : ∀ (j b : Nat) (I : Nat → Nat → Int32), b + j = len → a ≤ b → skp (fun k => decide (srt (B k) = 257)) (len - b0) b0 = skp (fun k => decide (srt (B k) = 257)) j b → rc I0 I (nI b) (nI a) tk (nv4 B a (b - a)) en → am_T am_C (174, 1, 170, [.ref 107, l1], []) (am_mk kt I J T n s) K := by
  have h96 := hT.1
  intro j
  induction j with
  | zero =>
    intro b I hb hab he hs
    have : b = len := by omega
    subst this
    have kk := hK I (by rw [he]; exact hs)
    refine am_wq_T (cut := fun z pc => ((Nat.beq z 174 && Nat.beq pc 0) || ((Nat.beq z 174 && Nat.beq pc 38) || ((Nat.beq z 174 && Nat.beq pc 93) || ((Nat.beq z 174 && Nat.beq pc 117) || ((Nat.beq z 174 && Nat.beq pc 170) || (Nat.beq z 174 && Nat.beq pc 238))))))) (inl := fun z => !((Nat.beq z 172 || Nat.beq z 173))) 120 _ _ _ ?_
    exact And.intro rfl (And.intro rfl (m_isF (k := b) hs.2.2.1 hT hs (by omega) (fun z => absurd z (by omega)) (fun _ => And.intro (fun _ => kk) (fun z => absurd rfl z))))
  | succ j ih =>
    intro b I hb hab he hs
    by_cases c : srt (B b) = 257
    · have v1 : vp_in (I 107 12) 96 := by rw [hs.2.2.1]; exact vpl (by omega) (by decide)
      have eb : I 117 (I 107 12).toNatClampNeg = B b := by rw [hs.2.2.1]; exact rc_B hT hs (by omega)
      have ed : I 107 12 - I 107 13 = nI (b - a) := by rw [hs.2.2.1, hs.2.2.2.1]; exact nI_subI hab
      by_cases d : b - a < 4
      · have d4 : ¬ (4 : Int32) ≤ I 107 12 - I 107 13 := by rw [ed]; exact nI_ge (b := 4) d (by decide)
        have kk := ih (b + 1) (am_up (am_up I 107 15 (10 * I 107 15 + I 117 (I 107 12).toNatClampNeg - 48)) 107 12 (am_up I 107 15 (10 * I 107 15 + I 117 (I 107 12).toNatClampNeg - 48) 107 12 + 1)) (by omega) (by omega) (he.trans (skp_y (decide_eq_true c))) (rc_12 (by rw [up_ne (by omega), hs.2.2.1, nI_1]) (rc_15 (by rw [eb, hs.2.2.2.2.2.1, show b + 1 - a = b - a + 1 by omega, nv4_y d, show a + (b - a) = b by omega]) hs))
        refine am_wq_T (cut := fun z pc => ((Nat.beq z 174 && Nat.beq pc 0) || ((Nat.beq z 174 && Nat.beq pc 38) || ((Nat.beq z 174 && Nat.beq pc 93) || ((Nat.beq z 174 && Nat.beq pc 117) || ((Nat.beq z 174 && Nat.beq pc 170) || (Nat.beq z 174 && Nat.beq pc 238))))))) (inl := fun z => !((Nat.beq z 172 || Nat.beq z 173))) 120 _ _ _ ?_
        exact And.intro rfl (And.intro rfl (m_isF (k := b) hs.2.2.1 hT hs (by omega) (fun _ _ => And.intro (fun z => absurd z m1z) (fun _ => And.intro rfl (And.intro rfl (And.intro (fun z => absurd z d4) (fun _ => And.intro rfl (And.intro rfl (And.intro rfl (And.intro ⟨rfl, v1⟩ (And.intro rfl (And.intro rfl (And.intro rfl kk))))))))))) (fun z => absurd ⟨by omega, c⟩ z)))
      · have d4 : (4 : Int32) ≤ I 107 12 - I 107 13 := by rw [ed]; exact nI_le (a := 4) (by omega) (by omega)
        have kk := ih (b + 1) (am_up (am_up I 107 15 (I 107 15)) 107 12 (am_up I 107 15 (I 107 15) 107 12 + 1)) (by omega) (by omega) (he.trans (skp_y (decide_eq_true c))) (rc_12 (by rw [up_ne (by omega), hs.2.2.1, nI_1]) (rc_15 (by rw [hs.2.2.2.2.2.1, show b + 1 - a = b - a + 1 by omega, nv4_n d]) hs))
        refine am_wq_T (cut := fun z pc => ((Nat.beq z 174 && Nat.beq pc 0) || ((Nat.beq z 174 && Nat.beq pc 38) || ((Nat.beq z 174 && Nat.beq pc 93) || ((Nat.beq z 174 && Nat.beq pc 117) || ((Nat.beq z 174 && Nat.beq pc 170) || (Nat.beq z 174 && Nat.beq pc 238))))))) (inl := fun z => !((Nat.beq z 172 || Nat.beq z 173))) 120 _ _ _ ?_
        exact And.intro rfl (And.intro rfl (m_isF (k := b) hs.2.2.1 hT hs (by omega) (fun _ _ => And.intro (fun z => absurd z m1z) (fun _ => And.intro rfl (And.intro rfl (And.intro (fun _ => And.intro rfl (And.intro rfl (And.intro rfl (And.intro rfl kk)))) (fun z => absurd d4 z))))) (fun z => absurd ⟨by omega, c⟩ z)))
    · have kk := hK I (by rw [he, skp_n (fun z => c (of_decide_eq_true z))]; exact hs)
      refine am_wq_T (cut := fun z pc => ((Nat.beq z 174 && Nat.beq pc 0) || ((Nat.beq z 174 && Nat.beq pc 38) || ((Nat.beq z 174 && Nat.beq pc 93) || ((Nat.beq z 174 && Nat.beq pc 117) || ((Nat.beq z 174 && Nat.beq pc 170) || (Nat.beq z 174 && Nat.beq pc 238))))))) (inl := fun z => !((Nat.beq z 172 || Nat.beq z 173))) 120 _ _ _ ?_
      exact And.intro rfl (And.intro rfl (m_isF (k := b) hs.2.2.1 hT hs (by omega) (fun _ z => absurd z c) (fun _ => And.intro (fun _ => kk) (fun z => absurd rfl z))))
/-- what the reference has seen -/
def rsT (B : Nat → Int32) (a e : Nat) (g tk vl : Int32) : Prop :=
  (g = -1 → tk = 0) ∧ (g = 256 → tk = 1 ∧ vl = B a) ∧ (g = 257 → if e - a ≤ 4 then tk = 2 ∧ vl = nv B a (e - a) else tk = 4) ∧ (g = 258 → tk = 4) ∧ (g ≠ -1 → g ≠ 256 → g ≠ 257 → g ≠ 258 → tk = 3 ∧ vl = g)
/-- where the last word ended -/
def rsE (e : Nat) (g en : Int32) : Prop := (wd g = true → en = nI e) ∧ (wd g = false → ∀ z, e ≤ z → z < 1000 → en ≠ nI z)
end T87
