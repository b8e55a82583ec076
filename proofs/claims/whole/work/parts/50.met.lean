/-! how many wants the reference can meet at once -/
section T50
variable {kt : Nat → Nat × Nat} {I I' : Nat → Nat → Int32} {J J' : Nat → Nat → Int64} {T : Nat → Nat → Nat} {n s : Nat} {L : Nat} {xs : Nat → Int32} {K : Option Value → am_M → Prop} {N : Nat → Int32} {hc wc tc h w : Nat} {but : Int32}
def MT (N : Nat → Int32) (tc w h : Nat) : Prop := TK N tc h (N (10 + 2 * w) * N 4 / 100) (N (9 + 2 * w))
noncomputable def tkN (N : Nat → Int32) (hc tc : Nat) (but : Int32) (w h : Nat) : Bool := @decide (h < hc ∧ ¬ nI h = but ∧ MT N tc w h) (Classical.propDecidable _)
theorem tkN_t : tkN N hc tc but w h = true ↔ h < hc ∧ ¬ nI h = but ∧ MT N tc w h := @decide_eq_true_iff _ (Classical.propDecidable _)
theorem m_doesMeet (hN : I 108 = N) (ho : RO N hc wc tc) (hB : HB N hc) (hh : h < hc) (hw : w < 6) (h1 : ∀ I', ch PF I I' → I' 108 = N → MT N tc w h → K (some (.int 1)) (am_mk kt I' J T n s)) (h0 : ∀ I', ch PF I I' → I' 108 = N → ¬ MT N tc w h → K (some (.int 0)) (am_mk kt I' J T n s)) : am_T am_C (147, 4, 0, [.ref 107, .int (nI w), .int (nI h)], []) (am_mk kt I J T n s) K := by
  have h11 := ho.1
  have e1 : (9 : Int32) + 2 * nI w = nI (9 + 2 * w) := e9_of w
  have e2 : (9 : Int32) + 2 * nI w + 1 = nI (10 + 2 * w) := by rw [e1, nI_1, show 9 + 2 * w + 1 = 10 + 2 * w by omega]
  have v1 : vp_in (9 + 2 * nI w) 1448 := by rw [e1]; exact vpl (by omega) (by decide)
  have v2 : vp_in (9 + 2 * nI w + 1) 1448 := by rw [e2]; exact vpl (by omega) (by decide)
  have f1 : I 108 (9 + 2 * nI w).toNatClampNeg = N (9 + 2 * w) := by rw [e1, nI_clamp (by omega), hN]
  have f2 : I 108 (9 + 2 * nI w + 1).toNatClampNeg = N (10 + 2 * w) := by rw [e2, nI_clamp (by omega), hN]
  refine am_wq_T (cut := fun _ _ => false) (inl := fun z => !((Nat.beq z 139 || Nat.beq z 142))) 120 _ _ _ ?_
  refine And.intro rfl (And.intro ⟨rfl, v2⟩ (And.intro rfl (m_earth (And.intro rfl (And.intro ⟨rfl, v1⟩ (And.intro rfl ?_))))))
  show am_T am_C (142, 3, 0, [.ref 107, .int (nI h), .int (I 108 (9 + 2 * nI w + 1).toNatClampNeg * I 108 4 / 100), .int (I 108 (9 + 2 * nI w).toNatClampNeg), .null, .null], []) (am_mk kt I J T n s) _
  rw [f1, f2, hN]
  exact m_doesTake hN ho (by omega) (hB h hh).1 (fun I' a b c => And.intro rfl (h1 I' a b c)) (fun I' a b c => And.intro rfl (h0 I' a b c))
def hv (m : Nat) : Int32 := if m = 99 then -1 else nI m
def bv (b : Bool) : Int32 := bif b then 1 else 0
/-- who has which hole, which were asked -/
def FR (I : Nat → Nat → Int32) (N : Nat → Int32) (M : Nat → Nat) (A : Nat → Bool) : Prop := I 108 = N ∧ (∀ h, h < 11 → I 111 h = hv (M h)) ∧ ∀ h, h < 11 → I 112 h = bv (A h)
def PM (r : Nat) : Prop := r = 111 ∨ r = 112 ∨ PF r
def una (A : Nat → Bool) : Int := sm (fun h => i1 (!A h)) 11
theorem una_up {A : Nat → Bool} {k : Nat} (hk : k < 11) (hA : A k = false) : una (up1 A k true) = una A - 1 := by
  unfold una
  rw [sm_upd (f := fun h => i1 (!A h)) (g := fun h => i1 (!up1 A k true h)) (h := k) (fun i hi => by simp only [up1_ne hi]) 11 hk]
  simp only [up1_eq, hA]
  show _ + (0 : Int) - 1 = _
  omega
theorem una_le {A A1 : Nat → Bool} (h : ∀ k, A k = true → A1 k = true) : una A1 ≤ una A := by
  unfold una
  refine sm_le 11 fun i _ => ?_
  cases e : A i with
  | true => rw [h i e]; exact Int.le_refl _
  | false => exact (i1_01 _).2
theorem FR_pf {M : Nat → Nat} {A : Nat → Bool} (h : ch PF I I') (q : FR I N M A) : FR I' N M A := by
  obtain ⟨a, b, c⟩ := q
  exact ⟨by rw [h 108 (by unfold PF; omega)]; exact a, by rw [h 111 (by unfold PF; omega)]; exact b, by rw [h 112 (by unfold PF; omega)]; exact c⟩
theorem FR_ask {M : Nat → Nat} {A : Nat → Bool} {k : Nat} (hk : k < 11) (q : FR I N M A) : FR (am_up I 112 (nI k).toNatClampNeg 1) N M (up1 A k true) := by
  obtain ⟨a, b, c⟩ := q
  rw [nI_clamp (by omega)]
  refine ⟨by rw [up_off (by decide)]; exact a, by rw [up_off (by decide)]; exact b, fun h hh => ?_⟩
  by_cases e : h = k
  · subst e; rw [up_eq, up1_eq]; rfl
  · rw [up_ne (by omega), up1_ne e]; exact c h hh
theorem FR_has {M : Nat → Nat} {A : Nat → Bool} {k : Nat} (hk : k < 11) (hw : w ≠ 99) (q : FR I N M A) : FR (am_up I 111 (nI k).toNatClampNeg (nI w)) N (up1 M k w) A := by
  obtain ⟨a, b, c⟩ := q
  rw [nI_clamp (by omega)]
  refine ⟨by rw [up_off (by decide)]; exact a, fun h hh => ?_, by rw [up_off (by decide)]; exact c⟩
  by_cases e : h = k
  · subst e; rw [up_eq, up1_eq]; exact (if_neg hw).symm
  · rw [up_ne (by omega), up1_ne e]; exact b h hh
/-- one search, B frames left, some u holes not asked -/
def FH (kt : Nat → Nat × Nat) (J : Nat → Nat → Int64) (T : Nat → Nat → Nat) (n s : Nat) (N : Nat → Int32) (hc wc tc : Nat) (but : Int32) (M : Nat → Nat) (u B : Nat) : Prop :=
  ∀ (w : Nat) (A : Nat → Bool) (I : Nat → Nat → Int32) (K : Option Value → am_M → Prop), w < wc → una A ≤ u → FR I N M A →
    (∀ I' A1, ch PM I I' → FR I' N M A1 → FF (tkN N hc tc but) hc M A A1 w → K (some (.int 0)) (am_mk kt I' J T n s)) →
    (∀ I' M' A1, ch PM I I' → FR I' N M' A1 → FS (tkN N hc tc but) hc M A w M' → (∀ h, h < 11 → M' h ≠ 99 → M' h < wc) → K (some (.int 1)) (am_mk kt I' J T n s)) →
    am_T am_C (148, B, 0, [.ref 107, .int (nI w), .int but, .null], []) (am_mk kt I J T n s) K
theorem m_finds_l {M : Nat → Nat} {u B : Nat} (hB5 : 5 + u ≤ B) (ho : RO N hc wc tc) (hB : HB N hc) (hM : ∀ h, h < 11 → M h ≠ 99 → M h < wc) (hV : ∀ h, h < hc → M h ≠ 99 → tkN N hc tc but (M h) h = true) (rec : ∀ u', u = u' + 1 → FH kt J T n s N hc wc tc but M u' (B - 1)) {w : Nat} (hw : w < wc) {A0 : Nat → Bool} {I0 : Nat → Nat → Int32} :
    ∀ (j k : Nat) (A : Nat → Bool) (I : Nat → Nat → Int32), k + j = hc → una A ≤ u → ch PM I0 I → FR I N M A → FL (tkN N hc tc but) hc M A0 A w k →
    (∀ I' A1, ch PM I0 I' → FR I' N M A1 → FF (tkN N hc tc but) hc M A0 A1 w → K (some (.int 0)) (am_mk kt I' J T n s)) →
    (∀ I' M' A1, ch PM I0 I' → FR I' N M' A1 → FS (tkN N hc tc but) hc M A0 w M' → (∀ h, h < 11 → M' h ≠ 99 → M' h < wc) → K (some (.int 1)) (am_mk kt I' J T n s)) →
    am_T am_C (148, B, 2, [.ref 107, .int (nI w), .int but, .int (nI k)], []) (am_mk kt I J T n s) K
  | 0, k, A, I, hk, hu, hI, hF, hL, h0, h1 => by
    have : k = hc := by omega
    subst this
    have h11 := ho.1
    have vp1 : vp_in 1 1448 := vpl (k := 1) (by decide) (by decide)
    have c1 : I 108 (Int32.toNatClampNeg 1) ≤ nI k := by rw [hF.1]; show N 1 ≤ nI k; rw [ho.2.2.2.1]; exact nI_le (Nat.le_refl _) (by omega)
    refine am_wq_T (cut := fun z pc => (Nat.beq z 148 && Nat.beq pc 2)) (inl := fun _ => false) 120 _ _ _ ?_
    exact And.intro rfl (And.intro ⟨rfl, vp1⟩ (And.intro (fun _ => And.intro rfl (h0 I A hI hF (FL_end hL))) (fun q => absurd c1 q)))
  | j + 1, k, A, I, hk, hu, hI, hF, hL, h0, h1 => by
    have h11 := ho.1
    have hw6 := ho.2.1
    have k11 : k < 11 := by omega
    have khc : k < hc := by omega
    have vp1 : vp_in 1 1448 := vpl (k := 1) (by decide) (by decide)
    have vk : vp_in (nI k) 11 := vpl k11 (by decide)
    have c1 : ¬ I 108 (Int32.toNatClampNeg 1) ≤ nI k := by rw [hF.1]; show ¬ N 1 ≤ nI k; rw [ho.2.2.2.1]; exact nI_ge khc (by omega)
    have ih : ∀ A I, una A ≤ u → ch PM I0 I → FR I N M A → FL (tkN N hc tc but) hc M A0 A w (k + 1) → am_T am_C (148, B, 2, [.ref 107, .int (nI w), .int but, .int (nI k + 1)], []) (am_mk kt I J T n s) K := fun A I a b c d => by
      rw [← nI_succ]
      exact m_finds_l hB5 ho hB hM hV rec hw j (k + 1) A I (by omega) a b c d h0 h1
    by_cases hb : nI k = but
    · have key := ih A I hu hI hF (FL_skip hL fun q => absurd hb (tkN_t.mp q).2.1)
      refine am_wq_T (cut := fun z pc => (Nat.beq z 148 && Nat.beq pc 2)) (inl := fun z => !((Nat.beq z 147 || Nat.beq z 148))) 120 _ _ _ ?_
      exact And.intro rfl (And.intro ⟨rfl, vp1⟩ (And.intro (fun q => absurd q c1) (fun _ => And.intro (fun _ => key) (fun q => absurd hb q))))
    · cases hA : A k with
      | true =>
        have ea : ¬ I 112 (nI k).toNatClampNeg = 0 := by rw [nI_clamp (by omega), hF.2.2 k k11, hA]; decide
        have key := ih A I hu hI hF (FL_skip hL fun _ => hA)
        refine am_wq_T (cut := fun z pc => (Nat.beq z 148 && Nat.beq pc 2)) (inl := fun z => !((Nat.beq z 147 || Nat.beq z 148))) 120 _ _ _ ?_
        exact And.intro rfl (And.intro ⟨rfl, vp1⟩ (And.intro (fun q => absurd q c1) (fun _ => And.intro (fun q => absurd q hb) (fun _ => And.intro rfl (And.intro ⟨rfl, vk⟩ (And.intro (fun _ => key) (fun q => absurd ea q)))))))
      | false =>
        have ea : ¬ ¬ I 112 (nI k).toNatClampNeg = 0 := by rw [nI_clamp (by omega), hF.2.2 k k11, hA]; decide
        have hA0 : A0 k = false := by
          cases e : A0 k with
          | false => rfl
          | true => rw [hL.1 k e] at hA; cases hA
        refine am_wq_T (cut := fun z pc => (Nat.beq z 148 && Nat.beq pc 2)) (inl := fun z => !((Nat.beq z 147 || Nat.beq z 148))) 120 _ _ _ ?_
        refine And.intro rfl (And.intro ⟨rfl, vp1⟩ (And.intro (fun q => absurd q c1) (fun _ => And.intro (fun q => absurd q hb) (fun _ => And.intro rfl (And.intro ⟨rfl, vk⟩ (And.intro (fun q => absurd q ea) (fun _ => And.intro ⟨rfl, (by show 4 < B; omega)⟩ ?_)))))))
        refine m_doesMeet hF.1 ho hB khc (by omega) (fun I1 a b c => ?_) (fun I1 a b c => ?_)
        · have ht : tkN N hc tc but w k = true := tkN_t.mpr ⟨khc, hb, c⟩
          have hF1 := FR_ask k11 (FR_pf a hF)
          have hI1 : ch PM I0 (am_up I1 112 (nI k).toNatClampNeg 1) := ch_tr hI (ch_tr (S := PM) a (ch_up (P := PM) (.inr (.inl rfl))) fun r q => q.elim (fun q => .inr (.inr q)) id) fun r q => q.elim id id
          have e111 : am_up I1 112 (nI k).toNatClampNeg 1 111 (nI k).toNatClampNeg = hv (M k) := by rw [nI_clamp (by omega)]; rw [nI_clamp (by omega)] at hF1; exact hF1.2.1 k k11
          refine And.intro (fun _ => ?_) (fun q => absurd (by decide : ¬ (1 : Int32) = 0) q)
          refine And.intro rfl (And.intro ⟨rfl, vk, .inr rfl⟩ (And.intro rfl (And.intro ⟨rfl, vk⟩ ?_)))
          by_cases hm : M k = 99
          · have neg : am_up I1 112 (nI k).toNatClampNeg 1 111 (nI k).toNatClampNeg < 0 := by rw [e111, hm]; decide
            refine And.intro (fun _ => ?_) (fun q => absurd neg q)
            refine And.intro rfl (And.intro ⟨rfl, vk⟩ (And.intro rfl ?_))
            refine h1 _ (up1 M k w) _ (ch_tr hI1 (ch_up (P := PM) (.inl rfl)) fun r q => q.elim id id) (FR_has k11 (by omega) hF1) (FS_free khc hA0 hm ht hV) (fun h hh h9 => ?_)
            by_cases e : h = k
            · subst e; rw [up1_eq]; exact hw
            · rw [up1_ne e] at h9 ⊢; exact hM h hh h9
          · have hlt := hM k k11 hm
            have ev : hv (M k) = nI (M k) := if_neg hm
            have nneg : ¬ am_up I1 112 (nI k).toNatClampNeg 1 111 (nI k).toNatClampNeg < 0 := by rw [e111, ev]; exact nI_pos (by omega)
            refine And.intro (fun q => absurd q nneg) (fun _ => And.intro rfl (And.intro ⟨rfl, vk⟩ (And.intro ⟨rfl, (by show 0 < B; omega)⟩ ?_)))
            show am_T am_C (148, B - 1, 0, [.ref 107, .int (am_up I1 112 (nI k).toNatClampNeg 1 111 (nI k).toNatClampNeg), .int but, .null], []) (am_mk kt (am_up I1 112 (nI k).toNatClampNeg 1) J T n s) _
            rw [e111, ev]
            have hup := una_up k11 hA
            have hpos : 0 ≤ una (up1 A k true) := sm_nn 11 fun _ _ => (i1_01 _).1
            obtain ⟨u', rfl⟩ : ∃ u', u = u' + 1 := ⟨u - 1, by omega⟩
            refine rec u' rfl (M k) (up1 A k true) _ _ hlt (by omega) hF1 (fun I' A1 a1 b1 d1 => ?_) (fun I' M' A1 a1 b1 d1 f1 => ?_)
            · have key := ih A1 I' (Int.le_trans (una_le fun h q => d1.1 h (by
                  by_cases e : h = k
                  · subst e; exact up1_eq _ _ _
                  · rw [up1_ne e]; exact q)) hu) (ch_tr hI1 a1 fun r q => q.elim id id) b1 (FL_fail khc hm hL d1)
              exact And.intro (fun _ => key) (fun q => absurd rfl q)
            · refine And.intro (fun q => absurd q (by decide)) (fun _ => ?_)
              refine And.intro rfl (And.intro ⟨rfl, vk⟩ (And.intro rfl ?_))
              refine h1 _ (up1 M' k w) _ (ch_tr hI1 (ch_tr (S := PM) a1 (ch_up (P := PM) (.inl rfl)) fun r q => q.elim id id) fun r q => q.elim id id) (FR_has k11 (by omega) b1) (FS_move khc hA0 hL.1 hm ht d1) (fun h hh h9 => ?_)
              by_cases e : h = k
              · subst e; rw [up1_eq]; exact hw
              · rw [up1_ne e] at h9 ⊢; exact f1 h hh h9
        · have key := ih A I1 hu (ch_tr hI a fun r q => q.elim id fun q => .inr (.inr q)) (FR_pf a hF) (FL_skip hL fun q => absurd (tkN_t.mp q).2.2 c)
          exact And.intro (fun q => absurd rfl q) (fun _ => key)
theorem m_finds {M : Nat → Nat} (ho : RO N hc wc tc) (hB : HB N hc) (hM : ∀ h, h < 11 → M h ≠ 99 → M h < wc) (hV : ∀ h, h < hc → M h ≠ 99 → tkN N hc tc but (M h) h = true) : ∀ (u B : Nat), 5 + u ≤ B → FH kt J T n s N hc wc tc but M u B := by
  intro u
  induction u with
  | zero =>
    intro B hB5 w A I K hw hu hF h0 h1
    have := m_finds_l (K := K) hB5 ho hB hM hV (fun u' e => absurd e (by omega)) hw hc 0 A I (by omega) hu ch_rfl hF FL_0 h0 h1
    refine am_wq_T (cut := fun z pc => (Nat.beq z 148 && Nat.beq pc 2)) (inl := fun _ => false) 120 _ _ _ ?_
    exact this
  | succ u ih =>
    intro B hB5 w A I K hw hu hF h0 h1
    have := m_finds_l (K := K) hB5 ho hB hM hV (fun u' e => by
      have : u' = u := by omega
      subst this; exact ih (B - 1) (by omega)) hw hc 0 A I (by omega) hu ch_rfl hF FL_0 h0 h1
    refine am_wq_T (cut := fun z pc => (Nat.beq z 148 && Nat.beq pc 2)) (inl := fun _ => false) 120 _ _ _ ?_
    exact this
theorem m_clr {v3 v4 : Value} {I0 : Nat → Nat → Int32} : ∀ (j k : Nat) (I : Nat → Nat → Int32), k + j = 11 → ch (fun r => r = 111) I0 I → (∀ h, h < k → I 111 h = -1) → (∀ I', ch (fun r => r = 111) I0 I' → (∀ h, h < 11 → I' 111 h = -1) → am_T am_C (149, 25, 21, [.ref 107, .int but, .int (nI 11), v3, v4], []) (am_mk kt I' J T n s) K) → am_T am_C (149, 25, 2, [.ref 107, .int but, .int (nI k), v3, v4], []) (am_mk kt I J T n s) K
  | 0, k, I, hk, hI, h, hK => by
    have : k = 11 := by omega
    subst this
    have c1 : (11 : Int32) ≤ nI 11 := by decide
    have key := hK I hI h
    refine am_wq_T (cut := fun z pc => ((Nat.beq z 149 && Nat.beq pc 2) || (Nat.beq z 149 && Nat.beq pc 21))) (inl := fun _ => false) 120 _ _ _ ?_
    exact And.intro (fun _ => key) (fun q => absurd c1 q)
  | j + 1, k, I, hk, hI, h, hK => by
    have c1 : ¬ (11 : Int32) ≤ nI k := nI_ge (b := 11) (by omega) (by decide)
    have vk : vp_in (nI k) 11 := vpl (by omega) (by decide)
    have key := m_clr (v3 := v3) (v4 := v4) j (k + 1) (am_up I 111 (nI k).toNatClampNeg (-1)) (by omega) (ch_tr hI (ch_up (P := fun r => r = 111) rfl) fun r q => q.elim id id) (fun x hx => by
      rw [nI_clamp (by omega)]
      by_cases e : x = k
      · subst e; exact up_eq _ _ _ _
      · rw [up_ne (by omega)]; exact h x (by omega)) hK
    rw [nI_succ] at key
    refine am_wq_T (cut := fun z pc => ((Nat.beq z 149 && Nat.beq pc 2) || (Nat.beq z 149 && Nat.beq pc 21))) (inl := fun _ => false) 120 _ _ _ ?_
    exact And.intro (fun q => absurd q c1) (fun _ => And.intro rfl (And.intro ⟨rfl, vk⟩ key))
theorem m_clr2 {a b : Int32} {I0 : Nat → Nat → Int32} : ∀ (j k : Nat) (I : Nat → Nat → Int32), k + j = 11 → ch (fun r => r = 112) I0 I → (∀ h, h < k → I 112 h = 0) → (∀ I', ch (fun r => r = 112) I0 I' → (∀ h, h < 11 → I' 112 h = 0) → am_T am_C (149, 25, 60, [.ref 107, .int but, .int a, .int b, .int (nI 11)], []) (am_mk kt I' J T n s) K) → am_T am_C (149, 25, 39, [.ref 107, .int but, .int a, .int b, .int (nI k)], []) (am_mk kt I J T n s) K
  | 0, k, I, hk, hI, h, hK => by
    have : k = 11 := by omega
    subst this
    have c1 : (11 : Int32) ≤ nI 11 := by decide
    have key := hK I hI h
    refine am_wq_T (cut := fun z pc => ((Nat.beq z 149 && Nat.beq pc 39) || (Nat.beq z 149 && Nat.beq pc 60))) (inl := fun _ => false) 120 _ _ _ ?_
    exact And.intro (fun _ => key) (fun q => absurd c1 q)
  | j + 1, k, I, hk, hI, h, hK => by
    have c1 : ¬ (11 : Int32) ≤ nI k := nI_ge (b := 11) (by omega) (by decide)
    have vk : vp_in (nI k) 11 := vpl (by omega) (by decide)
    have key := m_clr2 (a := a) (b := b) j (k + 1) (am_up I 112 (nI k).toNatClampNeg 0) (by omega) (ch_tr hI (ch_up (P := fun r => r = 112) rfl) fun r q => q.elim id id) (fun x hx => by
      rw [nI_clamp (by omega)]
      by_cases e : x = k
      · subst e; exact up_eq _ _ _ _
      · rw [up_ne (by omega)]; exact h x (by omega)) hK
    rw [nI_succ] at key
    refine am_wq_T (cut := fun z pc => ((Nat.beq z 149 && Nat.beq pc 39) || (Nat.beq z 149 && Nat.beq pc 60))) (inl := fun _ => false) 120 _ _ _ ?_
    exact And.intro (fun q => absurd q c1) (fun _ => And.intro rfl (And.intro ⟨rfl, vk, .inl rfl⟩ key))
theorem m_met_l (ho : RO N hc wc tc) (hB : HB N hc) {I0 : Nat → Nat → Int32} : ∀ (j w m : Nat) (I : Nat → Nat → Int32) (M : Nat → Nat) (v4 : Value), w + j = wc → ch PM I0 I → I 108 = N → (∀ h, h < 11 → I 111 h = hv (M h)) → (∀ h, h < 11 → M h ≠ 99 → M h < wc) → KS (tkN N hc tc but) hc M w m → (∀ I' (m : Nat), ch PM I0 I' → IsMax (tkN N hc tc but) wc m → m ≤ wc → K (some (.int (nI m))) (am_mk kt I' J T n s)) → am_T am_C (149, 25, 25, [.ref 107, .int but, .int (nI m), .int (nI w), v4], []) (am_mk kt I J T n s) K
  | 0, w, m, I, M, v4, hw, hI, hN, hM, hM2, hS, hK => by
    have : w = wc := by omega
    subst this
    have h11 := ho.1
    have hw6 := ho.2.1
    have vp7 : vp_in 7 1448 := vpl (k := 7) (by decide) (by decide)
    have c1 : I 108 (Int32.toNatClampNeg 7) ≤ nI w := by rw [hN]; show N 7 ≤ nI w; rw [ho.2.2.2.2.1]; exact nI_le (Nat.le_refl _) (by omega)
    have mx := KS_max (by omega) (by omega) (fun w h q => (tkN_t.mp q).1) hS
    have key := hK I m hI mx (by
      obtain ⟨⟨a, a1, a2⟩, -⟩ := mx
      have : metc w a ≤ w := by
        have := sm_le (f := fun i => i1 (a i != 99)) (g := fun _ => 1) w fun i _ => (i1_01 _).2
        have e : ∀ k : Nat, sm (fun _ => 1) k = k := fun k => by
          induction k with
          | zero => rfl
          | succ k ih => rw [sm_s, ih]; omega
        rw [e] at this; exact this
      omega)
    refine am_wq_T (cut := fun z pc => (Nat.beq z 149 && Nat.beq pc 25)) (inl := fun _ => false) 120 _ _ _ ?_
    exact And.intro rfl (And.intro ⟨rfl, vp7⟩ (And.intro (fun _ => key) (fun q => absurd c1 q)))
  | j + 1, w, m, I, M, v4, hw, hI, hN, hM, hM2, hS, hK => by
    have h11 := ho.1
    have hw6 := ho.2.1
    have vp7 : vp_in 7 1448 := vpl (k := 7) (by decide) (by decide)
    have c1 : ¬ I 108 (Int32.toNatClampNeg 7) ≤ nI w := by rw [hN]; show ¬ N 7 ≤ nI w; rw [ho.2.2.2.2.1]; exact nI_ge (by omega) (by omega)
    have hV : ∀ h, h < hc → M h ≠ 99 → tkN N hc tc but (M h) h = true := by
      obtain ⟨_, _, _, q, -⟩ := hS; exact q
    refine am_wq_T (cut := fun z pc => (Nat.beq z 149 && Nat.beq pc 39)) (inl := fun _ => false) 120 _ _ _ ?_
    refine And.intro rfl (And.intro ⟨rfl, vp7⟩ (And.intro (fun q => absurd q c1) (fun _ => ?_)))
    refine m_clr2 (I0 := I) 11 0 I rfl ch_rfl (fun _ h => absurd h (by omega)) fun I2 a2 b2 => ?_
    have hF : FR I2 N M (fun _ => false) := ⟨by rw [a2 108 (by decide)]; exact hN, by rw [a2 111 (by decide)]; exact hM, b2⟩
    have hI2 : ch PM I0 I2 := ch_tr hI a2 fun r q => q.elim id fun q => .inr (.inl q)
    have hu : una (fun _ => false) ≤ (11 : Nat) := by decide
    refine am_wq_T (cut := fun z pc => (Nat.beq z 149 && Nat.beq pc 25)) (inl := fun z => !(Nat.beq z 148)) 120 _ _ _ ?_
    refine And.intro rfl ?_
    refine m_finds ho hB hM2 hV 11 24 (by decide) w _ I2 _ (by omega) hu hF (fun I' A1 a b c => ?_) (fun I' M' A1 a b c d => ?_)
    · refine And.intro (fun _ => ?_) (fun q => absurd rfl q)
      have key := m_met_l ho hB j (w + 1) m I' M (.int (nI 11)) (by omega) (ch_tr hI2 a fun r q => q.elim id id) b.1 b.2.1 hM2 (KS_fail (by omega) hS c) hK
      rw [nI_succ, show nI m = nI m + 0 from (Int32.add_zero _).symm] at key
      exact key
    · refine And.intro (fun q => absurd q (by decide)) (fun _ => ?_)
      have key := m_met_l ho hB j (w + 1) (m + 1) I' M' (.int (nI 11)) (by omega) (ch_tr hI2 a fun r q => q.elim id id) b.1 b.2.1 d (KS_succ (by omega) hS c) hK
      rw [nI_succ, nI_succ] at key
      exact key
theorem m_met (hN : I 108 = N) (ho : RO N hc wc tc) (hB : HB N hc) (hK : ∀ I' (m : Nat), ch PM I I' → IsMax (tkN N hc tc but) wc m → m ≤ wc → K (some (.int (nI m))) (am_mk kt I' J T n s)) : am_T am_C (149, 25, 0, [.ref 107, .int but, .null, .null, .null], []) (am_mk kt I J T n s) K := by
  have key := m_clr (kt := kt) (J := J) (T := T) (n := n) (s := s) (K := K) (but := but) (I0 := I) (v3 := .null) (v4 := .null) 11 0 I rfl ch_rfl (fun _ h => absurd h (by omega)) fun I2 a2 b2 => by
    have key2 := m_met_l (kt := kt) (J := J) (T := T) (n := n) (s := s) (K := K) (but := but) ho hB wc 0 0 I2 (fun _ => 99) .null (by omega) (ch_w (Q := PM) a2 fun r q => .inl q) (by rw [a2 108 (by decide)]; exact hN) b2 (fun _ _ q => absurd rfl q) (KS_0 fun _ _ => rfl) hK
    refine am_wq_T (cut := fun z pc => (Nat.beq z 149 && Nat.beq pc 25)) (inl := fun _ => false) 120 _ _ _ ?_
    exact key2
  refine am_wq_T (cut := fun z pc => (Nat.beq z 149 && Nat.beq pc 2)) (inl := fun _ => false) 120 _ _ _ ?_
  exact key
end T50
