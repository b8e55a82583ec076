/-! the class's dealer: the least price -/
section T52
variable {kt : Nat → Nat × Nat} {I I' : Nat → Nat → Int32} {J J' : Nat → Nat → Int64} {T : Nat → Nat → Nat} {n s : Nat} {K : Option Value → am_M → Prop} {N : Nat → Int32} {hc wc tc h w : Nat} {noH noW : Int32}
/-- the bounds of wants -/
def WB (N : Nat → Int32) (wc : Nat) : Prop := ∀ w, w < wc → sg_in (N (9 + 2 * w)) 0 29 ∧ sg_in (N (9 + 2 * w + 1)) 1 99
noncomputable def tkS (N : Nat → Int32) (hc wc tc : Nat) (noH noW : Int32) (w h : Nat) : Bool := @decide (h < hc ∧ w < wc ∧ ¬ nI h = noH ∧ ¬ nI w = noW ∧ MT N tc w h) (Classical.propDecidable _)
theorem tkS_t : tkS N hc wc tc noH noW w h = true ↔ h < hc ∧ w < wc ∧ ¬ nI h = noH ∧ ¬ nI w = noW ∧ MT N tc w h := @decide_eq_true_iff _ (Classical.propDecidable _)
def faN (N : Nat → Int32) (w h : Nat) : Int := (apt (N (21 + 5 * h + 1)) (N (9 + 2 * w))).toInt
theorem aptN : ∀ a, a < 30 → ∀ b, b < 30 → apt (nI a) (nI b) = nI (if b ≤ a then a - b else b - a) := by decide +kernel
theorem faN_k (hB : HB N hc) (hW : WB N wc) (hh : h < hc) (hw : w < wc) : ∃ k : Nat, k ≤ 29 ∧ apt (N (21 + 5 * h + 1)) (N (9 + 2 * w)) = nI k ∧ faN N w h = k := by
  obtain ⟨a, ha, e1⟩ := in_nI (m := 29) (hB h hh).2.1 (by decide)
  obtain ⟨b, hb, e2⟩ := in_nI (m := 29) (hW w hw).1 (by decide)
  have e := aptN a (by omega) b (by omega)
  refine ⟨if b ≤ a then a - b else b - a, by split <;> omega, by rw [e1, e2, e], ?_⟩
  unfold faN
  rw [e1, e2, e, nI_toInt (by split <;> omega)]
theorem FrS (hB : HB N hc) (hW : WB N wc) (h10 : hc ≤ 10) : Fr (tkS N hc wc tc noH noW) (faN N) := fun w h q => by
  obtain ⟨q1, q2, -⟩ := tkS_t.mp q
  obtain ⟨k, hk, -, e⟩ := faN_k hB hW q1 q2
  exact ⟨by omega, by omega, by omega⟩
/-- a hole's prices -/
noncomputable def pS (N : Nat → Int32) (hc wc tc : Nat) (noH noW : Int32) (h w : Nat) : Int := if tkS N hc wc tc noH noW w h = true then faN N w h * 1771561 - 310023175 + ((h : Int) - 10) * eD (w + 1) else NV
theorem lo_f : ∀ f, f < 30 → (nI f).toInt64 = lo f := by decide +kernel
theorem lo_h : ∀ h, h < 10 → (nI h - 10).toInt64 = lo ((h : Int) - 10) := by decide +kernel
theorem lo_d : ∀ w, w < 6 → am_digits w = lo (eD (w + 1)) := by decide +kernel
theorem lo_MP : (1771561 : Int64) = lo 1771561 := by decide
theorem lo_UP : (310023175 : Int64) = lo 310023175 := by decide
theorem eD_le : ∀ w, w < 6 → eD (w + 1) ≤ 161051 := by decide
theorem pS_b (hB : HB N hc) (hW : WB N wc) (h10 : hc ≤ 10) (hh : h < hc) (w6 : wc ≤ 6) (hw : w < wc) : pS N hc wc tc noH noW h w = NV ∨ (-1100000000000 ≤ pS N hc wc tc noH noW h w ∧ pS N hc wc tc noH noW h w ≤ 1100000000000) := by
  unfold pS
  split
  · right
    obtain ⟨k, hk, -, e⟩ := faN_k hB hW hh hw
    have e1 := eD_le w (by omega)
    have e2 := eD_pos (w + 1)
    have a := Int.mul_le_mul_of_nonneg_right (show (h : Int) - 10 ≤ 0 by omega) (show 0 ≤ eD (w + 1) by omega)
    have b := Int.mul_le_mul_of_nonneg_right (show (-10 : Int) ≤ (h : Int) - 10 by omega) (show 0 ≤ eD (w + 1) by omega)
    rw [e]; omega
  · exact .inl rfl
set_option maxRecDepth 4000 in
theorem c_price8421 {f : Nat} {v5 v6 : Value} {J2 : Nat → Nat → Int64} (hf : f < 30) (hh : h < 10) (hw : w < 6) (h15 : J2 15 = am_digits)
    (ih : am_T am_C (2, 4, 3, [.ref 69, .ref 21, .int (nI h), .int noW, .int (nI w + 1), v5, v6, .int (nI f)], []) (am_mk kt I (am_up J2 71 w (lo (f * 1771561 - 310023175 + ((h : Int) - 10) * eD (w + 1)))) T n s) K) : am_T am_C (2, 4, 84, [.ref 69, .ref 21, .int (nI h), .int noW, .int (nI w), v5, v6, .int (nI f)], []) (am_mk kt I J2 T n s) K := by
  have vw : vp_in (nI w) 6 := vpl hw (by decide)
  have e : (nI f).toInt64 * 1771561 - 310023175 + (nI h - 10).toInt64 * J2 15 (nI w).toNatClampNeg = lo (f * 1771561 - 310023175 + ((h : Int) - 10) * eD (w + 1)) := by
    rw [lo_f f hf, lo_h h hh, h15, nI_clamp (by omega), lo_d w hw, lo_MP, lo_UP, lo_mul, lo_mul, lo_sub, lo_add]
  have ih2 : am_T am_C (2, 4, 3, [.ref 69, .ref 21, .int (nI h), .int noW, .int (nI w + 1), v5, v6, .int (nI f)], []) (am_mk kt I (am_up J2 71 (nI w).toNatClampNeg ((nI f).toInt64 * 1771561 - 310023175 + (nI h - 10).toInt64 * J2 15 (nI w).toNatClampNeg)) T n s) K := by
    rw [e, nI_clamp (n := w) (by omega)]; exact ih
  refine am_wq_T (cut := fun z pc => (Nat.beq z 2 && Nat.beq pc 3)) (inl := fun _ => false) 120 _ _ _ ?_
  refine And.intro rfl ?_
  refine And.intro ⟨rfl, vw⟩ ?_
  refine And.intro ⟨rfl, vw⟩ ?_
  exact ih2
theorem c_price_l21 {I0 : Nat → Nat → Int32} {J0 : Nat → Nat → Int64} (hR : sg_LR kt I0 T n 21 N hc wc tc) (hB : HB N hc) (hW : WB N wc) (hI : I0 69 2 = nI wc) (h15 : J0 15 = am_digits) (hh : h < hc) (hnh : ¬ nI h = noH) :
    ∀ (j w : Nat) (I : Nat → Nat → Int32) (J : Nat → Nat → Int64) (v5 v6 v7 : Value), w + j = wc → ch CT I0 I → chJ (fun r => r = 71) J0 J → (∀ i, i < w → J 71 i = lo (pS N hc wc tc noH noW h i)) → (∀ I' J', ch CT I0 I' → chJ (fun r => r = 71) J0 J' → (∀ i, i < wc → J' 71 i = lo (pS N hc wc tc noH noW h i)) → K none (am_mk kt I' J' T n s)) → am_T am_C (2, 4, 3, [.ref 69, .ref 21, .int (nI h), .int noW, .int (nI w), v5, v6, v7], []) (am_mk kt I J T n s) K
  | 0, w, I, J, v5, v6, v7, hw, hI0, hJ0, h71, hK => by
    have : w = wc := by omega
    subst this
    have hw6 := hR.2.1
    have c1 : I 69 2 ≤ nI w := by rw [hI0 69 (by unfold CT; omega), hI]; exact nI_le (Nat.le_refl _) (by omega)
    refine am_wq_T (cut := fun z pc => (Nat.beq z 2 && Nat.beq pc 3)) (inl := fun _ => false) 120 _ _ _ ?_
    exact And.intro rfl (And.intro (fun _ => hK I J hI0 hJ0 h71) (fun q => absurd c1 q))
  | j + 1, w, I, J, v5, v6, v7, hw, hI0, hJ0, h71, hK => by
    have hw6 := hR.2.1
    have h10 := hR.1
    have wW : w < wc := by omega
    have c1 : ¬ I 69 2 ≤ nI w := by rw [hI0 69 (by unfold CT; omega), hI]; exact nI_ge wW (by omega)
    have vw : vp_in (nI w) 6 := vpl (by omega) (by decide)
    have vh : vp_in (nI h) 10 := vpl (by omega) (by decide)
    have l100 : ¬ (100 : Int32) = 0 := by decide
    have hR' := CT_LR (b := 21) (by decide) hI0 hR
    have eP : I 23 (nI w).toNatClampNeg = N (9 + 2 * w) := by rw [nI_clamp (by omega)]; exact (hR'.2.2.2.2.2.2.2.2.2.2.1 w wW).1
    have eS : I 24 (nI w).toNatClampNeg = N (10 + 2 * w) := by rw [nI_clamp (by omega), show 10 + 2 * w = 9 + 2 * w + 1 by omega]; exact (hR'.2.2.2.2.2.2.2.2.2.2.1 w wW).2
    have e9 : I 21 9 = N 4 := hR'.2.2.2.2.2.2.2.2.2.2.2.2.1
    have ih : ∀ I J v5 v6 v7, ch CT I0 I → chJ (fun r => r = 71) J0 J → (∀ i, i < w + 1 → J 71 i = lo (pS N hc wc tc noH noW h i)) → am_T am_C (2, 4, 3, [.ref 69, .ref 21, .int (nI h), .int noW, .int (nI w + 1), v5, v6, v7], []) (am_mk kt I J T n s) K := fun I J v5 v6 v7 a b c => by
      rw [← nI_succ]
      exact c_price_l21 hR hB hW hI h15 hh hnh j (w + 1) I J v5 v6 v7 (by omega) a b c hK
    have hJ2 : chJ (fun r => r = 71) J0 (am_up J 71 (nI w).toNatClampNeg 4611686018427387904) := chJ_tr hJ0 (chJ_up (P := fun r => r = 71) rfl) fun r q => q.elim id id
    have hNV : ∀ I, ch CT I0 I → pS N hc wc tc noH noW h w = NV → ∀ v5 v6 v7, am_T am_C (2, 4, 3, [.ref 69, .ref 21, .int (nI h), .int noW, .int (nI w + 1), v5, v6, v7], []) (am_mk kt I (am_up J 71 (nI w).toNatClampNeg 4611686018427387904) T n s) K := fun I a e v5 v6 v7 => ih I _ v5 v6 v7 a hJ2 fun i hi => by
      rw [nI_clamp (by omega)]
      by_cases q : i = w
      · subst q; rw [upJ_eq, e]; exact lo_NV
      · rw [upJ_ne (by omega)]; exact h71 i (by omega)
    by_cases cw : nI w = noW
    · have key := hNV I hI0 (if_neg fun q => (tkS_t.mp q).2.2.2.1 cw)
      refine am_wq_T (cut := fun z pc => (Nat.beq z 2 && Nat.beq pc 3)) (inl := fun z => !(Nat.beq z 21)) 120 _ _ _ ?_
      refine And.intro rfl (And.intro (fun q => absurd q c1) (fun _ => And.intro rfl (And.intro ⟨rfl, vw⟩ (And.intro rfl (And.intro ⟨rfl, vw⟩ (And.intro rfl (And.intro rfl (And.intro l100 (And.intro rfl (And.intro ⟨rfl, vw⟩ ?_))))))))))
      exact And.intro (fun _ => key _ _ _) (fun q => absurd cw q)
    · refine am_wq_T (cut := fun z pc => ((Nat.beq z 2 && Nat.beq pc 3) || (Nat.beq z 2 && Nat.beq pc 84))) (inl := fun z => !(Nat.beq z 21)) 120 _ _ _ ?_
      refine And.intro rfl (And.intro (fun q => absurd q c1) (fun _ => And.intro rfl (And.intro ⟨rfl, vw⟩ (And.intro rfl (And.intro ⟨rfl, vw⟩ (And.intro rfl (And.intro rfl (And.intro l100 (And.intro rfl (And.intro ⟨rfl, vw⟩ ?_))))))))))
      refine And.intro (fun q => absurd q cw) (fun _ => And.intro rfl (And.intro ⟨rfl, vh⟩ (And.intro rfl ?_)))
      refine c_canFill21 (h := h) hR' hB hh (rL21 (by omega)) (by show sg_in (I 23 (nI w).toNatClampNeg) 0 29; rw [eP]; exact (hW w wW).1) (fun I2 a c => ?_) (fun I2 a c => ?_)
      · have c : TK N tc h (I 24 (nI w).toNatClampNeg * I 21 9 / 100) (I 23 (nI w).toNatClampNeg) := c
        rw [eP, eS, e9] at c
        have ht : tkS N hc wc tc noH noW w h = true := tkS_t.mpr ⟨hh, wW, hnh, cw, c⟩
        obtain ⟨k, hk, ek, ef⟩ := faN_k hB hW hh wW
        have hp : pS N hc wc tc noH noW h w = k * 1771561 - 310023175 + ((h : Int) - 10) * eD (w + 1) := by unfold pS; rw [if_pos ht, ef]
        have eA : apc (I2 (27 + h) 1) (N (9 + 2 * w)) = nI k := by
          rw [a _ (by unfold CT; omega), show I (27 + h) 1 = N (21 + 5 * h + 1) from hR'.2.2.2.2.2.2.2.2.2.1 h hh 1 (by decide), (ap_eq (hB h hh).2.1 (hW w wW).1).1]
          exact ek
        refine And.intro (fun q => absurd q (by decide)) (fun _ => And.intro rfl (And.intro ⟨rfl, vh⟩ (And.intro (by rw [rL21 (by omega)]; exact kL21 (by omega)) ?_)))
        show am_T am_C (2, 4, 84, [.ref 69, .ref 21, .int (nI h), .int noW, .int (nI w), .int (I 23 (nI w).toNatClampNeg), .int (I 24 (nI w).toNatClampNeg * I 21 9 / 100), .int (apc (I2 (am_R (am_k kt, I2, am_up J 71 (nI w).toNatClampNeg 4611686018427387904, am_r T, n, s) (am_R (am_k kt, I2, am_up J 71 (nI w).toNatClampNeg 4611686018427387904, am_r T, n, s) 21 0) (nI h).toNatClampNeg) 1) (I 23 (nI w).toNatClampNeg))], []) (am_mk kt I2 (am_up J 71 (nI w).toNatClampNeg 4611686018427387904) T n s) K
        rw [rL21 (by omega), eP, eA]
        refine c_price8421 (by omega) (by omega) (by omega) (by rw [hJ2 15 (by decide)]; exact h15) ?_
        refine ih I2 _ _ _ _ (ch_tr hI0 a fun r q => q.elim id id) (chJ_tr hJ2 (chJ_up (P := fun r => r = 71) rfl) fun r q => q.elim id id) fun i hi => ?_
        by_cases q : i = w
        · subst q; rw [upJ_eq, hp]
        · rw [upJ_ne (by omega), nI_clamp (by omega), upJ_ne (by omega)]; exact h71 i (by omega)
      · have c : ¬ TK N tc h (I 24 (nI w).toNatClampNeg * I 21 9 / 100) (I 23 (nI w).toNatClampNeg) := c
        rw [eP, eS, e9] at c
        have key := hNV I2 (ch_tr hI0 a fun r q => q.elim id id) (if_neg fun q => c (tkS_t.mp q).2.2.2.2)
        exact And.intro (fun _ => key _ _ _) (fun q => absurd rfl q)
theorem c_price21 (hR : sg_LR kt I T n 21 N hc wc tc) (hB : HB N hc) (hW : WB N wc) (hI : I 69 2 = nI wc) (h15 : J 15 = am_digits) (hh : h < hc) (hnh : ¬ nI h = noH) (hK : ∀ I' J', ch CT I I' → chJ (fun r => r = 71) J J' → (∀ i, i < wc → J' 71 i = lo (pS N hc wc tc noH noW h i)) → K none (am_mk kt I' J' T n s)) : am_T am_C (2, 4, 0, [.ref 69, .ref 21, .int (nI h), .int noW, .null, .null, .null, .null], []) (am_mk kt I J T n s) K := by
  have key := c_price_l21 hR hB hW hI h15 hh hnh wc 0 I J .null .null .null (by omega) ch_rfl chJ_rfl (fun _ q => absurd q (by omega)) hK
  refine am_wq_T (cut := fun z pc => (Nat.beq z 2 && Nat.beq pc 3)) (inl := fun _ => false) 120 _ _ _ ?_
  exact key
set_option maxRecDepth 4000 in
theorem c_price8437 {f : Nat} {v5 v6 : Value} {J2 : Nat → Nat → Int64} (hf : f < 30) (hh : h < 10) (hw : w < 6) (h15 : J2 15 = am_digits)
    (ih : am_T am_C (2, 4, 3, [.ref 69, .ref 37, .int (nI h), .int noW, .int (nI w + 1), v5, v6, .int (nI f)], []) (am_mk kt I (am_up J2 71 w (lo (f * 1771561 - 310023175 + ((h : Int) - 10) * eD (w + 1)))) T n s) K) : am_T am_C (2, 4, 84, [.ref 69, .ref 37, .int (nI h), .int noW, .int (nI w), v5, v6, .int (nI f)], []) (am_mk kt I J2 T n s) K := by
  have vw : vp_in (nI w) 6 := vpl hw (by decide)
  have e : (nI f).toInt64 * 1771561 - 310023175 + (nI h - 10).toInt64 * J2 15 (nI w).toNatClampNeg = lo (f * 1771561 - 310023175 + ((h : Int) - 10) * eD (w + 1)) := by
    rw [lo_f f hf, lo_h h hh, h15, nI_clamp (by omega), lo_d w hw, lo_MP, lo_UP, lo_mul, lo_mul, lo_sub, lo_add]
  have ih2 : am_T am_C (2, 4, 3, [.ref 69, .ref 37, .int (nI h), .int noW, .int (nI w + 1), v5, v6, .int (nI f)], []) (am_mk kt I (am_up J2 71 (nI w).toNatClampNeg ((nI f).toInt64 * 1771561 - 310023175 + (nI h - 10).toInt64 * J2 15 (nI w).toNatClampNeg)) T n s) K := by
    rw [e, nI_clamp (n := w) (by omega)]; exact ih
  refine am_wq_T (cut := fun z pc => (Nat.beq z 2 && Nat.beq pc 3)) (inl := fun _ => false) 120 _ _ _ ?_
  refine And.intro rfl ?_
  refine And.intro ⟨rfl, vw⟩ ?_
  refine And.intro ⟨rfl, vw⟩ ?_
  exact ih2
theorem c_price_l37 {I0 : Nat → Nat → Int32} {J0 : Nat → Nat → Int64} (hR : sg_LR kt I0 T n 37 N hc wc tc) (hB : HB N hc) (hW : WB N wc) (hI : I0 69 2 = nI wc) (h15 : J0 15 = am_digits) (hh : h < hc) (hnh : ¬ nI h = noH) :
    ∀ (j w : Nat) (I : Nat → Nat → Int32) (J : Nat → Nat → Int64) (v5 v6 v7 : Value), w + j = wc → ch CT I0 I → chJ (fun r => r = 71) J0 J → (∀ i, i < w → J 71 i = lo (pS N hc wc tc noH noW h i)) → (∀ I' J', ch CT I0 I' → chJ (fun r => r = 71) J0 J' → (∀ i, i < wc → J' 71 i = lo (pS N hc wc tc noH noW h i)) → K none (am_mk kt I' J' T n s)) → am_T am_C (2, 4, 3, [.ref 69, .ref 37, .int (nI h), .int noW, .int (nI w), v5, v6, v7], []) (am_mk kt I J T n s) K
  | 0, w, I, J, v5, v6, v7, hw, hI0, hJ0, h71, hK => by
    have : w = wc := by omega
    subst this
    have hw6 := hR.2.1
    have c1 : I 69 2 ≤ nI w := by rw [hI0 69 (by unfold CT; omega), hI]; exact nI_le (Nat.le_refl _) (by omega)
    refine am_wq_T (cut := fun z pc => (Nat.beq z 2 && Nat.beq pc 3)) (inl := fun _ => false) 120 _ _ _ ?_
    exact And.intro rfl (And.intro (fun _ => hK I J hI0 hJ0 h71) (fun q => absurd c1 q))
  | j + 1, w, I, J, v5, v6, v7, hw, hI0, hJ0, h71, hK => by
    have hw6 := hR.2.1
    have h10 := hR.1
    have wW : w < wc := by omega
    have c1 : ¬ I 69 2 ≤ nI w := by rw [hI0 69 (by unfold CT; omega), hI]; exact nI_ge wW (by omega)
    have vw : vp_in (nI w) 6 := vpl (by omega) (by decide)
    have vh : vp_in (nI h) 10 := vpl (by omega) (by decide)
    have l100 : ¬ (100 : Int32) = 0 := by decide
    have hR' := CT_LR (b := 37) (by decide) hI0 hR
    have eP : I 39 (nI w).toNatClampNeg = N (9 + 2 * w) := by rw [nI_clamp (by omega)]; exact (hR'.2.2.2.2.2.2.2.2.2.2.1 w wW).1
    have eS : I 40 (nI w).toNatClampNeg = N (10 + 2 * w) := by rw [nI_clamp (by omega), show 10 + 2 * w = 9 + 2 * w + 1 by omega]; exact (hR'.2.2.2.2.2.2.2.2.2.2.1 w wW).2
    have e9 : I 37 9 = N 4 := hR'.2.2.2.2.2.2.2.2.2.2.2.2.1
    have ih : ∀ I J v5 v6 v7, ch CT I0 I → chJ (fun r => r = 71) J0 J → (∀ i, i < w + 1 → J 71 i = lo (pS N hc wc tc noH noW h i)) → am_T am_C (2, 4, 3, [.ref 69, .ref 37, .int (nI h), .int noW, .int (nI w + 1), v5, v6, v7], []) (am_mk kt I J T n s) K := fun I J v5 v6 v7 a b c => by
      rw [← nI_succ]
      exact c_price_l37 hR hB hW hI h15 hh hnh j (w + 1) I J v5 v6 v7 (by omega) a b c hK
    have hJ2 : chJ (fun r => r = 71) J0 (am_up J 71 (nI w).toNatClampNeg 4611686018427387904) := chJ_tr hJ0 (chJ_up (P := fun r => r = 71) rfl) fun r q => q.elim id id
    have hNV : ∀ I, ch CT I0 I → pS N hc wc tc noH noW h w = NV → ∀ v5 v6 v7, am_T am_C (2, 4, 3, [.ref 69, .ref 37, .int (nI h), .int noW, .int (nI w + 1), v5, v6, v7], []) (am_mk kt I (am_up J 71 (nI w).toNatClampNeg 4611686018427387904) T n s) K := fun I a e v5 v6 v7 => ih I _ v5 v6 v7 a hJ2 fun i hi => by
      rw [nI_clamp (by omega)]
      by_cases q : i = w
      · subst q; rw [upJ_eq, e]; exact lo_NV
      · rw [upJ_ne (by omega)]; exact h71 i (by omega)
    by_cases cw : nI w = noW
    · have key := hNV I hI0 (if_neg fun q => (tkS_t.mp q).2.2.2.1 cw)
      refine am_wq_T (cut := fun z pc => (Nat.beq z 2 && Nat.beq pc 3)) (inl := fun z => !(Nat.beq z 21)) 120 _ _ _ ?_
      refine And.intro rfl (And.intro (fun q => absurd q c1) (fun _ => And.intro rfl (And.intro ⟨rfl, vw⟩ (And.intro rfl (And.intro ⟨rfl, vw⟩ (And.intro rfl (And.intro rfl (And.intro l100 (And.intro rfl (And.intro ⟨rfl, vw⟩ ?_))))))))))
      exact And.intro (fun _ => key _ _ _) (fun q => absurd cw q)
    · refine am_wq_T (cut := fun z pc => ((Nat.beq z 2 && Nat.beq pc 3) || (Nat.beq z 2 && Nat.beq pc 84))) (inl := fun z => !(Nat.beq z 21)) 120 _ _ _ ?_
      refine And.intro rfl (And.intro (fun q => absurd q c1) (fun _ => And.intro rfl (And.intro ⟨rfl, vw⟩ (And.intro rfl (And.intro ⟨rfl, vw⟩ (And.intro rfl (And.intro rfl (And.intro l100 (And.intro rfl (And.intro ⟨rfl, vw⟩ ?_))))))))))
      refine And.intro (fun q => absurd q cw) (fun _ => And.intro rfl (And.intro ⟨rfl, vh⟩ (And.intro rfl ?_)))
      refine c_canFill37 (h := h) hR' hB hh (rL37 (by omega)) (by show sg_in (I 39 (nI w).toNatClampNeg) 0 29; rw [eP]; exact (hW w wW).1) (fun I2 a c => ?_) (fun I2 a c => ?_)
      · have c : TK N tc h (I 40 (nI w).toNatClampNeg * I 37 9 / 100) (I 39 (nI w).toNatClampNeg) := c
        rw [eP, eS, e9] at c
        have ht : tkS N hc wc tc noH noW w h = true := tkS_t.mpr ⟨hh, wW, hnh, cw, c⟩
        obtain ⟨k, hk, ek, ef⟩ := faN_k hB hW hh wW
        have hp : pS N hc wc tc noH noW h w = k * 1771561 - 310023175 + ((h : Int) - 10) * eD (w + 1) := by unfold pS; rw [if_pos ht, ef]
        have eA : apc (I2 (43 + h) 1) (N (9 + 2 * w)) = nI k := by
          rw [a _ (by unfold CT; omega), show I (43 + h) 1 = N (21 + 5 * h + 1) from hR'.2.2.2.2.2.2.2.2.2.1 h hh 1 (by decide), (ap_eq (hB h hh).2.1 (hW w wW).1).1]
          exact ek
        refine And.intro (fun q => absurd q (by decide)) (fun _ => And.intro rfl (And.intro ⟨rfl, vh⟩ (And.intro (by rw [rL37 (by omega)]; exact kL37 (by omega)) ?_)))
        show am_T am_C (2, 4, 84, [.ref 69, .ref 37, .int (nI h), .int noW, .int (nI w), .int (I 39 (nI w).toNatClampNeg), .int (I 40 (nI w).toNatClampNeg * I 37 9 / 100), .int (apc (I2 (am_R (am_k kt, I2, am_up J 71 (nI w).toNatClampNeg 4611686018427387904, am_r T, n, s) (am_R (am_k kt, I2, am_up J 71 (nI w).toNatClampNeg 4611686018427387904, am_r T, n, s) 37 0) (nI h).toNatClampNeg) 1) (I 39 (nI w).toNatClampNeg))], []) (am_mk kt I2 (am_up J 71 (nI w).toNatClampNeg 4611686018427387904) T n s) K
        rw [rL37 (by omega), eP, eA]
        refine c_price8437 (by omega) (by omega) (by omega) (by rw [hJ2 15 (by decide)]; exact h15) ?_
        refine ih I2 _ _ _ _ (ch_tr hI0 a fun r q => q.elim id id) (chJ_tr hJ2 (chJ_up (P := fun r => r = 71) rfl) fun r q => q.elim id id) fun i hi => ?_
        by_cases q : i = w
        · subst q; rw [upJ_eq, hp]
        · rw [upJ_ne (by omega), nI_clamp (by omega), upJ_ne (by omega)]; exact h71 i (by omega)
      · have c : ¬ TK N tc h (I 40 (nI w).toNatClampNeg * I 37 9 / 100) (I 39 (nI w).toNatClampNeg) := c
        rw [eP, eS, e9] at c
        have key := hNV I2 (ch_tr hI0 a fun r q => q.elim id id) (if_neg fun q => c (tkS_t.mp q).2.2.2.2)
        exact And.intro (fun _ => key _ _ _) (fun q => absurd rfl q)
theorem c_price37 (hR : sg_LR kt I T n 37 N hc wc tc) (hB : HB N hc) (hW : WB N wc) (hI : I 69 2 = nI wc) (h15 : J 15 = am_digits) (hh : h < hc) (hnh : ¬ nI h = noH) (hK : ∀ I' J', ch CT I I' → chJ (fun r => r = 71) J J' → (∀ i, i < wc → J' 71 i = lo (pS N hc wc tc noH noW h i)) → K none (am_mk kt I' J' T n s)) : am_T am_C (2, 4, 0, [.ref 69, .ref 37, .int (nI h), .int noW, .null, .null, .null, .null], []) (am_mk kt I J T n s) K := by
  have key := c_price_l37 hR hB hW hI h15 hh hnh wc 0 I J .null .null .null (by omega) ch_rfl chJ_rfl (fun _ q => absurd q (by omega)) hK
  refine am_wq_T (cut := fun z pc => (Nat.beq z 2 && Nat.beq pc 3)) (inl := fun _ => false) 120 _ _ _ ?_
  exact key
/-! all holes, one behind the other -/
theorem c_fill : ∀ (j k : Nat) (J0 J : Nat → Nat → Int64) (v : Int64), k + j = 64 → chJ (fun r => r = 70) J0 J → (∀ i, i < k → J 70 i = v) → (∀ J', chJ (fun r => r = 70) J0 J' → (∀ i, i < 64 → J' 70 i = v) → K none (am_mk kt I J' T n s)) → am_T am_C (216, 0, 6, [.ref 70, .long v, .null, .int (nI k), .int (Int32.ofNat 64)], []) (am_mk kt I J T n s) K
  | 0, k, J0, J, v, hk, hJ, h, hK => by
    have : k = 64 := by omega
    subst this
    have c1 : Int32.ofNat 64 ≤ nI 64 := by decide
    refine am_wq_T (cut := fun z pc => (Nat.beq z 216 && Nat.beq pc 6)) (inl := fun _ => false) 120 _ _ _ ?_
    exact And.intro (fun _ => hK J hJ h) (fun q => absurd c1 q)
  | j + 1, k, J0, J, v, hk, hJ, h, hK => by
    have c1 : ¬ Int32.ofNat 64 ≤ nI k := nI_ge (b := 64) (by omega) (by decide)
    have vk : vp_in (nI k) 64 := vpl (by omega) (by decide)
    have key := c_fill j (k + 1) J0 (am_up J 70 (nI k).toNatClampNeg v) v (by omega) (chJ_tr hJ (chJ_up (P := fun r => r = 70) rfl) fun r q => q.elim id id) (fun i hi => by
      rw [nI_clamp (by omega)]
      by_cases e : i = k
      · subst e; exact upJ_eq _ _ _ _
      · rw [upJ_ne (by omega)]; exact h i (by omega)) hK
    rw [nI_succ] at key
    refine am_wq_T (cut := fun z pc => (Nat.beq z 216 && Nat.beq pc 6)) (inl := fun _ => false) 120 _ _ _ ?_
    exact And.intro (fun q => absurd q c1) (fun _ => And.intro ⟨rfl, vk⟩ key)
/-- the rows of longs that the dealer changes -/
def PJ (r : Nat) : Prop := r = 69 ∨ r = 70 ∨ r = 71
/-- its ints -/
def PS (r : Nat) : Prop := r = 69 ∨ CT r
theorem sum0_b : ∀ w, w ≤ 6 → 0 ≤ sm (fun w => 310023175 + 10 * eD (w + 1)) w ∧ sm (fun w => 310023175 + 10 * eD (w + 1)) w ≤ 2000000000 := by decide
theorem c_solve121 {J0 : Nat → Nat → Int64} (hI : I 69 2 = nI wc) (hw6 : wc ≤ 6) (h15 : J0 15 = am_digits) : ∀ (j w : Nat) (J : Nat → Nat → Int64), w + j = wc → chJ PJ J0 J → J 70 0 = lo (sm (fun w => 310023175 + 10 * eD (w + 1)) w) → (∀ S, S < 64 → S ≠ 0 → J 70 S = lo NV) → (∀ J', chJ PJ J0 J' → J' 70 0 = lo (sm (fun w => 310023175 + 10 * eD (w + 1)) wc) → (∀ S, S < 64 → S ≠ 0 → J' 70 S = lo NV) → am_T am_C (1, 5, 66, [.ref 69, .ref 21, .int noH, .int noW, .int (nI wc)], []) (am_mk kt I J' T n s) K) → am_T am_C (1, 5, 28, [.ref 69, .ref 21, .int noH, .int noW, .int (nI w)], []) (am_mk kt I J T n s) K
  | 0, w, J, hw, hJ, h0, hS, hK => by
    have : w = wc := by omega
    subst this
    have c1 : I 69 2 ≤ nI w := by rw [hI]; exact nI_le (Nat.le_refl _) (by omega)
    have key := hK J hJ h0 hS
    refine am_wq_T (cut := fun z pc => ((Nat.beq z 1 && Nat.beq pc 28) || (Nat.beq z 1 && Nat.beq pc 66))) (inl := fun _ => false) 120 _ _ _ ?_
    exact And.intro rfl (And.intro (fun _ => key) (fun q => absurd c1 q))
  | j + 1, w, J, hw, hJ, h0, hS, hK => by
    have c1 : ¬ I 69 2 ≤ nI w := by rw [hI]; exact nI_ge (by omega) (by omega)
    have v0 : vp_in 0 64 := vpl (k := 0) (by decide) (by decide)
    have vw : vp_in (nI w) 6 := vpl (by omega) (by decide)
    have e : J 70 (Int32.toNatClampNeg 0) + (310023175 + 10 * J 15 (nI w).toNatClampNeg) = lo (sm (fun w => 310023175 + 10 * eD (w + 1)) (w + 1)) := by
      rw [show Int32.toNatClampNeg 0 = 0 from rfl, h0, hJ 15 (by unfold PJ; omega), h15, nI_clamp (by omega), lo_d w (by omega), lo_UP, show (10 : Int64) = lo 10 by decide, lo_mul, lo_add, lo_add, sm_s]
    have key := c_solve121 hI hw6 h15 j (w + 1) (am_up J 70 0 (lo (sm (fun w => 310023175 + 10 * eD (w + 1)) (w + 1)))) (by omega) (chJ_tr hJ (chJ_up (P := PJ) (.inr (.inl rfl))) fun r q => q.elim id id) (upJ_eq _ _ _ _) (fun S a b => by rw [upJ_ne (by omega)]; exact hS S a b) hK
    rw [nI_succ, ← e] at key
    refine am_wq_T (cut := fun z pc => ((Nat.beq z 1 && Nat.beq pc 28) || (Nat.beq z 1 && Nat.beq pc 66))) (inl := fun _ => false) 120 _ _ _ ?_
    exact And.intro rfl (And.intro (fun q => absurd q c1) (fun _ => And.intro rfl (And.intro ⟨rfl, v0⟩ (And.intro ⟨rfl, vw⟩ (And.intro ⟨rfl, v0⟩ key)))))
theorem c_solve221 {I0 : Nat → Nat → Int32} {J0 : Nat → Nat → Int64} (hR : sg_LR kt I0 T n 21 N hc wc tc) (hB : HB N hc) (hW : WB N wc) (hI : I0 69 2 = nI wc) (h15 : J0 15 = am_digits) :
    ∀ (j h : Nat) (I : Nat → Nat → Int32) (J : Nat → Nat → Int64) (L : Nat → Int), h + j = hc → ch PS I0 I → I 69 2 = nI wc → chJ PJ J0 J → (∀ S, S < 64 → J 70 S = lo (L S)) → PI (tkS N hc wc tc noH noW) (faN N) wc h L → (∀ I' J' L', ch PS I0 I' → I' 69 2 = nI wc → chJ PJ J0 J' → (∀ S, S < 64 → J' 70 S = lo (L' S)) → PI (tkS N hc wc tc noH noW) (faN N) wc hc L' → am_T am_C (1, 5, 102, [.ref 69, .ref 21, .int noH, .int noW, .int (nI hc)], []) (am_mk kt I' J' T n s) K) → am_T am_C (1, 5, 69, [.ref 69, .ref 21, .int noH, .int noW, .int (nI h)], []) (am_mk kt I J T n s) K
  | 0, h, I, J, L, hh, hI0, h69, hJ0, h70, hP, hK => by
    have : h = hc := by omega
    subst this
    have h10 := hR.1
    have c1 : I 21 1 ≤ nI h := by rw [hI0 21 (by unfold PS CT; omega), hR.2.2.2.2.2.2.1]; exact nI_le (Nat.le_refl _) (by omega)
    have key := hK I J L hI0 h69 hJ0 h70 hP
    refine am_wq_T (cut := fun z pc => ((Nat.beq z 1 && Nat.beq pc 69) || (Nat.beq z 1 && Nat.beq pc 102))) (inl := fun _ => false) 120 _ _ _ ?_
    exact And.intro rfl (And.intro (fun _ => key) (fun q => absurd c1 q))
  | j + 1, h, I, J, L, hh, hI0, h69, hJ0, h70, hP, hK => by
    have h10 := hR.1
    have hw6 := hR.2.1
    have hlt : h < hc := by omega
    have hR' : sg_LR kt I T n 21 N hc wc tc := LR_cg (fun r k hr => by rw [hI0 r (by unfold PS CT; omega)]) hR
    have c1 : ¬ I 21 1 ≤ nI h := by rw [hR'.2.2.2.2.2.2.1]; exact nI_ge hlt (by omega)
    have hF := FrS (tc := tc) (noH := noH) (noW := noW) hB hW h10
    have ih : ∀ I J L, ch PS I0 I → I 69 2 = nI wc → chJ PJ J0 J → (∀ S, S < 64 → J 70 S = lo (L S)) → PI (tkS N hc wc tc noH noW) (faN N) wc (h + 1) L → am_T am_C (1, 5, 69, [.ref 69, .ref 21, .int noH, .int noW, .int (nI h + 1)], []) (am_mk kt I J T n s) K := fun I J L a b c d e => by
      rw [← nI_succ]
      exact c_solve221 hR hB hW hI h15 j (h + 1) I J L (by omega) a b c d e hK
    by_cases cn : nI h = noH
    · have key := ih I J L hI0 h69 hJ0 h70 (PI_skip hP fun w => by
        cases e : tkS N hc wc tc noH noW w h with
        | false => rfl
        | true => exact absurd cn (tkS_t.mp e).2.2.1)
      refine am_wq_T (cut := fun z pc => ((Nat.beq z 1 && Nat.beq pc 69) || (Nat.beq z 1 && Nat.beq pc 102))) (inl := fun z => !((Nat.beq z 2 || Nat.beq z 3))) 120 _ _ _ ?_
      exact And.intro rfl (And.intro (fun q => absurd q c1) (fun _ => And.intro (fun _ => key) (fun q => absurd cn q)))
    · refine am_wq_T (cut := fun z pc => ((Nat.beq z 1 && Nat.beq pc 69) || (Nat.beq z 1 && Nat.beq pc 102))) (inl := fun z => !((Nat.beq z 2 || Nat.beq z 3))) 120 _ _ _ ?_
      refine And.intro rfl (And.intro (fun q => absurd q c1) (fun _ => And.intro (fun q => absurd q cn) (fun _ => And.intro rfl ?_)))
      refine c_price21 hR' hB hW h69 (by rw [hJ0 15 (by unfold PJ; omega)]; exact h15) hlt cn fun I2 J2 a b c => ?_
      refine And.intro rfl ?_
      have b70 : ∀ S, S < 64 → L S = NV ∨ (0 ≤ L S ∧ L S ≤ 1100000000000) := fun S hS => by
        rcases hP.1 S hS with q | ⟨x, x1, x2, x3⟩
        · exact .inl q
        · have := price_b hF hw6 x1.1; right; omega
      refine c_offer (W := wc) (p := pS N hc wc tc noH noW h) (L := L) hw6 (by rw [a 69 (by unfold CT; omega)]; exact h69) b70 (fun w hw => pS_b hB hW h10 hlt hw6 hw) (fun S hS => by rw [b 70 (by decide)]; exact h70 S hS) c fun J3 L3 d e f => ?_
      exact ih I2 J3 L3 (ch_tr hI0 a fun r q => q.elim id fun q => .inr q) (by rw [a 69 (by unfold CT; omega)]; exact h69) (chJ_tr (chJ_tr (S := PJ) hJ0 b fun r q => q.elim id fun q => .inr (.inr q)) d fun r q => q.elim id fun q => .inr (.inl q)) e (PI_step hF hw6 (by omega) hP f fun w hw => rfl)
theorem c_solve321 {J0 : Nat → Nat → Int64} {L : Nat → Int} (hL : ∀ S, S < 64 → pok (L S)) (h70 : ∀ S, S < 64 → J0 70 S = lo (L S)) : ∀ (j k : Nat) (J : Nat → Nat → Int64) (m : Int), k + j = 64 → chJ (fun r => r = 69) J0 J → J 69 3 = lo m → pok m → (∀ S, S < k → m ≤ L S) → (m = NV ∨ ∃ S, S < 64 ∧ m = L S) → (∀ J' m, chJ (fun r => r = 69) J0 J' → J' 69 3 = lo m → pok m → (∀ S, S < 64 → m ≤ L S) → (m = NV ∨ ∃ S, S < 64 ∧ m = L S) → am_T am_C (1, 5, 146, [.ref 69, .ref 21, .int noH, .int noW, .int (nI 64)], []) (am_mk kt I J' T n s) K) → am_T am_C (1, 5, 112, [.ref 69, .ref 21, .int noH, .int noW, .int (nI k)], []) (am_mk kt I J T n s) K
  | 0, k, J, m, hk, hJ, h3, hm, h1, h2, hK => by
    have : k = 64 := by omega
    subst this
    have c1 : Int32.ofNat 64 ≤ nI 64 := by decide
    have key := hK J m hJ h3 hm h1 h2
    refine am_wq_T (cut := fun z pc => ((Nat.beq z 1 && Nat.beq pc 112) || (Nat.beq z 1 && Nat.beq pc 146))) (inl := fun _ => false) 120 _ _ _ ?_
    exact And.intro rfl (And.intro rfl (And.intro (fun _ => key) (fun q => absurd c1 q)))
  | j + 1, k, J, m, hk, hJ, h3, hm, h1, h2, hK => by
    have c1 : ¬ Int32.ofNat 64 ≤ nI k := nI_ge (b := 64) (by omega) (by decide)
    have vk : vp_in (nI k) 64 := vpl (by omega) (by decide)
    have ek : J 70 (nI k).toNatClampNeg = lo (L k) := by rw [nI_clamp (by omega), hJ 70 (by decide)]; exact h70 k (by omega)
    have pk := hL k (by omega)
    have e : (if J 70 (nI k).toNatClampNeg < J 69 3 then J 70 (nI k).toNatClampNeg else J 69 3) = lo (if L k < m then L k else m) := by
      rw [ek, h3]
      by_cases q : L k < m
      · rw [if_pos q, if_pos ((lo_lt (pok_b pk) (pok_b hm)).mpr q)]
      · rw [if_neg q, if_neg (fun x => q ((lo_lt (pok_b pk) (pok_b hm)).mp x))]
    have key := c_solve321 hL h70 j (k + 1) (am_up J 69 3 (lo (if L k < m then L k else m))) (if L k < m then L k else m) (by omega) (chJ_tr hJ (chJ_up (P := fun r => r = 69) rfl) fun r q => q.elim id id) (upJ_eq _ _ _ _) (by split; exact pk; exact hm) (fun S hS => by
      by_cases q : S = k
      · subst q; split <;> omega
      · have := h1 S (by omega); split <;> omega) (by
      split
      · exact .inr ⟨k, by omega, rfl⟩
      · exact h2) hK
    rw [nI_succ, ← e] at key
    refine am_wq_T (cut := fun z pc => ((Nat.beq z 1 && Nat.beq pc 112) || (Nat.beq z 1 && Nat.beq pc 146))) (inl := fun _ => false) 120 _ _ _ ?_
    exact And.intro rfl (And.intro rfl (And.intro (fun q => absurd q c1) (fun _ => And.intro rfl (And.intro rfl (And.intro ⟨rfl, vk⟩ (And.intro rfl key))))))
theorem lo_div21 {p : Int} (h0 : 0 ≤ p) (h1 : p ≤ 2170162225) : (lo p / 310023175).toInt32 = nI (p / 310023175).toNat := by
  have e : lo p / 310023175 = lo (p / 310023175) := by
    apply Int64.toInt_inj.mp
    rw [lo_UP, Int64.toInt_div_of_ne_right _ _ (by decide), lo_toInt (by omega), lo_toInt (by decide), lo_toInt (by omega), Int.tdiv_eq_ediv_of_nonneg h0]
  rw [e]
  obtain ⟨k, hk⟩ : ∃ k : Nat, p / 310023175 = k := ⟨(p / 310023175).toNat, by omega⟩
  rw [hk]
  apply Int32.toInt_inj.mp
  rw [Int64.toInt_toInt32, lo_toInt (by omega), nI_toInt (by omega)]
  show (k : Int).bmod _ = _
  rw [Int.bmod_eq_of_le (by omega) (by omega)]
  omega
theorem c_solve21 (hR : sg_LR kt I T n 21 N hc wc tc) (hB : HB N hc) (hW : WB N wc) (h15 : J 15 = am_digits) (hK : ∀ I' J' (p : Int) (m : Nat), ch PS I I' → I' 69 2 = nI wc → chJ PJ J J' → J' 69 3 = lo p → IsMin (tkS N hc wc tc noH noW) (faN N) wc p → IsMax (tkS N hc wc tc noH noW) wc m → m ≤ wc → K (some (.int (nI m))) (am_mk kt I' J' T n s)) : am_T am_C (1, 5, 0, [.ref 69, .ref 21, .int noH, .int noW, .null], []) (am_mk kt I J T n s) K := by
  have h10 := hR.1
  have hw6 := hR.2.1
  have hF := FrS (tc := tc) (noH := noH) (noW := noW) hB hW h10
  have l1 : ¬ (310023175 : Int64) = 0 := by decide
  have ew : I 21 4 = nI wc := hR.2.2.2.2.2.2.2.1
  obtain ⟨I1, e1⟩ : ∃ I1, I1 = am_up I 69 2 (nI wc) := ⟨_, rfl⟩
  have h69 : I1 69 2 = nI wc := by rw [e1]; exact up_eq _ _ _ _
  have c1 : ch PS I I1 := by rw [e1]; exact ch_up (.inl rfl)
  have hR1 : sg_LR kt I1 T n 21 N hc wc tc := LR_cg (fun r k hr => by rw [c1 r (by unfold PS CT; omega)]) hR
  have v0 : vp_in 0 64 := vpl (k := 0) (by decide) (by decide)
  refine am_wq_T (cut := fun z pc => (Nat.beq z 1 && Nat.beq pc 28)) (inl := fun z => !(Nat.beq z 216)) 120 _ _ _ ?_
  refine And.intro rfl (And.intro rfl (And.intro rfl ?_))
  show am_T am_C (216, 0, 0, [.ref 70, .long 4611686018427387904, .null, .null, .null], []) (am_mk kt (am_up I 69 2 (I 21 4)) J T n s) _
  rw [ew, ← e1]
  have hfill := fun K hK => c_fill (kt := kt) (T := T) (n := n) (s := s) (I := I1) (K := K) 64 0 J J 4611686018427387904 rfl chJ_rfl (fun _ q => absurd q (by omega)) hK
  refine am_wq_T (cut := fun z pc => (Nat.beq z 216 && Nat.beq pc 6)) (inl := fun _ => false) 120 _ _ _ ?_
  refine And.intro rfl ?_
  refine hfill _ fun J2 a b => ?_
  refine And.intro rfl (And.intro ⟨rfl, v0⟩ ?_)
  refine c_solve121 (J0 := J) h69 hw6 h15 wc 0 (am_up J2 70 0 0) (by omega) (chJ_tr (S := PJ) a (chJ_up (P := PJ) (a := 70) (.inr (.inl rfl))) fun r q => q.elim (fun q => .inr (.inl q)) id) (upJ_eq _ _ _ _) (fun S x y => by rw [upJ_ne (fun q => y q.2), b S x]; exact lo_NV) fun J3 d e f => ?_
  refine am_wq_T (cut := fun z pc => (Nat.beq z 1 && Nat.beq pc 69)) (inl := fun _ => false) 120 _ _ _ ?_
  refine c_solve221 (J0 := J) hR1 hB hW h69 h15 hc 0 I1 J3 (fun S => if S = 0 then sm (fun w => 310023175 + 10 * eD (w + 1)) wc else NV) (by omega) ch_rfl h69 d (fun S hS => ?_) (PI_0 (if_pos rfl) fun S _ q => if_neg q) fun I4 J4 L4 g h4 i j k => ?_
  · by_cases q : S = 0
    · subst q; rw [e, if_pos rfl]
    · rw [f S hS q, if_neg q]
  have pL : ∀ S, S < 64 → pok (L4 S) := fun S hS => by
    rcases k.1 S hS with q | ⟨x, x1, x2, x3⟩
    · exact .inl q
    · have := price_b hF hw6 x1.1; right; omega
  refine am_wq_T (cut := fun z pc => (Nat.beq z 1 && Nat.beq pc 112)) (inl := fun _ => false) 120 _ _ _ ?_
  refine And.intro rfl ?_
  refine c_solve321 (J0 := am_up J4 69 3 4611686018427387904) (L := L4) pL (fun S hS => by rw [upJ_off (by decide)]; exact j S hS) 64 0 _ NV rfl chJ_rfl (by rw [upJ_eq]; exact lo_NV) (.inl rfl) (fun _ q => absurd q (by omega)) (.inl rfl) fun J5 p l5 m5 n5 o5 p5 => ?_
  have hmin := PI_min hF hw6 (fun w h q => (tkS_t.mp q).1) k o5 p5
  obtain ⟨mm, m0, m1, mx, me⟩ := IsMin_max hF hw6 hmin
  obtain ⟨m, rfl⟩ : ∃ m : Nat, mm = m := ⟨mm.toNat, by omega⟩
  have pb : 0 ≤ p ∧ p ≤ 2170162225 := by
    obtain ⟨⟨x, x1, x2⟩, -⟩ := hmin
    rw [← x2]; exact price_b hF hw6 x1
  have key := hK I4 J5 p m (ch_tr c1 g fun r q => q.elim id id) h4 (chJ_tr (chJ_tr (S := PJ) i (chJ_up (P := PJ) (.inl rfl)) fun r q => q.elim id id) l5 fun r q => q.elim id fun q => .inl q) m5 hmin mx (by omega)
  have ev : I4 69 2 - (J5 69 3 / 310023175).toInt32 = nI m := by
    rw [h4, m5, lo_div21 pb.1 pb.2, nI_subI (by omega)]
    congr 1
    omega
  rw [← ev] at key
  refine am_wq_T (cut := fun z pc => (Nat.beq z 1 && Nat.beq pc 146)) (inl := fun _ => false) 120 _ _ _ ?_
  exact And.intro rfl (And.intro rfl (And.intro l1 key))
theorem c_solve137 {J0 : Nat → Nat → Int64} (hI : I 69 2 = nI wc) (hw6 : wc ≤ 6) (h15 : J0 15 = am_digits) : ∀ (j w : Nat) (J : Nat → Nat → Int64), w + j = wc → chJ PJ J0 J → J 70 0 = lo (sm (fun w => 310023175 + 10 * eD (w + 1)) w) → (∀ S, S < 64 → S ≠ 0 → J 70 S = lo NV) → (∀ J', chJ PJ J0 J' → J' 70 0 = lo (sm (fun w => 310023175 + 10 * eD (w + 1)) wc) → (∀ S, S < 64 → S ≠ 0 → J' 70 S = lo NV) → am_T am_C (1, 5, 66, [.ref 69, .ref 37, .int noH, .int noW, .int (nI wc)], []) (am_mk kt I J' T n s) K) → am_T am_C (1, 5, 28, [.ref 69, .ref 37, .int noH, .int noW, .int (nI w)], []) (am_mk kt I J T n s) K
  | 0, w, J, hw, hJ, h0, hS, hK => by
    have : w = wc := by omega
    subst this
    have c1 : I 69 2 ≤ nI w := by rw [hI]; exact nI_le (Nat.le_refl _) (by omega)
    have key := hK J hJ h0 hS
    refine am_wq_T (cut := fun z pc => ((Nat.beq z 1 && Nat.beq pc 28) || (Nat.beq z 1 && Nat.beq pc 66))) (inl := fun _ => false) 120 _ _ _ ?_
    exact And.intro rfl (And.intro (fun _ => key) (fun q => absurd c1 q))
  | j + 1, w, J, hw, hJ, h0, hS, hK => by
    have c1 : ¬ I 69 2 ≤ nI w := by rw [hI]; exact nI_ge (by omega) (by omega)
    have v0 : vp_in 0 64 := vpl (k := 0) (by decide) (by decide)
    have vw : vp_in (nI w) 6 := vpl (by omega) (by decide)
    have e : J 70 (Int32.toNatClampNeg 0) + (310023175 + 10 * J 15 (nI w).toNatClampNeg) = lo (sm (fun w => 310023175 + 10 * eD (w + 1)) (w + 1)) := by
      rw [show Int32.toNatClampNeg 0 = 0 from rfl, h0, hJ 15 (by unfold PJ; omega), h15, nI_clamp (by omega), lo_d w (by omega), lo_UP, show (10 : Int64) = lo 10 by decide, lo_mul, lo_add, lo_add, sm_s]
    have key := c_solve137 hI hw6 h15 j (w + 1) (am_up J 70 0 (lo (sm (fun w => 310023175 + 10 * eD (w + 1)) (w + 1)))) (by omega) (chJ_tr hJ (chJ_up (P := PJ) (.inr (.inl rfl))) fun r q => q.elim id id) (upJ_eq _ _ _ _) (fun S a b => by rw [upJ_ne (by omega)]; exact hS S a b) hK
    rw [nI_succ, ← e] at key
    refine am_wq_T (cut := fun z pc => ((Nat.beq z 1 && Nat.beq pc 28) || (Nat.beq z 1 && Nat.beq pc 66))) (inl := fun _ => false) 120 _ _ _ ?_
    exact And.intro rfl (And.intro (fun q => absurd q c1) (fun _ => And.intro rfl (And.intro ⟨rfl, v0⟩ (And.intro ⟨rfl, vw⟩ (And.intro ⟨rfl, v0⟩ key)))))
theorem c_solve237 {I0 : Nat → Nat → Int32} {J0 : Nat → Nat → Int64} (hR : sg_LR kt I0 T n 37 N hc wc tc) (hB : HB N hc) (hW : WB N wc) (hI : I0 69 2 = nI wc) (h15 : J0 15 = am_digits) :
    ∀ (j h : Nat) (I : Nat → Nat → Int32) (J : Nat → Nat → Int64) (L : Nat → Int), h + j = hc → ch PS I0 I → I 69 2 = nI wc → chJ PJ J0 J → (∀ S, S < 64 → J 70 S = lo (L S)) → PI (tkS N hc wc tc noH noW) (faN N) wc h L → (∀ I' J' L', ch PS I0 I' → I' 69 2 = nI wc → chJ PJ J0 J' → (∀ S, S < 64 → J' 70 S = lo (L' S)) → PI (tkS N hc wc tc noH noW) (faN N) wc hc L' → am_T am_C (1, 5, 102, [.ref 69, .ref 37, .int noH, .int noW, .int (nI hc)], []) (am_mk kt I' J' T n s) K) → am_T am_C (1, 5, 69, [.ref 69, .ref 37, .int noH, .int noW, .int (nI h)], []) (am_mk kt I J T n s) K
  | 0, h, I, J, L, hh, hI0, h69, hJ0, h70, hP, hK => by
    have : h = hc := by omega
    subst this
    have h10 := hR.1
    have c1 : I 37 1 ≤ nI h := by rw [hI0 37 (by unfold PS CT; omega), hR.2.2.2.2.2.2.1]; exact nI_le (Nat.le_refl _) (by omega)
    have key := hK I J L hI0 h69 hJ0 h70 hP
    refine am_wq_T (cut := fun z pc => ((Nat.beq z 1 && Nat.beq pc 69) || (Nat.beq z 1 && Nat.beq pc 102))) (inl := fun _ => false) 120 _ _ _ ?_
    exact And.intro rfl (And.intro (fun _ => key) (fun q => absurd c1 q))
  | j + 1, h, I, J, L, hh, hI0, h69, hJ0, h70, hP, hK => by
    have h10 := hR.1
    have hw6 := hR.2.1
    have hlt : h < hc := by omega
    have hR' : sg_LR kt I T n 37 N hc wc tc := LR_cg (fun r k hr => by rw [hI0 r (by unfold PS CT; omega)]) hR
    have c1 : ¬ I 37 1 ≤ nI h := by rw [hR'.2.2.2.2.2.2.1]; exact nI_ge hlt (by omega)
    have hF := FrS (tc := tc) (noH := noH) (noW := noW) hB hW h10
    have ih : ∀ I J L, ch PS I0 I → I 69 2 = nI wc → chJ PJ J0 J → (∀ S, S < 64 → J 70 S = lo (L S)) → PI (tkS N hc wc tc noH noW) (faN N) wc (h + 1) L → am_T am_C (1, 5, 69, [.ref 69, .ref 37, .int noH, .int noW, .int (nI h + 1)], []) (am_mk kt I J T n s) K := fun I J L a b c d e => by
      rw [← nI_succ]
      exact c_solve237 hR hB hW hI h15 j (h + 1) I J L (by omega) a b c d e hK
    by_cases cn : nI h = noH
    · have key := ih I J L hI0 h69 hJ0 h70 (PI_skip hP fun w => by
        cases e : tkS N hc wc tc noH noW w h with
        | false => rfl
        | true => exact absurd cn (tkS_t.mp e).2.2.1)
      refine am_wq_T (cut := fun z pc => ((Nat.beq z 1 && Nat.beq pc 69) || (Nat.beq z 1 && Nat.beq pc 102))) (inl := fun z => !((Nat.beq z 2 || Nat.beq z 3))) 120 _ _ _ ?_
      exact And.intro rfl (And.intro (fun q => absurd q c1) (fun _ => And.intro (fun _ => key) (fun q => absurd cn q)))
    · refine am_wq_T (cut := fun z pc => ((Nat.beq z 1 && Nat.beq pc 69) || (Nat.beq z 1 && Nat.beq pc 102))) (inl := fun z => !((Nat.beq z 2 || Nat.beq z 3))) 120 _ _ _ ?_
      refine And.intro rfl (And.intro (fun q => absurd q c1) (fun _ => And.intro (fun q => absurd q cn) (fun _ => And.intro rfl ?_)))
      refine c_price37 hR' hB hW h69 (by rw [hJ0 15 (by unfold PJ; omega)]; exact h15) hlt cn fun I2 J2 a b c => ?_
      refine And.intro rfl ?_
      have b70 : ∀ S, S < 64 → L S = NV ∨ (0 ≤ L S ∧ L S ≤ 1100000000000) := fun S hS => by
        rcases hP.1 S hS with q | ⟨x, x1, x2, x3⟩
        · exact .inl q
        · have := price_b hF hw6 x1.1; right; omega
      refine c_offer (W := wc) (p := pS N hc wc tc noH noW h) (L := L) hw6 (by rw [a 69 (by unfold CT; omega)]; exact h69) b70 (fun w hw => pS_b hB hW h10 hlt hw6 hw) (fun S hS => by rw [b 70 (by decide)]; exact h70 S hS) c fun J3 L3 d e f => ?_
      exact ih I2 J3 L3 (ch_tr hI0 a fun r q => q.elim id fun q => .inr q) (by rw [a 69 (by unfold CT; omega)]; exact h69) (chJ_tr (chJ_tr (S := PJ) hJ0 b fun r q => q.elim id fun q => .inr (.inr q)) d fun r q => q.elim id fun q => .inr (.inl q)) e (PI_step hF hw6 (by omega) hP f fun w hw => rfl)
theorem c_solve337 {J0 : Nat → Nat → Int64} {L : Nat → Int} (hL : ∀ S, S < 64 → pok (L S)) (h70 : ∀ S, S < 64 → J0 70 S = lo (L S)) : ∀ (j k : Nat) (J : Nat → Nat → Int64) (m : Int), k + j = 64 → chJ (fun r => r = 69) J0 J → J 69 3 = lo m → pok m → (∀ S, S < k → m ≤ L S) → (m = NV ∨ ∃ S, S < 64 ∧ m = L S) → (∀ J' m, chJ (fun r => r = 69) J0 J' → J' 69 3 = lo m → pok m → (∀ S, S < 64 → m ≤ L S) → (m = NV ∨ ∃ S, S < 64 ∧ m = L S) → am_T am_C (1, 5, 146, [.ref 69, .ref 37, .int noH, .int noW, .int (nI 64)], []) (am_mk kt I J' T n s) K) → am_T am_C (1, 5, 112, [.ref 69, .ref 37, .int noH, .int noW, .int (nI k)], []) (am_mk kt I J T n s) K
  | 0, k, J, m, hk, hJ, h3, hm, h1, h2, hK => by
    have : k = 64 := by omega
    subst this
    have c1 : Int32.ofNat 64 ≤ nI 64 := by decide
    have key := hK J m hJ h3 hm h1 h2
    refine am_wq_T (cut := fun z pc => ((Nat.beq z 1 && Nat.beq pc 112) || (Nat.beq z 1 && Nat.beq pc 146))) (inl := fun _ => false) 120 _ _ _ ?_
    exact And.intro rfl (And.intro rfl (And.intro (fun _ => key) (fun q => absurd c1 q)))
  | j + 1, k, J, m, hk, hJ, h3, hm, h1, h2, hK => by
    have c1 : ¬ Int32.ofNat 64 ≤ nI k := nI_ge (b := 64) (by omega) (by decide)
    have vk : vp_in (nI k) 64 := vpl (by omega) (by decide)
    have ek : J 70 (nI k).toNatClampNeg = lo (L k) := by rw [nI_clamp (by omega), hJ 70 (by decide)]; exact h70 k (by omega)
    have pk := hL k (by omega)
    have e : (if J 70 (nI k).toNatClampNeg < J 69 3 then J 70 (nI k).toNatClampNeg else J 69 3) = lo (if L k < m then L k else m) := by
      rw [ek, h3]
      by_cases q : L k < m
      · rw [if_pos q, if_pos ((lo_lt (pok_b pk) (pok_b hm)).mpr q)]
      · rw [if_neg q, if_neg (fun x => q ((lo_lt (pok_b pk) (pok_b hm)).mp x))]
    have key := c_solve337 hL h70 j (k + 1) (am_up J 69 3 (lo (if L k < m then L k else m))) (if L k < m then L k else m) (by omega) (chJ_tr hJ (chJ_up (P := fun r => r = 69) rfl) fun r q => q.elim id id) (upJ_eq _ _ _ _) (by split; exact pk; exact hm) (fun S hS => by
      by_cases q : S = k
      · subst q; split <;> omega
      · have := h1 S (by omega); split <;> omega) (by
      split
      · exact .inr ⟨k, by omega, rfl⟩
      · exact h2) hK
    rw [nI_succ, ← e] at key
    refine am_wq_T (cut := fun z pc => ((Nat.beq z 1 && Nat.beq pc 112) || (Nat.beq z 1 && Nat.beq pc 146))) (inl := fun _ => false) 120 _ _ _ ?_
    exact And.intro rfl (And.intro rfl (And.intro (fun q => absurd q c1) (fun _ => And.intro rfl (And.intro rfl (And.intro ⟨rfl, vk⟩ (And.intro rfl key))))))
theorem lo_div37 {p : Int} (h0 : 0 ≤ p) (h1 : p ≤ 2170162225) : (lo p / 310023175).toInt32 = nI (p / 310023175).toNat := by
  have e : lo p / 310023175 = lo (p / 310023175) := by
    apply Int64.toInt_inj.mp
    rw [lo_UP, Int64.toInt_div_of_ne_right _ _ (by decide), lo_toInt (by omega), lo_toInt (by decide), lo_toInt (by omega), Int.tdiv_eq_ediv_of_nonneg h0]
  rw [e]
  obtain ⟨k, hk⟩ : ∃ k : Nat, p / 310023175 = k := ⟨(p / 310023175).toNat, by omega⟩
  rw [hk]
  apply Int32.toInt_inj.mp
  rw [Int64.toInt_toInt32, lo_toInt (by omega), nI_toInt (by omega)]
  show (k : Int).bmod _ = _
  rw [Int.bmod_eq_of_le (by omega) (by omega)]
  omega
theorem c_solve37 (hR : sg_LR kt I T n 37 N hc wc tc) (hB : HB N hc) (hW : WB N wc) (h15 : J 15 = am_digits) (hK : ∀ I' J' (p : Int) (m : Nat), ch PS I I' → I' 69 2 = nI wc → chJ PJ J J' → J' 69 3 = lo p → IsMin (tkS N hc wc tc noH noW) (faN N) wc p → IsMax (tkS N hc wc tc noH noW) wc m → m ≤ wc → K (some (.int (nI m))) (am_mk kt I' J' T n s)) : am_T am_C (1, 5, 0, [.ref 69, .ref 37, .int noH, .int noW, .null], []) (am_mk kt I J T n s) K := by
  have h10 := hR.1
  have hw6 := hR.2.1
  have hF := FrS (tc := tc) (noH := noH) (noW := noW) hB hW h10
  have l1 : ¬ (310023175 : Int64) = 0 := by decide
  have ew : I 37 4 = nI wc := hR.2.2.2.2.2.2.2.1
  obtain ⟨I1, e1⟩ : ∃ I1, I1 = am_up I 69 2 (nI wc) := ⟨_, rfl⟩
  have h69 : I1 69 2 = nI wc := by rw [e1]; exact up_eq _ _ _ _
  have c1 : ch PS I I1 := by rw [e1]; exact ch_up (.inl rfl)
  have hR1 : sg_LR kt I1 T n 37 N hc wc tc := LR_cg (fun r k hr => by rw [c1 r (by unfold PS CT; omega)]) hR
  have v0 : vp_in 0 64 := vpl (k := 0) (by decide) (by decide)
  refine am_wq_T (cut := fun z pc => (Nat.beq z 1 && Nat.beq pc 28)) (inl := fun z => !(Nat.beq z 216)) 120 _ _ _ ?_
  refine And.intro rfl (And.intro rfl (And.intro rfl ?_))
  show am_T am_C (216, 0, 0, [.ref 70, .long 4611686018427387904, .null, .null, .null], []) (am_mk kt (am_up I 69 2 (I 37 4)) J T n s) _
  rw [ew, ← e1]
  have hfill := fun K hK => c_fill (kt := kt) (T := T) (n := n) (s := s) (I := I1) (K := K) 64 0 J J 4611686018427387904 rfl chJ_rfl (fun _ q => absurd q (by omega)) hK
  refine am_wq_T (cut := fun z pc => (Nat.beq z 216 && Nat.beq pc 6)) (inl := fun _ => false) 120 _ _ _ ?_
  refine And.intro rfl ?_
  refine hfill _ fun J2 a b => ?_
  refine And.intro rfl (And.intro ⟨rfl, v0⟩ ?_)
  refine c_solve137 (J0 := J) h69 hw6 h15 wc 0 (am_up J2 70 0 0) (by omega) (chJ_tr (S := PJ) a (chJ_up (P := PJ) (a := 70) (.inr (.inl rfl))) fun r q => q.elim (fun q => .inr (.inl q)) id) (upJ_eq _ _ _ _) (fun S x y => by rw [upJ_ne (fun q => y q.2), b S x]; exact lo_NV) fun J3 d e f => ?_
  refine am_wq_T (cut := fun z pc => (Nat.beq z 1 && Nat.beq pc 69)) (inl := fun _ => false) 120 _ _ _ ?_
  refine c_solve237 (J0 := J) hR1 hB hW h69 h15 hc 0 I1 J3 (fun S => if S = 0 then sm (fun w => 310023175 + 10 * eD (w + 1)) wc else NV) (by omega) ch_rfl h69 d (fun S hS => ?_) (PI_0 (if_pos rfl) fun S _ q => if_neg q) fun I4 J4 L4 g h4 i j k => ?_
  · by_cases q : S = 0
    · subst q; rw [e, if_pos rfl]
    · rw [f S hS q, if_neg q]
  have pL : ∀ S, S < 64 → pok (L4 S) := fun S hS => by
    rcases k.1 S hS with q | ⟨x, x1, x2, x3⟩
    · exact .inl q
    · have := price_b hF hw6 x1.1; right; omega
  refine am_wq_T (cut := fun z pc => (Nat.beq z 1 && Nat.beq pc 112)) (inl := fun _ => false) 120 _ _ _ ?_
  refine And.intro rfl ?_
  refine c_solve337 (J0 := am_up J4 69 3 4611686018427387904) (L := L4) pL (fun S hS => by rw [upJ_off (by decide)]; exact j S hS) 64 0 _ NV rfl chJ_rfl (by rw [upJ_eq]; exact lo_NV) (.inl rfl) (fun _ q => absurd q (by omega)) (.inl rfl) fun J5 p l5 m5 n5 o5 p5 => ?_
  have hmin := PI_min hF hw6 (fun w h q => (tkS_t.mp q).1) k o5 p5
  obtain ⟨mm, m0, m1, mx, me⟩ := IsMin_max hF hw6 hmin
  obtain ⟨m, rfl⟩ : ∃ m : Nat, mm = m := ⟨mm.toNat, by omega⟩
  have pb : 0 ≤ p ∧ p ≤ 2170162225 := by
    obtain ⟨⟨x, x1, x2⟩, -⟩ := hmin
    rw [← x2]; exact price_b hF hw6 x1
  have key := hK I4 J5 p m (ch_tr c1 g fun r q => q.elim id id) h4 (chJ_tr (chJ_tr (S := PJ) i (chJ_up (P := PJ) (.inl rfl)) fun r q => q.elim id id) l5 fun r q => q.elim id fun q => .inl q) m5 hmin mx (by omega)
  have ev : I4 69 2 - (J5 69 3 / 310023175).toInt32 = nI m := by
    rw [h4, m5, lo_div37 pb.1 pb.2, nI_subI (by omega)]
    congr 1
    omega
  rw [← ev] at key
  refine am_wq_T (cut := fun z pc => (Nat.beq z 1 && Nat.beq pc 146)) (inl := fun _ => false) 120 _ _ _ ?_
  exact And.intro rfl (And.intro rfl (And.intro l1 key))
end T52
