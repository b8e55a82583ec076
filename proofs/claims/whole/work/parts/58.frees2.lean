/-! frees of the class; both -/
section T58
variable {kt : Nat → Nat × Nat} {I I' : Nat → Nat → Int32} {J J' : Nat → Nat → Int64} {T : Nat → Nat → Nat} {n s : Nat} {L : Nat} {xs : Nat → Int32} {K : Option Value → am_M → Prop} {N N' : Nat → Int32} {hc wc tc h w : Nat}
theorem LR_QN {b : Nat} (hq : QN N N' hc) (q : sg_LR kt I T n b N hc wc tc) : sg_LR kt I T n b N' hc wc tc := by
  obtain ⟨h0, h1, h2, h3, h4, h5, h6, h7, h8, h9, h10, h11, h12, h13, h14, h15, h16, h17, h18⟩ := q
  refine ⟨h0, h1, h2, ?_, ?_, ?_, h6, h7, h8, ?_, ?_, ?_, ?_, ?_, ?_, ?_, ?_, ?_, ?_⟩
  · rw [hq _ (by omega)]; exact h3
  · rw [hq _ (by omega)]; exact h4
  · rw [hq _ (by omega)]; exact h5
  · intro i hi k hk; rw [hq _ (by omega)]; exact h9 i hi k hk
  · intro w hw; rw [hq _ (by omega), hq _ (by omega)]; exact h10 w hw
  · rw [hq _ (by omega)]; exact h11
  · rw [hq _ (by omega)]; exact h12
  · rw [hq _ (by omega)]; exact h13
  · rw [hq _ (by omega)]; exact h14
  · rw [hq _ (by omega)]; exact h15
  · rw [hq _ (by omega)]; exact h16
  · intro t ht
    exact Txt_cg (fun _ _ _ _ => rfl) ⟨hq _ (by omega), hq _ (by omega), fun _ _ => hq _ (by omega)⟩ (h17 t ht)
  · intro key hk
    rw [cnt_cg (fun i hi => hq _ (by omega))]
    exact h18 key hk
theorem LB_QN (hq : QN N N' hc) (hw6 : wc ≤ 6) (q : sg_LB N hc wc) : sg_LB N' hc wc := by
  obtain ⟨b0, b1, b2, b3, b4⟩ := q
  refine ⟨fun h hh => ?_, fun w hw => ?_, ?_, ?_, ?_⟩
  · rw [hq _ (by omega), hq _ (by omega), hq _ (by omega), hq _ (by omega), hq _ (by omega)]; exact b0 h hh
  · rw [hq _ (by omega), hq _ (by omega)]; exact b1 w hw
  · rw [hq _ (by omega)]; exact b2
  · rw [hq _ (by omega)]; exact b3
  · rw [hq _ (by omega)]; exact b4
theorem pl_abs : ∀ a, a < 30 → ∀ b, b < 30 → apc (nI a) (nI b) = apt (nI b) (nI a) := by decide +kernel
theorem ap_sym {a p : Int32} (ha : sg_in a 0 29) (hp : sg_in p 0 29) : apc a p = apt p a := by
  obtain ⟨i, hi, rfl⟩ := in_nI (m := 29) ha (by decide)
  obtain ⟨j, hj, rfl⟩ := in_nI (m := 29) hp (by decide)
  exact pl_abs i (by omega) j (by omega)
theorem eaN_b (hB : sg_LB N hc wc) (hw : w < wc) : ∃ k : Nat, k ≤ 198 ∧ eaN N w = nI k := by
  obtain ⟨a, b⟩ := (hB.2.1 w hw).2
  obtain ⟨c, d⟩ := hB.2.2.2.1
  obtain ⟨i, hi, e1⟩ := in_nI (x := N (9 + 2 * w + 1)) (m := 99) ⟨by omega, b⟩ (by decide)
  obtain ⟨j, hj, e2⟩ := in_nI (x := N 4) (m := 200) ⟨by omega, d⟩ (by decide)
  unfold eaN
  rw [show 10 + 2 * w = 9 + 2 * w + 1 by omega, e1, e2, pk_mul, show (100 : Int32) = nI 100 from rfl]
  have : i * j ≤ 99 * 200 := Nat.mul_le_mul hi hj
  exact ⟨i * j / 100, by omega, pk_div (by omega) (by decide) (by decide)⟩
/-- a want that a new hole may free -/
def GW (N : Nat → Int32) (hc wc tc m : Nat) (p : Int32) (w : Nat) : Prop := ¬ N 3 < apt p (N (9 + 2 * w)) ∧ IsMax (fun w' h => tkN N hc tc (-1) w' h && w' != w) wc m
def swN (N : Nat → Int32) (w : Nat) : Nat := if 1 < (eaN N w).toNatClampNeg then (eaN N w).toNatClampNeg else 1
theorem FS1_iff (hB : sg_LB N hc wc) {m sp : Nat} {p : Int32} (h1 : 1 ≤ sp) (h2 : sp ≤ 1000) : FS1 N hc wc tc m p sp ↔ ∃ w, w < wc ∧ GW N hc wc tc m p w ∧ swN N w ≤ sp := by
  have e : ∀ w, w < wc → (¬ nI sp < eaN N w ↔ swN N w ≤ sp) := fun w hw => by
    obtain ⟨k, hk, e⟩ := eaN_b hB hw
    unfold swN
    rw [e, nI_clamp (by omega), nI_ltI (by omega) (by omega)]
    split <;> omega
  constructor
  · rintro ⟨w, a, b, c⟩
    have b := nwN_t.mp b
    exact ⟨w, a, ⟨b.2, c⟩, (e w a).mp b.1⟩
  · rintro ⟨w, a, b, c⟩
    exact ⟨w, a, nwN_t.mpr ⟨(e w a).mpr c, b.1⟩, b.2⟩
theorem tkS_w {m : Int} (hw6 : wc ≤ 6) (hw : w < wc) : IsMax (tkS N hc wc tc (-1) (nI w)) wc m ↔ IsMax (fun w' h => tkN N hc tc (-1) w' h && w' != w) wc m := by
  have e : ∀ w' h, w' < wc → tkS N hc wc tc (-1) (nI w) w' h = (tkN N hc tc (-1) w' h && w' != w) := fun w' h hw' => by
    have bool : ∀ a b : Bool, (a = true ↔ b = true) → a = b := fun a b q => by cases a <;> cases b <;> simp_all
    apply bool
    rw [Bool.and_eq_true, tkN_t, tkS_t]
    have : nI w' = nI w ↔ w' = w := nI_eq (by omega) (by omega)
    rw [this]
    simp only [bne_iff_ne, ne_eq]
    exact ⟨fun q => ⟨⟨q.1, q.2.2.1, q.2.2.2.2⟩, q.2.2.2.1⟩, fun q => ⟨q.1.1, hw', q.1.2.1, q.2, q.1.2.2⟩⟩
  exact ⟨IsMax_cg e, IsMax_cg fun w' h hw' => (e w' h hw').symm⟩
theorem c_frees_l (hR : sg_LR kt I T n 21 N hc wc tc) (hB : sg_LB N hc wc) (h15 : J 15 = am_digits) {m : Nat} (hm6 : m ≤ 6) {p : Int32} (hp : sg_in p 0 29) : ∀ (j w lst : Nat) (I1 : Nat → Nat → Int32) (J1 : Nat → Nat → Int64) (v5 v6 : Value), w + j = wc → ch NR I I1 → chJ PJ J J1 → (lst ≤ 99 → ∃ w', w' < w ∧ GW N hc wc tc m p w' ∧ lst = swN N w') → (∀ w', w' < w → GW N hc wc tc m p w' → lst ≤ swN N w') → lst ≤ 100 → 1 ≤ lst →
    (∀ I1 J1 lst v4 v5 v6, ch NR I I1 → chJ PJ J J1 → (lst ≤ 99 → ∃ w', w' < wc ∧ GW N hc wc tc m p w' ∧ lst = swN N w') → (∀ w', w' < wc → GW N hc wc tc m p w' → lst ≤ swN N w') → lst ≤ 100 → 1 ≤ lst → am_T am_C (77, 6, 137, [.ref 20, .int p, .int (nI m), .int (nI lst), v4, v5, v6], []) (am_mk kt I1 J1 T n s) K) → am_T am_C (77, 6, 32, [.ref 20, .int p, .int (nI m), .int (nI lst), .int (nI w), v5, v6], []) (am_mk kt I1 J1 T n s) K
  | 0, w, lst, I1, J1, v5, v6, hw, hI, hJ, h1, h2, h3, h4, hK => by
    have : w = wc := by omega
    subst this
    have hw6 := hR.2.1
    have c1 : I1 21 4 ≤ nI w := by rw [hI 21 (by unfold NR CT; omega), hR.2.2.2.2.2.2.2.1]; exact nI_le (Nat.le_refl _) (by omega)
    have key := hK I1 J1 lst (.int (nI w)) v5 v6 hI hJ h1 h2 h3 h4
    refine am_wq_T (cut := fun z pc => ((Nat.beq z 77 && Nat.beq pc 32) || (Nat.beq z 77 && Nat.beq pc 137))) (inl := fun _ => false) 120 _ _ _ ?_
    exact And.intro rfl (And.intro rfl (And.intro (fun _ => key) (fun q => absurd c1 q)))
  | j + 1, w, lst, I1, J1, v5, v6, hw, hI, hJ, h1, h2, h3, h4, hK => by
    have hw6 := hR.2.1
    have wW : w < wc := by omega
    have hr := RB_of hR hB
    have l100 : ¬ (100 : Int32) = 0 := by decide
    have hR1 : sg_LR kt I1 T n 21 N hc wc tc := LR_cg (fun r k hr => by rw [hI r (by unfold NR CT; omega)]) hR
    have c1 : ¬ I1 21 4 ≤ nI w := by rw [hR1.2.2.2.2.2.2.2.1]; exact nI_ge wW (by omega)
    have vw : vp_in (nI w) 6 := vpl (by omega) (by decide)
    have eP : I1 23 (nI w).toNatClampNeg = N (9 + 2 * w) := by rw [nI_clamp (by omega)]; exact (hR1.2.2.2.2.2.2.2.2.2.2.1 w wW).1
    have eS : I1 24 (nI w).toNatClampNeg = N (10 + 2 * w) := by rw [nI_clamp (by omega), show 10 + 2 * w = 9 + 2 * w + 1 by omega]; exact (hR1.2.2.2.2.2.2.2.2.2.2.1 w wW).2
    have e9 : I1 21 9 = N 4 := hR1.2.2.2.2.2.2.2.2.2.2.2.2.1
    have e8 : I1 21 8 = N 3 := hR1.2.2.2.2.2.2.2.2.2.2.2.1
    obtain ⟨ew, hew, ee⟩ := eaN_b hB wW
    have esw : (if 1 < I1 24 (nI w).toNatClampNeg * I1 21 9 / 100 then I1 24 (nI w).toNatClampNeg * I1 21 9 / 100 else 1) = nI (swN N w) := by
      rw [eS, e9, show N (10 + 2 * w) * N 4 / 100 = eaN N w from rfl]
      unfold swN
      rw [ee, nI_clamp (by omega)]
      have il : (1 : Int32) < nI ew ↔ 1 < ew := nI_ltI (a := 1) (by decide) (by omega)
      by_cases q : 1 < ew
      · rw [if_pos q, if_pos (il.mpr q)]
      · rw [if_neg q, if_neg (fun z => q (il.mp z))]; rfl
    have bsw : swN N w ≤ 198 ∧ 1 ≤ swN N w := by unfold swN; rw [ee, nI_clamp (by omega)]; split <;> omega
    have ih := fun lst I1 J1 v5 v6 a b c d e f => c_frees_l (v5 := v5) (v6 := v6) hR hB h15 hm6 hp j (w + 1) lst I1 J1 (by omega) a b c d e f hK
    have stay : ∀ I1 J1 v5 v6, ch NR I I1 → chJ PJ J J1 → (GW N hc wc tc m p w → lst ≤ swN N w) → am_T am_C (77, 6, 32, [.ref 20, .int p, .int (nI m), .int (nI lst), .int (nI w + 1), v5, v6], []) (am_mk kt I1 J1 T n s) K := fun I1 J1 v5 v6 a b c => by
      rw [← nI_succ]
      exact ih lst I1 J1 v5 v6 a b (fun q => by obtain ⟨w', x, y, z⟩ := h1 q; exact ⟨w', by omega, y, z⟩) (fun w' x y => by
        by_cases q : w' = w
        · subst q; exact c y
        · exact h2 w' (by omega) y) h3 h4
    refine am_wq_T (cut := fun z pc => (Nat.beq z 77 && Nat.beq pc 67)) (inl := fun _ => true) 120 _ _ _ ?_
    refine And.intro rfl (And.intro rfl (And.intro (fun q => absurd q c1) (fun _ => And.intro rfl (And.intro rfl (And.intro rfl (And.intro ⟨rfl, vw⟩ (And.intro rfl (And.intro rfl (And.intro l100 ?_)))))))))
    show am_T am_C (77, 6, 67, [.ref 20, .int p, .int (nI m), .int (nI lst), .int (nI w), .int (if 1 < I1 24 (nI w).toNatClampNeg * I1 21 9 / 100 then I1 24 (nI w).toNatClampNeg * I1 21 9 / 100 else 1), v6], []) (am_mk kt I1 J1 T n s) K
    rw [esw]
    by_cases cn : N 3 < apt p (N (9 + 2 * w))
    · have c2 : I1 21 8 < apc (I1 23 (nI w).toNatClampNeg) p := by rw [e8, eP, ap_sym (hB.2.1 w wW).1 hp]; exact cn
      have key := fun v5 v6 => stay I1 J1 v5 v6 hI hJ fun q => absurd cn q.1
      refine am_wq_T (cut := fun z pc => (Nat.beq z 77 && Nat.beq pc 32)) (inl := fun z => !(Nat.beq z 1)) 120 _ _ _ ?_
      exact And.intro rfl (And.intro rfl (And.intro ⟨rfl, vw⟩ (And.intro rfl (And.intro rfl (And.intro (fun _ => And.intro (fun _ => key _ _) (fun q => absurd rfl q)) (fun q => absurd c2 q))))))
    · have c2 : ¬ I1 21 8 < apc (I1 23 (nI w).toNatClampNeg) p := by rw [e8, eP, ap_sym (hB.2.1 w wW).1 hp]; exact cn
      by_cases cl : lst ≤ swN N w
      · have c3 : nI lst ≤ nI (swN N w) := nI_le cl (by omega)
        have key := fun v5 v6 => stay I1 J1 v5 v6 hI hJ fun _ => cl
        refine am_wq_T (cut := fun z pc => (Nat.beq z 77 && Nat.beq pc 32)) (inl := fun z => !(Nat.beq z 1)) 120 _ _ _ ?_
        exact And.intro rfl (And.intro rfl (And.intro ⟨rfl, vw⟩ (And.intro rfl (And.intro rfl (And.intro (fun q => absurd q c2) (fun _ => And.intro (fun q => absurd q m1z) (fun _ => And.intro (fun _ => key _ _) (fun q => absurd c3 q))))))))
      · have c3 : ¬ nI lst ≤ nI (swN N w) := nI_ge (by omega) (by omega)
        refine am_wq_T (cut := fun z pc => (Nat.beq z 77 && Nat.beq pc 32)) (inl := fun z => !(Nat.beq z 1)) 120 _ _ _ ?_
        refine And.intro rfl (And.intro rfl (And.intro ⟨rfl, vw⟩ (And.intro rfl (And.intro rfl (And.intro (fun q => absurd q c2) (fun _ => And.intro (fun q => absurd q m1z) (fun _ => And.intro (fun q => absurd q c3) (fun _ => ?_))))))))
        refine And.intro rfl (And.intro rfl (And.intro rfl ?_))
        refine c_solve21 (N := N) hR1 hr.2.1 hr.2.2.1 (by rw [hJ 15 (by unfold PJ; omega)]; exact h15) (fun I2 J2 p2 m2 c4 _ j2 _ _ x2 b2 => ?_)
        have d2 : ch NR I I2 := ch_nr hI (ch_w c4 fun r q => PS_NR q)
        have x2' := (tkS_w hw6 wW).mp x2
        by_cases cm : m2 = m
        · subst cm
          have key := ih (swN N w) I2 J2 (.int (nI (swN N w))) (.int 1) d2 (chJ_nr hJ j2) (fun _ => ⟨w, by omega, ⟨cn, x2'⟩, rfl⟩) (fun w' x y => by
            by_cases q : w' = w
            · subst q; exact Nat.le_refl _
            · have := h2 w' (by omega) y; omega) (by omega) bsw.2
          rw [nI_succ] at key
          exact And.intro (fun q => absurd rfl q) (fun _ => key)
        · have nm : ¬ nI m2 = nI m := fun q => cm ((nI_eq (by omega) (by omega)).mp q)
          have key := stay I2 J2 (.int (nI (swN N w))) (.int 1) d2 (chJ_nr hJ j2) fun q => by
            have := IsMax_u q.2 x2'; omega
          exact And.intro (fun _ => key) (fun q => absurd nm q)
theorem m_isPlace_y {x : Int32} (a0 : ¬ x < 0) (a1 : ¬ 29 < x) (hK : K (some (.int 1)) (am_mk kt I J T n s)) : am_T am_C (118, 1, 0, [.int x], []) (am_mk kt I J T n s) K := by
  refine am_wq_T (cut := fun _ _ => false) (inl := fun z => !(Nat.beq z 113)) 120 _ _ _ ?_
  exact m_in_y a0 a1 (And.intro rfl hK)
theorem m_isPlace_n0 {x : Int32} (a0 : x < 0) (hK : K (some (.int 0)) (am_mk kt I J T n s)) : am_T am_C (118, 1, 0, [.int x], []) (am_mk kt I J T n s) K := by
  refine am_wq_T (cut := fun _ _ => false) (inl := fun z => !(Nat.beq z 113)) 120 _ _ _ ?_
  exact m_in_n0 a0 (And.intro rfl hK)
theorem m_isPlace_n1 {x : Int32} (a0 : ¬ x < 0) (a1 : 29 < x) (hK : K (some (.int 0)) (am_mk kt I J T n s)) : am_T am_C (118, 1, 0, [.int x], []) (am_mk kt I J T n s) K := by
  refine am_wq_T (cut := fun _ _ => false) (inl := fun z => !(Nat.beq z 113)) 120 _ _ _ ?_
  exact m_in_n1 a0 a1 (And.intro rfl hK)
theorem L_frees (x : Int32) : sg_Call (77, 6, 0, [.ref 20, .int x, .null, .null, .null, .null, .null], []) (154, 26, 0, [.ref 107, .int x, .null, .null, .null, .null], []) := by
  intro L xs kt I J T n s K hS hK
  have h13 := hS.1.2.2.2.1
  obtain ⟨hc, wc, tc, hR, hB⟩ := hS.2.1
  have hr := RB_of hR hB
  have h15 := J15_of hS
  have hw6 := hR.2.1
  have h10 := hR.1
  rcases rng x 0 29 with ⟨a0, a1⟩ | a0 | ⟨a0, a1⟩
  · have hp : sg_in x 0 29 := by unfold sg_in; (simp only [Int32.lt_iff_toInt_lt, Int32.le_iff_toInt_le, gt_iff_lt, ge_iff_le, ← Int32.toInt_inj, Int32.reduceToInt, Int32.reduceMul, Int32.reduceAdd, Int32.reduceSub, ne_eq, true_and, and_true, false_and, and_false, not_true_eq_false, not_false_eq_true, true_or, or_true, false_or, or_false] at *; omega)
    refine am_wq_T (cut := fun z pc => (Nat.beq z 77 && Nat.beq pc 32)) (inl := fun z => !((Nat.beq z 105 || Nat.beq z 1))) 120 _ _ _ ?_
    refine c_within_y a0 a1 (And.intro (fun _ => ?_) (fun q => absurd m1z q))
    refine And.intro rfl (And.intro rfl (And.intro rfl ?_))
    refine c_solve21 (N := I 108) hR hr.2.1 hr.2.2.1 h15 (fun I1 J1 p m c1 _ j1 _ _ x1 b1 => ?_)
    refine c_frees_l (w := 0) (lst := 100) (m := m) hR hB h15 (by omega) hp wc I1 J1 _ _ (by omega) (ch_w c1 fun r q => PS_NR q) j1 (fun q => absurd q (by decide)) (fun _ q => absurd q (by omega)) (Nat.le_refl _) (by decide) fun I2 J2 lst v4 v5 v6 d2 e2 g1 g2 g3 g4 => ?_
    have hM : sg_Mid L xs I n s (154, 26, 0, [.ref 107, .int x, .null, .null, .null, .null], []) (if lst ≤ 99 then nI lst else -1000000005) kt I2 J2 T n s := by
      refine ⟨h13, d2 13 (by unfold NR CT; omega), ?_⟩
      have hN2 : I2 108 = I 108 := d2 108 (by unfold NR CT; omega)
      refine am_wq_T (cut := fun z pc => (Nat.beq z 154 && Nat.beq pc 23)) (inl := fun z => !((Nat.beq z 118 || Nat.beq z 149))) 120 _ _ _ ?_
      refine m_isPlace_y a0 a1 (And.intro (fun _ => And.intro rfl ?_) (fun q => absurd m1z q))
      refine m_met (N := I 108) hN2 hr.1 hr.2.1 (fun I3 m3 c3 x3 b3 => ?_)
      have e1 : m3 = m := by have := IsMax_u x3 (tkS_N hw6 x1); omega
      subst e1
      refine m_frees_l (N := I 108) (f := 100) hr hp x3 (I0 := I3) 99 I3 _ (Nat.le_refl _) ch_rfl (fun j _ => by rw [c3 108 (by unfold PM PF; omega), hN2]) (fun q => absurd q (by decide)) (fun y a b _ => by omega) (fun q => absurd q (by decide)) fun I4 f c4 q4 f1 f2 => ?_
      have d3 : ch NR I I3 := ch_nr d2 (ch_w c3 fun r q => PM_NR q)
      have eq : (lst ≤ 99 ↔ f ≤ 99) ∧ (lst ≤ 99 → lst = f) := by
        have A : f ≤ 99 → lst ≤ f := fun q => by
          obtain ⟨w, a, b, c⟩ := (FS1_iff hB (f1 q).1 (by omega)).mp (f1 q).2
          have := g2 w a b; omega
        have B : lst ≤ 99 → f ≤ lst := fun q => by
          obtain ⟨w, a, b, c⟩ := g1 q
          exact f2 lst (by omega) q ((FS1_iff hB g4 (by omega)).mpr ⟨w, a, b, by omega⟩)
        omega
      refine End_of ?_ (sim_land (I := I3) (J := J2) (fun r k a b c => ?_) (fun _ _ => rfl) ?_ (sim_ch d3 (chJ_nr chJ_rfl e2) hS))
      · by_cases q : lst ≤ 99
        · rw [if_pos q, if_pos (eq.1.mp q), eq.2 q]
        · rw [if_neg q, if_neg (fun z => q (eq.1.mpr z))]
      · rw [c4 r (by intro z; rcases z with z | z; exact c z; exact rv_NR a (PM_NR z))]
      · refine ⟨hc, wc, tc, LR_QN q4 ?_, LB_QN q4 hw6 hB⟩
        exact LR_cg (fun r k hr => by rw [c4 r (by unfold PM PF; omega), d3 r (by unfold NR CT; omega)]) hR
    have key := hK _ _ _ _ _ _ _ hM
    by_cases q : lst ≤ 99
    · have c : ¬ (99 : Int32) < nI lst := nI_nlt (a := 99) (b := lst) (by omega) (by decide)
      rw [if_pos q] at key
      refine am_wq_T (cut := fun _ _ => false) (inl := fun _ => true) 120 _ _ _ ?_
      exact And.intro (fun q => absurd q c) (fun _ => key)
    · have c : (99 : Int32) < nI lst := nI_lt (a := 99) (by omega) (by omega)
      rw [if_neg q] at key
      refine am_wq_T (cut := fun _ _ => false) (inl := fun _ => true) 120 _ _ _ ?_
      exact And.intro (fun _ => key) (fun q => absurd c q)
  · have hM : sg_Mid L xs I n s (154, 26, 0, [.ref 107, .int x, .null, .null, .null, .null], []) (-1000000001) kt I J T n s := by
      refine ⟨h13, rfl, ?_⟩
      refine am_wq_T (cut := fun _ _ => false) (inl := fun z => !((Nat.beq z 118 || Nat.beq z 149))) 120 _ _ _ ?_
      exact m_isPlace_n0 a0 (And.intro (fun q => absurd rfl q) (fun _ => End_of rfl hS))
    refine am_wq_T (cut := fun _ _ => false) (inl := fun z => !((Nat.beq z 105 || Nat.beq z 1))) 120 _ _ _ ?_
    exact c_within_n0 a0 (And.intro (fun q => absurd rfl q) (fun _ => hK _ _ _ _ _ _ _ hM))
  · have hM : sg_Mid L xs I n s (154, 26, 0, [.ref 107, .int x, .null, .null, .null, .null], []) (-1000000001) kt I J T n s := by
      refine ⟨h13, rfl, ?_⟩
      refine am_wq_T (cut := fun _ _ => false) (inl := fun z => !((Nat.beq z 118 || Nat.beq z 149))) 120 _ _ _ ?_
      exact m_isPlace_n1 a0 a1 (And.intro (fun q => absurd rfl q) (fun _ => End_of rfl hS))
    refine am_wq_T (cut := fun _ _ => false) (inl := fun z => !((Nat.beq z 105 || Nat.beq z 1))) 120 _ _ _ ?_
    exact c_within_n1 a0 a1 (And.intro (fun q => absurd rfl q) (fun _ => hK _ _ _ _ _ _ _ hM))
end T58
