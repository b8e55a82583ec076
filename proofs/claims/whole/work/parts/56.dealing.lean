/-! dealing -/
section T56
variable {kt : Nat → Nat × Nat} {I I' : Nat → Nat → Int32} {J J' : Nat → Nat → Int64} {T : Nat → Nat → Nat} {n s : Nat} {L : Nat} {xs : Nat → Int32} {K : Option Value → am_M → Prop} {N : Nat → Int32} {hc wc tc h w : Nat} {noH noW but : Int32}
abbrev T56hv (m : Nat) : Int32 := hv m
theorem lo_dv {a c : Int} (h0 : 0 ≤ a) (h1 : a ≤ 2200000000000) (c0 : 0 < c) (c1 : c ≤ 2200000000000) : lo a / lo c = lo (a / c) := by
  have q := Int.ediv_nonneg h0 (show 0 ≤ c by omega)
  have q2 := Int.ediv_le_self c h0
  apply Int64.toInt_inj.mp
  rw [Int64.toInt_div_of_ne_right _ _ (fun e => by have := congrArg Int64.toInt e; rw [lo_toInt (by omega)] at this; rw [show (-1 : Int64).toInt = -1 by decide] at this; omega), lo_toInt (by omega), lo_toInt (by omega), lo_toInt (by omega), Int.tdiv_eq_ediv_of_nonneg h0]
theorem lo_md {a c : Int} (h0 : 0 ≤ a) (h1 : a ≤ 2200000000000) (c0 : 0 < c) (c1 : c ≤ 2200000000000) : lo a - lo a / lo c * lo c = lo (a % c) := by
  rw [lo_dv h0 h1 c0 c1, lo_mul, lo_sub, Int.emod_def, Int.mul_comm c]
theorem lo_i {k : Nat} (h : k < 2147483648) : (lo k).toInt32 = nI k := by
  apply Int32.toInt_inj.mp
  rw [Int64.toInt_toInt32, lo_toInt (by omega), nI_toInt (by omega)]
  rw [Int.bmod_eq_of_le (by omega) (by omega)]
theorem lo_iI {a : Int} (h0 : 0 ≤ a) (h : a < 2147483648) : (lo a).toInt32 = nI a.toNat := by
  obtain ⟨k, rfl⟩ : ∃ k : Nat, a = k := ⟨a.toNat, by omega⟩
  exact lo_i (by omega)
theorem c_miles {p : Int} (hp : J 69 3 = lo p) (h0 : 0 ≤ p) (h1 : p ≤ 2170162225) (hK : K (some (.int (nI (p % 310023175 / 1771561).toNat))) (am_mk kt I J T n s)) : am_T am_C (4, 0, 0, [.ref 69], []) (am_mk kt I J T n s) K := by
  have a1 : ¬ (310023175 : Int64) = 0 := by decide
  have a2 : ¬ (1771561 : Int64) = 0 := by decide
  have m0 := Int.emod_nonneg p (show (310023175 : Int) ≠ 0 by decide)
  have m1 := Int.emod_lt_of_pos p (show (0 : Int) < 310023175 by decide)
  have e : ((J 69 3 - J 69 3 / 310023175 * 310023175) / 1771561).toInt32 = nI (p % 310023175 / 1771561).toNat := by
    rw [hp, lo_UP, lo_md h0 (by omega) (by decide) (by decide), lo_MP, lo_dv m0 (by omega) (by decide) (by decide), lo_iI (by omega) (by omega)]
  rw [← e] at hK
  refine am_wq_T (cut := fun _ _ => false) (inl := fun _ => true) 120 _ _ _ ?_
  exact And.intro rfl (And.intro a1 (And.intro a2 hK))
theorem c_holeOf {p : Int} {g : Nat} (hp : J 69 3 = lo p) (h0 : 0 ≤ p) (h1 : p ≤ 2170162225) (hw : w < wc) (hw6 : wc ≤ 6) (hI : I 69 2 = nI wc) (h15 : J 15 = am_digits) (hg : p % 1771561 / eD (w + 1) % 11 = g) (hK : K (some (.int (if g = 10 then -1000000005 else nI g))) (am_mk kt I J T n s)) : am_T am_C (5, 0, 0, [.ref 69, .int (nI w), .null], []) (am_mk kt I J T n s) K := by
  have a2 : ¬ (1771561 : Int64) = 0 := by decide
  have a3 : ¬ (11 : Int64) = 0 := by decide
  have m0 := Int.emod_nonneg p (show (1771561 : Int) ≠ 0 by decide)
  have m1 := Int.emod_lt_of_pos p (show (0 : Int) < 1771561 by decide)
  have e0 := eD_pos (w + 1)
  have e1 := eD_le w (by omega)
  have q0 := Int.ediv_nonneg m0 (show 0 ≤ eD (w + 1) by omega)
  have q1 := Int.ediv_le_self (eD (w + 1)) m0
  have ed : J 15 (nI w).toNatClampNeg = lo (eD (w + 1)) := by rw [h15, nI_clamp (by omega), lo_d w (by omega)]
  have a4 : ¬ J 15 (nI w).toNatClampNeg = 0 := by rw [ed, show (0 : Int64) = lo 0 by decide]; intro q; have := (lo_eq (by omega) (by decide)).mp q; omega
  have c0 : ¬ nI w < 0 := nI_pos (by omega)
  have c1 : nI w < I 69 2 := by rw [hI]; exact nI_lt hw (by omega)
  have vw : vp_in (nI w) 6 := vpl (by omega) (by decide)
  have hgb : g < 11 := by omega
  have e : ((J 69 3 - J 69 3 / 1771561 * 1771561) / J 15 (nI w).toNatClampNeg - (J 69 3 - J 69 3 / 1771561 * 1771561) / J 15 (nI w).toNatClampNeg / 11 * 11).toInt32 = nI g := by
    rw [hp, ed, lo_MP, lo_md h0 (by omega) (by decide) (by decide), lo_dv m0 (by omega) e0 (by omega), show (11 : Int64) = lo 11 by decide, lo_md q0 (by omega) (by decide) (by decide), hg, lo_i (by omega)]
  by_cases c : g = 10
  · have cc : ¬ ¬ ((J 69 3 - J 69 3 / 1771561 * 1771561) / J 15 (nI w).toNatClampNeg - (J 69 3 - J 69 3 / 1771561 * 1771561) / J 15 (nI w).toNatClampNeg / 11 * 11).toInt32 = 10 := by rw [e, c]; decide
    rw [if_pos c] at hK
    refine am_wq_T (cut := fun z pc => (Nat.beq z 5 && Nat.beq pc 15)) (inl := fun _ => false) 120 _ _ _ ?_
    refine And.intro (fun q => absurd q c0) (fun _ => And.intro rfl (And.intro (fun _ => ?_) (fun q => absurd c1 q)))
    refine am_wq_T (cut := fun _ _ => false) (inl := fun _ => true) 120 _ _ _ ?_
    exact And.intro rfl (And.intro a2 (And.intro ⟨rfl, vw⟩ (And.intro a4 (And.intro a3 (And.intro (fun q => absurd q cc) (fun _ => hK))))))
  · have cc : ¬ ((J 69 3 - J 69 3 / 1771561 * 1771561) / J 15 (nI w).toNatClampNeg - (J 69 3 - J 69 3 / 1771561 * 1771561) / J 15 (nI w).toNatClampNeg / 11 * 11).toInt32 = 10 := by rw [e]; intro q; exact c ((nI_eq (b := 10) (by omega) (by decide)).mp q)
    rw [if_neg c, ← e] at hK
    refine am_wq_T (cut := fun z pc => (Nat.beq z 5 && Nat.beq pc 15)) (inl := fun _ => false) 120 _ _ _ ?_
    refine And.intro (fun q => absurd q c0) (fun _ => And.intro rfl (And.intro (fun _ => ?_) (fun q => absurd c1 q)))
    refine am_wq_T (cut := fun _ _ => false) (inl := fun _ => true) 120 _ _ _ ?_
    exact And.intro rfl (And.intro a2 (And.intro ⟨rfl, vw⟩ (And.intro a4 (And.intro a3 (And.intro (fun _ => hK) (fun q => absurd cc q))))))
theorem ml_nn (hr : RB N hc wc tc) {d : Nat → Nat} (hv : Val (tkD N hc wc tc) wc d) (hw : w < wc) : ∃ k : Nat, k ≤ 29 ∧ ml (faN N) d w = k ∧ (d w ≠ 99 → d w < hc ∧ apt (N (21 + 5 * d w + 1)) (N (9 + 2 * w)) = nI k) ∧ (d w = 99 → k = 0) := by
  unfold ml
  by_cases q : d w = 99
  · rw [if_pos q]; exact ⟨0, by omega, rfl, fun x => absurd q x, fun _ => rfl⟩
  · rw [if_neg q]
    have t := tkS_t.mp (hv.1 w hw q)
    obtain ⟨k, k1, k2, k3⟩ := faN_k hr.2.1 hr.2.2.1 t.1 hw
    exact ⟨k, k1, k3, fun _ => ⟨t.1, k2⟩, fun x => absurd x q⟩
theorem m_miles (hr : RB N hc wc tc) (hN : I 108 = N) {d : Nat → Nat} (hd : ∀ x, x < wc → I 114 x = hv (d x)) (hv : Val (tkD N hc wc tc) wc d) {v1 : Int32} : ∀ (j w m : Nat), w + j = wc → (m : Int) = sm (ml (faN N) d) w → m ≤ 29 * w → (∀ m : Nat, (m : Int) = sm (ml (faN N) d) wc → K (some (.int (nI m))) (am_mk kt I J T n s)) → am_T am_C (152, 26, 55, [.ref 107, .int v1, .int (nI m), .int (nI w)], []) (am_mk kt I J T n s) K
  | 0, w, m, hw, hm, hb, hK => by
    have : w = wc := by omega
    subst this
    have hw6 := hr.1.2.1
    have c1 : I 108 7 ≤ nI w := by rw [hN, hr.1.2.2.2.2.1]; exact nI_le (Nat.le_refl _) (by omega)
    refine am_wq_T (cut := fun z pc => (Nat.beq z 152 && Nat.beq pc 55)) (inl := fun _ => false) 120 _ _ _ ?_
    exact And.intro rfl (And.intro ⟨rfl, vp7N⟩ (And.intro (fun _ => hK m hm) (fun q => absurd c1 q)))
  | j + 1, w, m, hw, hm, hb, hK => by
    have hw6 := hr.1.2.1
    have h10 := hr.2.2.2
    have wW : w < wc := by omega
    have c1 : ¬ I 108 7 ≤ nI w := by rw [hN, hr.1.2.2.2.2.1]; exact nI_ge wW (by omega)
    have vw : vp_in (nI w) 6 := vpl (by omega) (by decide)
    obtain ⟨k, k1, k2, k3, k4⟩ := ml_nn hr hv wW
    have ed : I 114 (nI w).toNatClampNeg = T56hv (d w) := by rw [nI_clamp (by omega)]; exact hd w wW
    have ih := m_miles hr hN hd hv (v1 := v1) j (w + 1) (m + k) (by omega) (by rw [sm_s, k2, ← hm]; omega) (by omega) hK
    by_cases q : d w = 99
    · have n0 : ¬ 0 ≤ I 114 (nI w).toNatClampNeg := by rw [ed, q]; decide
      rw [k4 q, Nat.add_zero, nI_succ, show nI m = nI m + 0 from (Int32.add_zero _).symm] at ih
      refine am_wq_T (cut := fun z pc => (Nat.beq z 152 && Nat.beq pc 55)) (inl := fun z => !(Nat.beq z 140)) 120 _ _ _ ?_
      exact And.intro rfl (And.intro ⟨rfl, vp7N⟩ (And.intro (fun q => absurd q c1) (fun _ => And.intro rfl (And.intro ⟨rfl, vw⟩ (And.intro (fun q => absurd q n0) (fun _ => ih))))))
    · obtain ⟨k5, k6⟩ := k3 q
      have ev : T56hv (d w) = nI (d w) := if_neg q
      have n0 : 0 ≤ I 114 (nI w).toNatClampNeg := by rw [ed, ev]; exact nI_pos' (by omega)
      have e2 : (9 : Int32) + 2 * nI w = nI (9 + 2 * w) := e9_of w
      have v2 : vp_in ((9 : Int32) + 2 * nI w) 1448 := by rw [e2]; exact vpl (by omega) (by decide)
      have f2 : I 108 ((9 : Int32) + 2 * nI w).toNatClampNeg = N (9 + 2 * w) := by rw [e2, nI_clamp (by omega), hN]
      rw [nI_succ, ← nI_add] at ih
      refine am_wq_T (cut := fun z pc => (Nat.beq z 152 && Nat.beq pc 55)) (inl := fun z => !(Nat.beq z 140)) 120 _ _ _ ?_
      refine And.intro rfl (And.intro ⟨rfl, vp7N⟩ (And.intro (fun q => absurd q c1) (fun _ => And.intro rfl (And.intro ⟨rfl, vw⟩ (And.intro (fun _ => ?_) (fun q => absurd n0 q))))))
      refine And.intro rfl (And.intro ⟨rfl, vw⟩ (And.intro rfl (And.intro ⟨rfl, v2⟩ (And.intro rfl ?_))))
      show am_T am_C (140, 1, 0, [.ref 107, .int (I 114 (nI w).toNatClampNeg), .int (I 108 ((9 : Int32) + 2 * nI w).toNatClampNeg), .null], []) (am_mk kt I J T n s) _
      rw [ed, ev, f2]
      exact m_apartV hN (by omega) k6 ih
theorem m_told0 {x : Int32} (hK : K (some (.int (if 0 ≤ x then x else -1000000005))) (am_mk kt I J T n s)) : am_T am_C (116, 0, 0, [.int x], []) (am_mk kt I J T n s) K := by
  by_cases c : 0 ≤ x
  · rw [if_pos c] at hK
    refine am_wq_T (cut := fun _ _ => false) (inl := fun _ => true) 120 _ _ _ ?_
    exact And.intro (fun _ => hK) (fun q => absurd c q)
  · rw [if_neg c] at hK
    refine am_wq_T (cut := fun _ _ => false) (inl := fun _ => true) 120 _ _ _ ?_
    exact And.intro (fun q => absurd q c) (fun _ => hK)
theorem hv_dgt {d : Nat} (h : d = 99 ∨ d < 10) : (if 0 ≤ T56hv d then T56hv d else -1000000005) = (if (dgt d).toNat = 10 then -1000000005 else nI (dgt d).toNat) := by
  unfold T56hv hv dgt
  rcases h with q | q
  · rw [if_pos q, if_pos q]; rfl
  · have n : ¬ d = 99 := by omega
    rw [if_neg n, if_neg n, if_pos (nI_pos' (by omega)), if_neg (show ¬ ((d : Int)).toNat = 10 by omega)]; rfl
theorem L_dealing (x : Int32) : sg_Call (75, 6, 0, [.ref 20, .int x, .null], []) (152, 26, 0, [.ref 107, .int x, .null, .null], []) := by
  intro L xs kt I J T n s K hS hK
  have h13 := hS.1.2.2.2.1
  obtain ⟨hc, wc, tc, hR, hB⟩ := hS.2.1
  have hr := RB_of hR hB
  have h15 := J15_of hS
  have hw6 := hR.2.1
  have h10 := hR.1
  have e4 : I 21 4 + 1 = nI (wc + 1) := by rw [hR.2.2.2.2.2.2.2.1, nI_1]
  have e7 : 1 + I 108 7 = nI (wc + 1) := by rw [hR.2.2.2.2.1, show (1 : Int32) = nI 1 from rfl, nI_add, Nat.add_comm]
  rcases rng x 0 (nI (wc + 1)) with ⟨a0, a1⟩ | a0 | ⟨a0, a1⟩
  · obtain ⟨k, hk, rfl⟩ := in_of (m := wc + 1) (by omega) a0 a1
    have a1c : ¬ I 21 4 + 1 < nI k := by rw [e4]; exact a1
    have a1m : ¬ 1 + I 108 7 < nI k := by rw [e7]; exact a1
    refine am_wq_T (cut := fun _ _ => false) (inl := fun z => !((Nat.beq z 105 || (Nat.beq z 1 || (Nat.beq z 4 || Nat.beq z 5))))) 120 _ _ _ ?_
    refine And.intro rfl (And.intro rfl (c_within_y a0 a1c (And.intro (fun _ => ?_) (fun q => absurd m1z q))))
    refine And.intro rfl (And.intro rfl (And.intro rfl ?_))
    refine c_solve21 (N := I 108) hR hr.2.1 hr.2.2.1 h15 (fun I1 J1 p m1 c1 i1 j1 hp mn mx b1 => ?_)
    have d1 : ch NR I I1 := ch_w c1 fun r q => PS_NR q
    have hN1 : I1 108 = I 108 := d1 108 (by unfold NR CT; omega)
    have hF := FrS (tc := tc) (noH := -1) (noW := -1) hr.2.1 hr.2.2.1 h10
    have pb : 0 ≤ p ∧ p ≤ 2170162225 := by
      obtain ⟨⟨y, y1, y2⟩, -⟩ := mn
      rw [← y2]; exact price_b hF hw6 y1
    have hI13 : I1 13 = I 13 := d1 13 (by unfold NR CT; omega)
    by_cases k0 : k = 0
    · subst k0
      refine And.intro (fun q => absurd rfl q) (fun _ => ?_)
      refine hK _ kt I1 J1 T n s ⟨h13, hI13, ?_⟩
      refine am_wq_T (cut := fun _ _ => false) (inl := fun z => !((Nat.beq z 113 || (Nat.beq z 149 || (Nat.beq z 151 || (Nat.beq z 116 || Nat.beq z 140)))))) 120 _ _ _ ?_
      refine And.intro rfl (And.intro ⟨rfl, vp7N⟩ (m_in_y a0 (by show ¬ 1 + I1 108 7 < nI 0; rw [hN1]; exact a1m) (And.intro (fun _ => ?_) (fun q => absurd m1z q))))
      refine And.intro (fun q => absurd rfl q) (fun _ => And.intro rfl ?_)
      refine m_met (N := I 108) hN1 hr.1 hr.2.1 (fun I3 m3 c3 x3 b3 => ?_)
      have e1 : m3 = m1 := by have := IsMax_u x3 (tkS_N hw6 mx); omega
      subst e1
      exact End_of rfl (sim_ch (ch_nr d1 (ch_w c3 fun r q => PM_NR q)) j1 hS)
    · have nk : ¬ nI k = 0 := fun q => k0 ((nI_eq (b := 0) (by omega) (by decide)).mp q)
      refine And.intro (fun _ => ?_) (fun q => absurd nk q)
      have ref : ∀ v, (∀ I2 d U, ch PG I1 I2 → (∀ x, x < wc → I2 114 x = hv (d x)) → GD (tkD (I 108) hc wc tc) (faN (I 108)) wc hc (fun w u => (SD (I 108) hc wc tc (wc - w) u : Int)) d U → Val (tkD (I 108) hc wc tc) wc d → p = price (faN (I 108)) wc d → am_T am_C (152, 26, 34, [.ref 107, .int (nI k), .null, .null], []) (am_mk kt I2 J1 T n s) (sg_End L xs n s v)) → sg_Mid L xs I n s (152, 26, 0, [.ref 107, .int (nI k), .null, .null], []) v kt I1 J1 T n s := fun v hv => by
        refine ⟨h13, hI13, ?_⟩
        refine am_wq_T (cut := fun z pc => (Nat.beq z 152 && Nat.beq pc 34)) (inl := fun z => !((Nat.beq z 113 || (Nat.beq z 149 || (Nat.beq z 151 || (Nat.beq z 116 || Nat.beq z 140)))))) 120 _ _ _ ?_
        refine And.intro rfl (And.intro ⟨rfl, vp7N⟩ (m_in_y a0 (by show ¬ 1 + I1 108 7 < nI k; rw [hN1]; exact a1m) (And.intro (fun _ => ?_) (fun q => absurd m1z q))))
        refine And.intro (fun _ => And.intro rfl ?_) (fun q => absurd nk q)
        refine m_find (N := I 108) hr hN1 (fun I2 d U c2 hd hG => ?_)
        have gs := Sc_GS (tk := tkD (I 108) hc wc tc) (fa := faM (I 108)) (far := faN (I 108)) (W := wc) (hc := hc) fun w h t => by
          have t := tkS_t.mp t
          obtain ⟨k, k1, k2, k3⟩ := faN_k hr.2.1 hr.2.2.1 t.1 t.2.1
          unfold faM
          rw [k3]; exact ⟨rfl, by omega⟩
        obtain ⟨v1, v2⟩ := GD_min hF hw6 gs hG (fun w h t => (tkS_t.mp t).1) mn
        exact hv I2 d U c2 hd hG v1 v2
      by_cases k1 : k = 1
      · subst k1
        refine And.intro (fun q => absurd rfl q) (fun _ => And.intro rfl (And.intro rfl ?_))
        refine c_miles hp pb.1 pb.2 ?_
        refine hK _ kt I1 J1 T n s (ref _ fun I2 d U c2 hd hG v1 v2 => ?_)
        refine am_wq_T (cut := fun z pc => (Nat.beq z 152 && Nat.beq pc 55)) (inl := fun _ => false) 120 _ _ _ ?_
        refine And.intro (fun _ => ?_) (fun q => absurd (by decide : nI 1 ≤ 1) q)
        refine m_miles (N := I 108) (m := 0) hr (by rw [c2 108 (by unfold PG PF; omega)]; exact hN1) hd v1 wc 0 (by omega) rfl (Nat.zero_le _) fun m hm => ?_
        refine End_of ?_ (sim_ch (ch_nr d1 (ch_w c2 fun r q => PG_NR q)) j1 hS)
        rw [v2, price_mil hF hw6 v1, ← hm]; rfl
      · have kw : k - 2 < wc := by omega
        have n1 : ¬ nI k = 1 := fun q => k1 ((nI_eq (b := 1) (by omega) (by decide)).mp q)
        have e2 : nI k - 2 = nI (k - 2) := nI_subI (b := 2) (by omega)
        refine And.intro (fun _ => And.intro rfl (And.intro rfl ?_)) (fun q => absurd n1 q)
        show am_T am_C (5, 0, 0, [.ref 69, .int (nI k - 2), .null], []) (am_mk kt I1 J1 T n s) _
        rw [e2]
        have q0 : 0 ≤ p % 1771561 / eD (k - 2 + 1) % 11 := Int.emod_nonneg _ (by decide)
        refine c_holeOf (g := (p % 1771561 / eD (k - 2 + 1) % 11).toNat) hp pb.1 pb.2 kw hw6 i1 (by rw [j1 15 (by unfold PJ; omega)]; exact h15) (by omega) ?_
        refine hK _ kt I1 J1 T n s (ref _ fun I2 d U c2 hd hG v1 v2 => ?_)
        have vk : vp_in (nI k - 2) 6 := by rw [e2]; exact vpl (by omega) (by decide)
        have n2 : ¬ nI k ≤ 1 := nI_ge (a := 1) (by omega) (by omega)
        have ed : I2 114 (nI k - 2).toNatClampNeg = hv (d (k - 2)) := by rw [e2, nI_clamp (by omega)]; exact hd _ kw
        refine am_wq_T (cut := fun _ _ => false) (inl := fun z => !(Nat.beq z 116)) 120 _ _ _ ?_
        refine And.intro (fun q => absurd q n2) (fun _ => And.intro rfl (And.intro ⟨rfl, vk⟩ (m_told0 ?_)))
        refine End_of ?_ (sim_ch (ch_nr d1 (ch_w c2 fun r q => PG_NR q)) j1 hS)
        show (if 0 ≤ I2 114 (nI k - 2).toNatClampNeg then I2 114 (nI k - 2).toNatClampNeg else -1000000005) = _
        rw [ed, v2, price_dgt hF hw6 v1 kw]
        exact hv_dgt (by
          by_cases q : d (k - 2) = 99
          · exact .inl q
          · have := (tkS_t.mp (v1.1 _ kw q)).1; exact .inr (by omega))
  · have hM : sg_Mid L xs I n s (152, 26, 0, [.ref 107, .int x, .null, .null], []) (-1000000001) kt I J T n s := by
      refine ⟨h13, rfl, ?_⟩
      refine am_wq_T (cut := fun _ _ => false) (inl := fun z => !((Nat.beq z 113 || (Nat.beq z 149 || (Nat.beq z 151 || (Nat.beq z 116 || Nat.beq z 140)))))) 120 _ _ _ ?_
      exact And.intro rfl (And.intro ⟨rfl, vp7N⟩ (m_in_n0 a0 (And.intro (fun q => absurd rfl q) (fun _ => End_of rfl hS))))
    refine am_wq_T (cut := fun _ _ => false) (inl := fun z => !((Nat.beq z 105 || (Nat.beq z 1 || (Nat.beq z 4 || Nat.beq z 5))))) 120 _ _ _ ?_
    exact And.intro rfl (And.intro rfl (c_within_n0 a0 (And.intro (fun q => absurd rfl q) (fun _ => hK _ _ _ _ _ _ _ hM))))
  · have hM : sg_Mid L xs I n s (152, 26, 0, [.ref 107, .int x, .null, .null], []) (-1000000001) kt I J T n s := by
      refine ⟨h13, rfl, ?_⟩
      refine am_wq_T (cut := fun _ _ => false) (inl := fun z => !((Nat.beq z 113 || (Nat.beq z 149 || (Nat.beq z 151 || (Nat.beq z 116 || Nat.beq z 140)))))) 120 _ _ _ ?_
      exact And.intro rfl (And.intro ⟨rfl, vp7N⟩ (m_in_n1 a0 (by show 1 + I 108 7 < x; rw [e7]; exact a1) (And.intro (fun q => absurd rfl q) (fun _ => End_of rfl hS))))
    refine am_wq_T (cut := fun _ _ => false) (inl := fun z => !((Nat.beq z 105 || (Nat.beq z 1 || (Nat.beq z 4 || Nat.beq z 5))))) 120 _ _ _ ?_
    exact And.intro rfl (And.intro rfl (c_within_n1 a0 (by show I 21 4 + 1 < x; rw [e4]; exact a1) (And.intro (fun q => absurd rfl q) (fun _ => hK _ _ _ _ _ _ _ hM))))
end T56
