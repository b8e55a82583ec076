/-! lay -/
section T82
variable {kt : Nat → Nat × Nat} {I I' : Nat → Nat → Int32} {J J' : Nat → Nat → Int64} {T T' : Nat → Nat → Nat} {n s : Nat} {L : Nat} {xs : Nat → Int32} {K : Option Value → am_M → Prop} {N N' S : Nat → Int32} {hc wc tc h w q size : Nat}
theorem c_find_any {x : Int32} (hR : sg_LR kt I T n 21 (I 108) hc wc tc) (hK : ∀ r, K (some (.ref r)) (am_mk kt I J T n s)) : am_T am_C (15, 0, 0, [.ref 21, .int x], []) (am_mk kt I J T n s) K := by
  rcases hole_cases hR x with ⟨h, hh, hh10, rfl, a0, a1, a2, hv⟩ | a0 | ⟨a0, a1, a2⟩
  · exact c_find_y a0 a1 hh10 hv (hK _)
  · exact c_find_n0 a0 (hK _)
  · exact c_find_n1 a0 a1 (hK _)
theorem c_sheetAt_any {x : Int32} (hK : ∀ r, K (some (.ref r)) (am_mk kt I J T n s)) : am_T am_C (110, 1, 0, [.ref 20, .int x], []) (am_mk kt I J T n s) K := by
  rcases rng x 0 3 with ⟨a0, a1⟩ | a0 | ⟨a0, a1⟩
  · obtain ⟨q, hq3, rfl⟩ := in_of (m := 3) (by decide) a0 a1
    exact c_sheetAt_y (by omega) a0 a1 (hK _)
  · exact c_sheetAt_n0 a0 (hK _)
  · exact c_sheetAt_n1 a0 a1 (hK _)
theorem m_worthV {v : Int32} (hN : I 108 = N) (hh : h ≤ 10) (hv : sg_worth (N (21 + 5 * h)) (N (21 + 5 * h + 1)) (N (21 + 5 * h + 2)) (N (21 + 5 * h + 3)) = v) (hK : K (some (.int v)) (am_mk kt I J T n s)) : am_T am_C (127, 1, 0, [.ref 107, .int (nI h), .null], []) (am_mk kt I J T n s) K :=
  m_worth hh (by rw [hN, hv]; exact hK)
theorem c_sbecome {x x2 y y2 : Nat} (kx : am_k kt x = (3, 3)) (ky : am_k kt y = (3, 3)) (kx2 : am_k kt x2 = (20, 24)) (ky2 : am_k kt y2 = (20, 24)) (ex : am_r T x 2 = x2) (ey : am_r T y 2 = y2) (n1 : x ≠ y) (n2 : x2 ≠ x) (n3 : x2 ≠ y2) (n4 : y2 ≠ x) (hK : ∀ I', ch (fun r => r = x ∨ r = x2) I I' → I' x 0 = I y 0 → I' x 1 = I y 1 → (∀ k, k < 24 → I' x2 k = I y2 k) → K none (am_mk kt I' J T n s)) : am_T am_C (35, 0, 0, [.ref x, .ref y], []) (am_mk kt I J T n s) K := by
  obtain ⟨I2, e2⟩ : ∃ I2, I2 = am_up (am_up I x 0 (I y 0)) x 1 (am_up I x 0 (I y 0) y 1) := ⟨_, rfl⟩
  have off : ∀ r, r ≠ x → I2 r = I r := fun r hr => by rw [e2, up_off hr, up_off hr]
  have key := hK (am_row I2 x2 (va_cpy (I2 y2) (I2 x2) 0 0 24)) (fun r hr => by rw [row_off (fun z => hr (.inr z)), off r (fun z => hr (.inl z))]) (by rw [row_off (Ne.symm n2), e2, up_ne (by omega), up_eq]) (by rw [row_off (Ne.symm n2), e2, up_eq, up_off (Ne.symm n1)]) (fun k hk => by
    rw [row_eq]
    unfold va_cpy
    rw [if_pos (by omega), off y2 n4, Nat.zero_add, Nat.sub_zero])
  rw [e2] at key
  have k1 : (am_k kt y2).1 = 20 := by rw [ky2]
  have k2 : (am_k kt x2).1 = 20 := by rw [kx2]
  have l1 : 0 + 24 ≤ (am_k kt y2).2 := by rw [ky2]; decide
  have l2 : 0 + 24 ≤ (am_k kt x2).2 := by rw [kx2]; decide
  have z0 : ¬ (0 : Int32) < 0 := by decide
  have z24 : ¬ (24 : Int32) < 0 := by decide
  refine am_wq_T (cut := fun _ _ => false) (inl := fun _ => true) 120 _ _ _ ?_
  refine And.intro ky (And.intro kx (And.intro ky (And.intro kx (And.intro ky (And.intro kx ?_)))))
  have ex' : am_R (am_k kt, am_up (am_up I x 0 (I y 0)) x 1 (am_up I x 0 (I y 0) y 1), J, am_r T, n, s) x 2 = x2 := ex
  have ey' : am_R (am_k kt, am_up (am_up I x 0 (I y 0)) x 1 (am_up I x 0 (I y 0) y 1), J, am_r T, n, s) y 2 = y2 := ey
  subst ex
  subst ey
  exact And.intro ⟨k1, k2, z0, z0, z24, l1, l2⟩ key
theorem m_lay_03 {q : Nat} {k y : Int32} {v4 v5 : Value} (hq : q < 5) (hk1 : ¬ k = 1) (hk2 : ¬ k = 2) (hK : K (some (.int (I 128 q))) (am_mk kt (am_up (am_up (am_up I 128 q k) 129 q y) 130 q 0) J T n s)) : am_T am_C (196, 2, 61, [.ref 107, .int (nI q), .int k, .int y, v4, v5], []) (am_mk kt I J T n s) K := by
  have vq : vp_in (nI q) 5 := vpl hq (by decide)
  have cz : ¬ (24 : Int32) ≤ 0 := by decide
  rw [← nI_clamp (n := q) (by omega)] at hK
  refine am_wq_T (cut := fun z pc => (Nat.beq z 196 && Nat.beq pc 61)) (inl := fun z => !((Nat.beq z 121 || Nat.beq z 127))) 120 _ _ _ ?_
  exact And.intro rfl (And.intro ⟨rfl, vq⟩ (And.intro rfl (And.intro ⟨rfl, vq⟩ (And.intro rfl (And.intro (fun _ => And.intro (fun _ => And.intro ⟨rfl, vq⟩ (And.intro rfl (And.intro (fun _ => And.intro ⟨rfl, vq⟩ (And.intro (fun z => absurd z cz) (fun _ => And.intro (fun _ => hK) (fun z => absurd hk2 z)))) (fun z => absurd hk1 z)))) (fun z => absurd hk2 z)) (fun z => absurd hk1 z))))))
theorem m_lay_1 {q : Nat} {v4 v5 : Value} {w : Int32} (hq : q < 5) (hh : h ≤ 10) (hN : I 108 = N) (hw : sg_worth (N (21 + 5 * h)) (N (21 + 5 * h + 1)) (N (21 + 5 * h + 2)) (N (21 + 5 * h + 3)) = w) (hK : K (some (.int (I 128 q))) (am_mk kt (am_up (am_up (am_up I 128 q 1) 129 q (N (21 + 5 * h + 0))) 130 q w) J T n s)) : am_T am_C (196, 2, 61, [.ref 107, .int (nI q), .int 1, .int (nI h), v4, v5], []) (am_mk kt I J T n s) K := by
  have vq : vp_in (nI q) 5 := vpl hq (by decide)
  have cz : ¬ (24 : Int32) ≤ 0 := by decide
  have d12 : ¬ (1 : Int32) = 2 := by decide
  rw [← nI_clamp (n := q) (by omega)] at hK
  refine am_wq_T (cut := fun z pc => (Nat.beq z 196 && Nat.beq pc 61)) (inl := fun z => !((Nat.beq z 121 || Nat.beq z 127))) 120 _ _ _ ?_
  refine And.intro rfl (And.intro ⟨rfl, vq⟩ (And.intro rfl (And.intro ⟨rfl, vq⟩ (And.intro rfl (And.intro (fun z => absurd rfl z) (fun _ => And.intro rfl (m_ofV (N := N) (h := h) (w := 0) (by show am_up I 128 (nI q).toNatClampNeg 1 108 = N; rw [up_off (by omega)]; exact hN) rfl rfl hh (by decide) rfl ?_)))))))
  refine And.intro ⟨rfl, vq⟩ (And.intro rfl (And.intro (fun z => absurd rfl z) (fun _ => And.intro rfl (m_worthV (N := N) (by show am_up (am_up I 128 (nI q).toNatClampNeg 1) 129 (nI q).toNatClampNeg (N (21 + 5 * h + 0)) 108 = N; rw [up_off (by omega), up_off (by omega)]; exact hN) hh hw ?_))))
  exact And.intro ⟨rfl, vq⟩ (And.intro (fun z => absurd z cz) (fun _ => And.intro (fun _ => hK) (fun z => absurd d12 z)))
/-- numbers of a sheet, laid into a slot up to i -/
def lyI (I0 I : Nat → Nat → Int32) (q p i : Nat) : Prop := ch (fun r => r = 131) I0 I ∧ ∀ k, I 131 k = if 24 * q ≤ k ∧ k < 24 * q + i then I0 127 (24 * p + (k - 24 * q)) else I0 131 k
theorem m_lay_l {q p : Nat} {v4 : Int32} (hq : q < 5) (hp : p < 4) {I0 : Nat → Nat → Int32} (hK : ∀ I', lyI I0 I' q p 24 → K (some (.int v4)) (am_mk kt I' J T n s)) : ∀ (j i : Nat) (I : Nat → Nat → Int32), i + j = 24 → lyI I0 I q p i → am_T am_C (196, 2, 134, [.ref 107, .int (nI q), .int 2, .int (nI p), .int v4, .int (nI i)], []) (am_mk kt I J T n s) K
  | 0, i, I, hi, hI => by
    have : i = 24 := by omega
    subst this
    have c1 : (24 : Int32) ≤ nI 24 := by decide
    have key := hK I hI
    refine am_wq_T (cut := fun z pc => (Nat.beq z 196 && Nat.beq pc 134)) (inl := fun _ => false) 120 _ _ _ ?_
    exact And.intro (fun _ => key) (fun z => absurd c1 z)
  | j + 1, i, I, hi, hI => by
    have c1 : ¬ (24 : Int32) ≤ nI i := nI_ge (a := i) (b := 24) (by omega) (by omega)
    have v1 : vp_in (24 * nI q + nI i) 120 := by
      rw [show (24 : Int32) = nI 24 from rfl, pk_mul, nI_add]
      exact vpl (by omega) (by decide)
    have v2 : vp_in (24 * nI p + nI i) 96 := vpS hp (by omega)
    have ix : (24 * nI q + nI i).toNatClampNeg = 24 * q + i := ixS (by omega) (by omega)
    have ix2 : (24 * nI p + nI i).toNatClampNeg = 24 * p + i := ixS (by omega) (by omega)
    have key := m_lay_l hq hp hK j (i + 1) (am_up I 131 (24 * q + i) (I 127 (24 * p + i))) (by omega) ⟨ch_tr hI.1 (ch_up (P := fun r => r = 131) rfl) fun r q => q.elim id id, fun k => by
      by_cases e : k = 24 * q + i
      · subst e
        rw [up_eq, if_pos (by omega), hI.1 127 (by omega), Nat.add_sub_cancel_left]
      · rw [up_ne (by omega), hI.2 k]
        by_cases e2 : 24 * q ≤ k ∧ k < 24 * q + i
        · rw [if_pos e2, if_pos (by omega)]
        · rw [if_neg e2, if_neg (by omega)]⟩
    rw [nI_succ, ← ix, ← ix2] at key
    refine am_wq_T (cut := fun z pc => (Nat.beq z 196 && Nat.beq pc 134)) (inl := fun _ => false) 120 _ _ _ ?_
    exact And.intro (fun z => absurd z c1) (fun _ => And.intro (fun z => absurd rfl z) (fun _ => And.intro rfl (And.intro rfl (And.intro ⟨rfl, v2⟩ (And.intro ⟨rfl, v1⟩ key)))))
theorem m_lay_2 {q p : Nat} {v4 v5 : Value} (hq : q < 5) (hp : p < 4) (hK : ∀ I', lyI (am_up (am_up (am_up I 128 q 2) 129 q (I 126 p)) 130 q 0) I' q p 24 → K (some (.int (I 128 q))) (am_mk kt I' J T n s)) : am_T am_C (196, 2, 61, [.ref 107, .int (nI q), .int 2, .int (nI p), v4, v5], []) (am_mk kt I J T n s) K := by
  have vq : vp_in (nI q) 5 := vpl hq (by decide)
  have vp : vp_in (nI p) 4 := vpl hp (by decide)
  have d21 : ¬ (2 : Int32) = 1 := by decide
  have key := m_lay_l (v4 := I 128 q) hq hp hK 24 0 (am_up (am_up (am_up I 128 q 2) 129 q (I 126 p)) 130 q 0) (by omega) ⟨ch_rfl, fun k => by rw [if_neg (by omega)]⟩
  have key2 : am_T am_C (196, 2, 134, [.ref 107, .int (nI q), .int 2, .int (nI p), .int (I 128 (nI q).toNatClampNeg), .int 0], []) (am_mk kt (am_up (am_up (am_up I 128 (nI q).toNatClampNeg 2) 129 (nI q).toNatClampNeg (am_up I 128 (nI q).toNatClampNeg 2 126 (nI p).toNatClampNeg)) 130 (nI q).toNatClampNeg 0) J T n s) K := by
    rw [nI_clamp (n := q) (by omega), nI_clamp (n := p) (by omega), show am_up I 128 q 2 126 = I 126 from up_off (by omega)]
    exact key
  refine am_wq_T (cut := fun z pc => ((Nat.beq z 196 && Nat.beq pc 61) || (Nat.beq z 196 && Nat.beq pc 134))) (inl := fun z => !((Nat.beq z 121 || Nat.beq z 127))) 120 _ _ _ ?_
  exact And.intro rfl (And.intro ⟨rfl, vq⟩ (And.intro rfl (And.intro ⟨rfl, vq⟩ (And.intro rfl (And.intro (fun _ => And.intro (fun z => absurd rfl z) (fun _ => And.intro rfl (And.intro ⟨rfl, vp⟩ (And.intro ⟨rfl, vq⟩ (And.intro rfl (And.intro (fun _ => And.intro ⟨rfl, vq⟩ key2) (fun z => absurd d21 z))))))) (fun z => absurd d21 z))))))
/-- a slot laid anew, all others as they were -/
theorem slot_new {q : Nat} (hq : q < 5) (h : ∀ r k, ¬ (87 + 4 * q ≤ r ∧ r < 91 + 4 * q) → ¬ (128 ≤ r ∧ r < 132) → rv r k → I' r k = I r k) (h1 : ∀ q', q' ≠ q → I' 128 q' = I 128 q' ∧ I' 129 q' = I 129 q' ∧ I' 130 q' = I 130 q' ∧ ∀ k, k < 24 → I' 131 (24 * q' + k) = I 131 (24 * q' + k)) (hX : sg_Slot I' I' q) (hS : sg_Sim L xs kt I J T n) : sg_Sim L xs kt I' J T n := by
  refine sim_slot (fun r k a p => h r k (by omega) p.2 a) (fun _ _ => rfl) (fun q' hq' => ?_) hS
  by_cases e : q' = q
  · subst e; exact hX
  · obtain ⟨s1, s2, s3, s4, s5⟩ := hS.2.2.2.2.2.1 q' hq'
    obtain ⟨t1, t2, t3, t4⟩ := h1 q' e
    have y : ∀ j k, j < 4 → I' (87 + 4 * q' + j) k = I (87 + 4 * q' + j) k := fun j k hj => h _ _ (by omega) (by omega) (by unfold rv; omega)
    have y0 : ∀ k, I' (87 + 4 * q') k = I (87 + 4 * q') k := fun k => y 0 k (by decide)
    have y1 : ∀ k, I' (88 + 4 * q') k = I (88 + 4 * q') k := fun k => by rw [show 88 + 4 * q' = 87 + 4 * q' + 1 by omega]; exact y 1 k (by decide)
    have y2 : ∀ k, I' (89 + 4 * q') k = I (89 + 4 * q') k := fun k => by rw [show 89 + 4 * q' = 87 + 4 * q' + 2 by omega]; exact y 2 k (by decide)
    have y3 : ∀ k, I' (90 + 4 * q') k = I (90 + 4 * q') k := fun k => by rw [show 90 + 4 * q' = 87 + 4 * q' + 3 by omega]; exact y 3 k (by decide)
    refine ⟨?_, ?_, fun z => ?_, fun z => ?_, fun z => ?_⟩
    · rw [y0, t1]; exact s1
    · rw [t1]; exact s2
    · rw [t1] at z
      rw [y1, y1, y1, y1, t2, t3]
      exact s3 z
    · rw [t1] at z
      obtain ⟨size, z1, z2, z3, z4⟩ := s4 z
      refine ⟨size, z1, ?_, ?_, fun k hk => ?_⟩
      · rw [y2]; exact z2
      · rw [t2]; exact z3
      · rw [y3, t4 k hk]; exact z4 k hk
    · rw [t1] at z
      rw [y0, t2]
      exact s5 z
end T82
section T82b
variable {kt : Nat → Nat × Nat} {I I' : Nat → Nat → Int32} {J J' : Nat → Nat → Int64} {T T' : Nat → Nat → Nat} {n s : Nat} {L : Nat} {xs : Nat → Int32} {K : Option Value → am_M → Prop} {N N' S : Nat → Int32} {hc wc tc h w q size : Nat}
theorem L_lay (x k y : Int32) : sg_Call (96, 2, 0, [.ref 20, .int x, .int k, .int y, .null, .null, .null, .null], []) (196, 2, 0, [.ref 107, .int x, .int k, .int y, .null, .null], []) := by
  intro L xs kt I J T n s K hS hK
  have h13 := hS.1.2.2.2.1
  obtain ⟨hc, wc, tc, hR, hB⟩ := hS.2.1
  have h10 := hR.1
  rcases rng x 0 4 with ⟨a0, a1⟩ | a0 | ⟨a0, a1⟩
  · obtain ⟨q, hq3, rfl⟩ := in_of (m := 4) (by decide) a0 a1
    have hq : q < 5 := by omega
    have v5 : vp_in (nI q) 5 := vpl hq (by decide)
    have cq : (nI q).toNatClampNeg = q := nI_clamp (by omega)
    have hnz : ¬ 87 + 4 * q = 0 := by omega
    have er2 : ∀ (I : Nat → Nat → Int32), am_R (am_k kt, I, J, am_r T, n, s) (87 + 4 * q) 2 = 88 + 4 * q := fun I => rT2 hq
    have er3 : ∀ (I : Nat → Nat → Int32), am_R (am_k kt, I, J, am_r T, n, s) (87 + 4 * q) 3 = 89 + 4 * q := fun I => rT3 hq
    obtain ⟨s1, s2, -⟩ := hS.2.2.2.2.2.1 q hq
    rcases rng k 0 3 with ⟨b0, b1⟩ | b0 | ⟨b0, b1⟩
    · have hk : sg_in k 0 3 := by unfold sg_in; clear hK hS hR hB er2 er3; (simp only [Int32.lt_iff_toInt_lt, Int32.le_iff_toInt_le, gt_iff_lt, ge_iff_le, ← Int32.toInt_inj, Int32.reduceToInt, Int32.reduceMul, Int32.reduceAdd, Int32.reduceSub, ne_eq, true_and, and_true, false_and, and_false, not_true_eq_false, not_false_eq_true, true_or, or_true, false_or, or_false] at *; omega)
      by_cases k1 : k = 1
      · subst k1
        have d12 : ¬ (1 : Int32) = 2 := by decide
        rcases hole_cases hR y with ⟨h, hh, hh10, rfl, c0, c1, c2, hv⟩ | c0 | ⟨c0, c1, c2⟩
        · have hz : ¬ 27 + h = 0 := by omega
          have cell : ∀ k, k < 5 → I (27 + h) k = I 108 (21 + 5 * h + k) := hR.2.2.2.2.2.2.2.2.2.1 h hh
          have hM : ∀ I2, ch (fun r => r = 88 + 4 * q) (am_up (am_up I (87 + 4 * q) 0 1) (87 + 4 * q) 1 (nI h)) I2 → (∀ k, k < 5 → I2 (88 + 4 * q) k = am_up (am_up I (87 + 4 * q) 0 1) (87 + 4 * q) 1 (nI h) (27 + h) k) → sg_Mid L xs I n s (196, 2, 0, [.ref 107, .int (nI q), .int 1, .int (nI h), .null, .null], []) (I (87 + 4 * q) 0) kt I2 J T n s := fun I2 e1 e2 => by
            have off : ∀ r k, ¬ (r = 87 + 4 * q ∧ (k = 0 ∨ k = 1)) → r ≠ 88 + 4 * q → I2 r k = I r k := fun r k h1 h2 => by
              rw [e1 r h2, up_ne (by omega), up_ne (by omega)]
            have row : ∀ r, r ≠ 87 + 4 * q → r ≠ 88 + 4 * q → I2 r = I r := fun r h1 h2 => funext fun k => off r k (by omega) h2
            have hol : ∀ k, k < 5 → I2 (88 + 4 * q) k = I 108 (21 + 5 * h + k) := fun k hk => by
              rw [e2 k hk, up_ne (by omega), up_ne (by omega)]
              exact cell k hk
            have hN2 : I2 108 = I 108 := row 108 (by omega) (by omega)
            have r0 : I2 (87 + 4 * q) 0 = 1 := by rw [e1 _ (by omega), up_ne (by omega), up_eq]
            refine ⟨h13, row 13 (by omega) (by omega), ?_⟩
            refine am_wq_T (cut := fun z pc => (Nat.beq z 196 && Nat.beq pc 61)) (inl := fun z => !((Nat.beq z 190 || (Nat.beq z 113 || (Nat.beq z 117 || Nat.beq z 189))))) 120 _ _ _ ?_
            refine m_isSlot_y a0 a1 (And.intro (fun z => absurd z m1z) (fun _ => m_in_y b0 b1 (And.intro (fun z => absurd z m1z) (fun _ => And.intro (fun z => absurd rfl z) (fun _ => And.intro rfl (m_isHole_y c0 (by rw [hN2]; exact c2) (And.intro (fun z => absurd z m1z) (fun _ => And.intro (fun _ => And.intro (fun _ => ?_) (fun z => absurd d12 z)) (fun z => absurd d12 z)))))))))
            refine m_lay_1 (N := I 108) hq (by omega) hN2 rfl ?_
            refine End_of (by rw [row 128 (by omega) (by omega), s1]) (slot_new hq (fun r k p1 p2 _ => ?_) (fun q' hq' => ?_) ?_ hS)
            · rw [up_ne (by omega), up_ne (by omega), up_ne (by omega), off r k (by omega) (by omega)]
            · refine ⟨?_, ?_, ?_, fun k hk => ?_⟩
              · rw [up_ne (by omega), up_ne (by omega), up_ne (by omega), row 128 (by omega) (by omega)]
              · rw [up_ne (by omega), up_ne (by omega), up_ne (by omega), row 129 (by omega) (by omega)]
              · rw [up_ne (by omega), up_ne (by omega), up_ne (by omega), row 130 (by omega) (by omega)]
              · rw [up_ne (by omega), up_ne (by omega), up_ne (by omega), row 131 (by omega) (by omega)]
            · obtain ⟨I3, e3⟩ : ∃ I3, I3 = am_up (am_up (am_up I2 128 q 1) 129 q (I 108 (21 + 5 * h + 0))) 130 q (sg_worth (I 108 (21 + 5 * h)) (I 108 (21 + 5 * h + 1)) (I 108 (21 + 5 * h + 2)) (I 108 (21 + 5 * h + 3))) := ⟨_, rfl⟩
              have z128 : I3 128 q = 1 := by rw [e3, up_ne (by omega), up_ne (by omega), up_eq]
              have z129 : I3 129 q = I 108 (21 + 5 * h + 0) := by rw [e3, up_ne (by omega), up_eq]
              have z130 : I3 130 q = sg_worth (I 108 (21 + 5 * h)) (I 108 (21 + 5 * h + 1)) (I 108 (21 + 5 * h + 2)) (I 108 (21 + 5 * h + 3)) := by rw [e3, up_eq]
              have zr : ∀ r, r < 107 → I3 r = I2 r := fun r hr => by rw [e3, up_off (by omega), up_off (by omega), up_off (by omega)]
              rw [← e3]
              refine ⟨?_, ?_, fun _ => ⟨?_, ?_, ?_⟩, fun z => ?_, fun z => ?_⟩
              · rw [zr _ (by omega), r0, z128]
              · rw [z128]; unfold sg_in; decide
              · rw [zr _ (by omega), z129]; exact hol 0 (by decide)
              · rw [z129]; exact (hB.1 h hh).1
              · rw [zr (88 + 4 * q) (by omega), z130, hol 0 (by decide), hol 1 (by decide), hol 2 (by decide), hol 3 (by decide)]; rfl
              · rw [z128] at z; exact absurd z (by decide)
              · rw [z128] at z; exact absurd z (by decide)
          have key := fun I2 e1 e2 => hK _ _ _ _ _ _ _ (hM I2 e1 e2)
          refine am_wq_T (cut := fun _ _ => false) (inl := fun z => !((Nat.beq z 111 || (Nat.beq z 105 || (Nat.beq z 15 || (Nat.beq z 110 || (Nat.beq z 8 || Nat.beq z 35))))))) 120 _ _ _ ?_
          refine And.intro rfl (c_slotAt_y hq a0 a1 (And.intro (fun z => absurd z hnz) (fun _ => c_within_y b0 b1 (And.intro (fun _ => And.intro rfl (And.intro rfl (c_find_y c0 c1 hh10 hv (And.intro rfl (c_sheetAt_any fun ra => ?_))))) (fun z => absurd m1z z)))))
          refine And.intro (fun z => absurd rfl z) (fun _ => And.intro (fun z => absurd z hz) (fun _ => And.intro (fun _ => And.intro (fun _ => ?_) (fun z => absurd d12 z)) (fun z => absurd d12 z)))
          refine And.intro (kT hq) (And.intro (kT hq) (And.intro (kT hq) (And.intro (fun z => absurd rfl z) (fun _ => And.intro (fun z => absurd z hz) (fun _ => And.intro (kT hq) ?_)))))
          rw [er2]
          refine And.intro (kT1 hq) (c_hbecome (by omega) (kT1 hq) (kL21 hh10) fun I2 e1 e2 => ?_)
          exact And.intro (fun _ => key I2 e1 e2) (fun z => absurd d12 z)
        all_goals
          have hM : sg_Mid L xs I n s (196, 2, 0, [.ref 107, .int (nI q), .int 1, .int y, .null, .null], []) (-1000000001) kt I J T n s := by
            refine ⟨h13, rfl, ?_⟩
            refine am_wq_T (cut := fun z pc => (Nat.beq z 196 && Nat.beq pc 61)) (inl := fun z => !((Nat.beq z 190 || (Nat.beq z 113 || (Nat.beq z 117 || Nat.beq z 189))))) 120 _ _ _ ?_
            refine m_isSlot_y a0 a1 (And.intro (fun z => absurd z m1z) (fun _ => m_in_y b0 b1 (And.intro (fun z => absurd z m1z) (fun _ => And.intro (fun z => absurd rfl z) (fun _ => And.intro rfl ?_)))))
            first | exact m_isHole_n0 c0 (And.intro (fun _ => End_of rfl hS) (fun z => absurd rfl z)) | exact m_isHole_n1 c0 c2 (And.intro (fun _ => End_of rfl hS) (fun z => absurd rfl z))
          have key := hK _ _ _ _ _ _ _ hM
          refine am_wq_T (cut := fun _ _ => false) (inl := fun z => !((Nat.beq z 111 || (Nat.beq z 105 || (Nat.beq z 15 || (Nat.beq z 110 || (Nat.beq z 8 || Nat.beq z 35))))))) 120 _ _ _ ?_
          refine And.intro rfl (c_slotAt_y hq a0 a1 (And.intro (fun z => absurd z hnz) (fun _ => c_within_y b0 b1 (And.intro (fun _ => And.intro rfl (And.intro rfl ?_)) (fun z => absurd m1z z)))))
          first | exact c_find_n0 c0 (And.intro rfl (c_sheetAt_any fun ra => And.intro (fun z => absurd rfl z) (fun _ => And.intro (fun _ => key) (fun z => absurd rfl z)))) | exact c_find_n1 c0 c1 (And.intro rfl (c_sheetAt_any fun ra => And.intro (fun z => absurd rfl z) (fun _ => And.intro (fun _ => key) (fun z => absurd rfl z))))
      · by_cases k2 : k = 2
        · subst k2
          rcases rng y 0 3 with ⟨c0, c1⟩ | c0 | ⟨c0, c1⟩
          · obtain ⟨p, hp3, rfl⟩ := in_of (m := 3) (by decide) c0 c1
            have hp : p < 4 := by omega
            have hpz : ¬ 79 + 2 * p = 0 := by omega
            have vp4 : vp_in (nI p) 4 := vpl hp (by decide)
            have cp : (nI p).toNatClampNeg = p := nI_clamp (by omega)
            obtain ⟨size, hz, p1, p2, p3, p4, p5⟩ := hS.2.2.2.2.1 p hp
            by_cases km : I 125 p = -1
            · have g1 : I (79 + 2 * p) 0 = -1 := p1.trans km
              have g2 : ¬ 0 ≤ I 125 (nI p).toNatClampNeg := by rw [cp, km]; decide
              have hM : sg_Mid L xs I n s (196, 2, 0, [.ref 107, .int (nI q), .int 2, .int (nI p), .null, .null], []) (-1000000011) kt I J T n s := by
                refine ⟨h13, rfl, ?_⟩
                refine am_wq_T (cut := fun z pc => (Nat.beq z 196 && Nat.beq pc 61)) (inl := fun z => !((Nat.beq z 190 || (Nat.beq z 113 || (Nat.beq z 117 || Nat.beq z 189))))) 120 _ _ _ ?_
                exact m_isSlot_y a0 a1 (And.intro (fun z => absurd z m1z) (fun _ => m_in_y b0 b1 (And.intro (fun z => absurd z m1z) (fun _ => And.intro (fun _ => And.intro (fun z => absurd rfl z) (fun _ => m_isSheet_y c0 c1 (And.intro (fun _ => And.intro (fun z => absurd rfl z) (fun _ => And.intro rfl (And.intro ⟨rfl, vp4⟩ (And.intro (fun z => absurd z g2) (fun _ => End_of rfl hS))))) (fun z => absurd m1z z)))) (fun z => absurd k1 z)))))
              have key := hK _ _ _ _ _ _ _ hM
              refine am_wq_T (cut := fun _ _ => false) (inl := fun z => !((Nat.beq z 111 || (Nat.beq z 105 || (Nat.beq z 15 || (Nat.beq z 110 || (Nat.beq z 8 || Nat.beq z 35))))))) 120 _ _ _ ?_
              exact And.intro rfl (c_slotAt_y hq a0 a1 (And.intro (fun z => absurd z hnz) (fun _ => c_within_y b0 b1 (And.intro (fun _ => And.intro rfl (And.intro rfl (c_find_any hR fun ra => And.intro rfl (c_sheetAt_y hp c0 c1 (And.intro (fun _ => And.intro (fun z => absurd rfl z) (fun _ => And.intro (fun z => absurd z hpz) (fun _ => And.intro (fun z => absurd rfl z) (fun _ => And.intro (fun z => absurd z hpz) (fun _ => And.intro (kS hp) (And.intro (fun z => absurd g1 z) (fun _ => key))))))) (fun z => absurd k1 z)))))) (fun z => absurd m1z z)))))
            · have g1 : ¬ I (79 + 2 * p) 0 = -1 := by rw [p1]; exact km
              have kp : 0 ≤ I 125 p := by rcases kind3 p2 with e | e | e; exact absurd e km; all_goals rw [e]; decide
              have hM : ∀ I2, ch (fun r => r = 89 + 4 * q ∨ r = 90 + 4 * q) (am_up (am_up I (87 + 4 * q) 0 2) (87 + 4 * q) 1 (nI p)) I2 → I2 (89 + 4 * q) 1 = am_up (am_up I (87 + 4 * q) 0 2) (87 + 4 * q) 1 (nI p) (79 + 2 * p) 1 → (∀ k, k < 24 → I2 (90 + 4 * q) k = am_up (am_up I (87 + 4 * q) 0 2) (87 + 4 * q) 1 (nI p) (80 + 2 * p) k) → sg_Mid L xs I n s (196, 2, 0, [.ref 107, .int (nI q), .int 2, .int (nI p), .null, .null], []) (I (87 + 4 * q) 0) kt I2 J T n s := fun I2 e1 e2 e3 => by
                have off : ∀ r k, ¬ (r = 87 + 4 * q ∧ (k = 0 ∨ k = 1)) → ¬ (r = 89 + 4 * q ∨ r = 90 + 4 * q) → I2 r k = I r k := fun r k h1 h2 => by
                  rw [e1 r h2, up_ne (by omega), up_ne (by omega)]
                have row : ∀ r, r ≠ 87 + 4 * q → ¬ (r = 89 + 4 * q ∨ r = 90 + 4 * q) → I2 r = I r := fun r h1 h2 => funext fun k => off r k (by omega) h2
                have r0 : I2 (87 + 4 * q) 0 = 2 := by rw [e1 _ (by omega), up_ne (by omega), up_eq]
                have r1 : I2 (89 + 4 * q) 1 = nI size := by rw [e2, up_ne (by omega), up_ne (by omega)]; exact p3
                have r2 : ∀ k, k < 24 → I2 (90 + 4 * q) k = I 127 (24 * p + k) := fun k hk => by rw [e3 k hk, up_ne (by omega), up_ne (by omega)]; exact (p5 k hk).1
                have x125 : I2 125 = I 125 := row 125 (by omega) (by omega)
                have x126 : I2 126 = I 126 := row 126 (by omega) (by omega)
                have x127 : I2 127 = I 127 := row 127 (by omega) (by omega)
                have g2 : 0 ≤ I2 125 (nI p).toNatClampNeg := by rw [cp, x125]; exact kp
                refine ⟨h13, row 13 (by omega) (by omega), ?_⟩
                refine am_wq_T (cut := fun z pc => (Nat.beq z 196 && Nat.beq pc 61)) (inl := fun z => !((Nat.beq z 190 || (Nat.beq z 113 || (Nat.beq z 117 || Nat.beq z 189))))) 120 _ _ _ ?_
                refine m_isSlot_y a0 a1 (And.intro (fun z => absurd z m1z) (fun _ => m_in_y b0 b1 (And.intro (fun z => absurd z m1z) (fun _ => And.intro (fun _ => And.intro (fun z => absurd rfl z) (fun _ => m_isSheet_y c0 c1 (And.intro (fun _ => And.intro (fun z => absurd rfl z) (fun _ => And.intro rfl (And.intro ⟨rfl, vp4⟩ (And.intro (fun _ => ?_) (fun z => absurd g2 z))))) (fun z => absurd m1z z)))) (fun z => absurd k1 z)))))
                refine m_lay_2 hq hp fun I3 hI => ?_
                have z128 : I3 128 = upN (I 128) q 2 := by rw [hI.1 128 (by omega), up_off (by omega), up_off (by omega), up_row, row 128 (by omega) (by omega)]
                have z129 : I3 129 = upN (I 129) q (nI size) := by rw [hI.1 129 (by omega), up_off (by omega), up_row, up_off (by omega), row 129 (by omega) (by omega), x126, p4]
                have z130 : I3 130 = upN (I 130) q 0 := by rw [hI.1 130 (by omega), up_row, up_off (by omega), up_off (by omega), row 130 (by omega) (by omega)]
                have zr : ∀ r, r ≠ 128 → r ≠ 129 → r ≠ 130 → r ≠ 131 → I3 r = I2 r := fun r h1 h2 h3 h4 => by rw [hI.1 r h4, up_off h3, up_off h2, up_off h1]
                have z131 : ∀ k, I3 131 k = if 24 * q ≤ k ∧ k < 24 * q + 24 then I 127 (24 * p + (k - 24 * q)) else I 131 k := fun k => by
                  rw [hI.2 k, up_off (by omega), up_off (by omega), up_off (by omega), up_off (by omega), up_off (by omega), up_off (by omega), x127, row 131 (by omega) (by omega)]
                refine End_of (by rw [row 128 (by omega) (by omega), s1]) (slot_new hq (fun r k g1 g2 _ => ?_) (fun q' hq' => ?_) ?_ hS)
                · rw [zr r (by omega) (by omega) (by omega) (by omega), off r k (by omega) (by omega)]
                · refine ⟨?_, ?_, ?_, fun k hk => ?_⟩
                  · rw [z128, upN_ne hq']
                  · rw [z129, upN_ne hq']
                  · rw [z130, upN_ne hq']
                  · rw [z131, if_neg (by omega)]
                · have y128 : I3 128 q = 2 := by rw [z128, upN_eq]
                  refine ⟨?_, ?_, fun z => ?_, fun _ => ⟨size, hz, ?_, ?_, fun k hk => ?_⟩, fun z => ?_⟩
                  · rw [zr _ (by omega) (by omega) (by omega) (by omega), r0, y128]
                  · rw [y128]; unfold sg_in; decide
                  · rw [y128] at z; exact absurd z (by decide)
                  · rw [zr _ (by omega) (by omega) (by omega) (by omega)]; exact r1
                  · rw [z129, upN_eq]
                  · rw [zr _ (by omega) (by omega) (by omega) (by omega), r2 k hk, z131, if_pos (by omega), Nat.add_sub_cancel_left]
                    exact ⟨rfl, (p5 k hk).2⟩
                  · rw [y128] at z; exact absurd z (by decide)
              have key := fun I2 e1 e2 e3 => hK _ _ _ _ _ _ _ (hM I2 e1 e2 e3)
              refine am_wq_T (cut := fun _ _ => false) (inl := fun z => !((Nat.beq z 111 || (Nat.beq z 105 || (Nat.beq z 15 || (Nat.beq z 110 || (Nat.beq z 8 || Nat.beq z 35))))))) 120 _ _ _ ?_
              refine And.intro rfl (c_slotAt_y hq a0 a1 (And.intro (fun z => absurd z hnz) (fun _ => c_within_y b0 b1 (And.intro (fun _ => And.intro rfl (And.intro rfl (c_find_any hR fun ra => And.intro rfl (c_sheetAt_y hp c0 c1 ?_)))) (fun z => absurd m1z z)))))
              refine And.intro (fun _ => And.intro (fun z => absurd rfl z) (fun _ => And.intro (fun z => absurd z hpz) (fun _ => And.intro (fun z => absurd rfl z) (fun _ => And.intro (fun z => absurd z hpz) (fun _ => And.intro (kS hp) (And.intro (fun _ => ?_) (fun z => absurd g1 z))))))) (fun z => absurd k1 z)
              refine And.intro (kT hq) (And.intro (kT hq) (And.intro (kT hq) (And.intro (fun _ => And.intro (fun z => absurd rfl z) (fun _ => And.intro (fun z => absurd z hpz) (fun _ => And.intro (kT hq) ?_))) (fun z => absurd k1 z))))
              rw [er3]
              refine And.intro (kT2 hq) (c_sbecome (kT2 hq) (kS hp) (kT3 hq) (kS2 hp) (rT4 (I := I) (J := J) (n := n) (s := s) (kt := kt) hq) (rS2 (I := I) (J := J) (n := n) (s := s) (kt := kt) hp) (by omega) (by omega) (by omega) (by omega) fun I2 e1 e0 e2 e3 => ?_)
              exact key I2 e1 e2 e3
          all_goals
            have hM : sg_Mid L xs I n s (196, 2, 0, [.ref 107, .int (nI q), .int 2, .int y, .null, .null], []) (-1000000001) kt I J T n s := by
              refine ⟨h13, rfl, ?_⟩
              refine am_wq_T (cut := fun z pc => (Nat.beq z 196 && Nat.beq pc 61)) (inl := fun z => !((Nat.beq z 190 || (Nat.beq z 113 || (Nat.beq z 117 || Nat.beq z 189))))) 120 _ _ _ ?_
              refine m_isSlot_y a0 a1 (And.intro (fun z => absurd z m1z) (fun _ => m_in_y b0 b1 (And.intro (fun z => absurd z m1z) (fun _ => And.intro (fun _ => And.intro (fun z => absurd rfl z) (fun _ => ?_)) (fun z => absurd k1 z)))))
              first | exact m_isSheet_n0 c0 (And.intro (fun z => absurd rfl z) (fun _ => End_of rfl hS)) | exact m_isSheet_n1 c0 c1 (And.intro (fun z => absurd rfl z) (fun _ => End_of rfl hS))
            have key := hK _ _ _ _ _ _ _ hM
            refine am_wq_T (cut := fun _ _ => false) (inl := fun z => !((Nat.beq z 111 || (Nat.beq z 105 || (Nat.beq z 15 || (Nat.beq z 110 || (Nat.beq z 8 || Nat.beq z 35))))))) 120 _ _ _ ?_
            refine And.intro rfl (c_slotAt_y hq a0 a1 (And.intro (fun z => absurd z hnz) (fun _ => c_within_y b0 b1 (And.intro (fun _ => And.intro rfl (And.intro rfl (c_find_any hR fun ra => And.intro rfl ?_))) (fun z => absurd m1z z)))))
            first | exact c_sheetAt_n0 c0 (And.intro (fun _ => And.intro (fun z => absurd rfl z) (fun _ => And.intro (fun _ => key) (fun z => absurd rfl z))) (fun z => absurd k1 z)) | exact c_sheetAt_n1 c0 c1 (And.intro (fun _ => And.intro (fun z => absurd rfl z) (fun _ => And.intro (fun _ => key) (fun z => absurd rfl z))) (fun z => absurd k1 z))
        · have k03 : k = 0 ∨ k = 3 := by
            rcases kind4 hk with e | e | e | e
            · exact .inl e
            · exact absurd e k1
            · exact absurd e k2
            · exact .inr e
          have hM : sg_Mid L xs I n s (196, 2, 0, [.ref 107, .int (nI q), .int k, .int y, .null, .null], []) (I (87 + 4 * q) 0) kt (am_up (am_up I (87 + 4 * q) 0 k) (87 + 4 * q) 1 y) J T n s := by
            obtain ⟨I2, e2⟩ : ∃ I2, I2 = am_up (am_up I (87 + 4 * q) 0 k) (87 + 4 * q) 1 y := ⟨_, rfl⟩
            have off : ∀ r k, ¬ (r = 87 + 4 * q ∧ (k = 0 ∨ k = 1)) → I2 r k = I r k := fun r k h1 => by
              rw [e2, up_ne (by omega), up_ne (by omega)]
            have row : ∀ r, r ≠ 87 + 4 * q → I2 r = I r := fun r h1 => funext fun k => off r k (by omega)
            have r0 : I2 (87 + 4 * q) 0 = k := by rw [e2, up_ne (by omega), up_eq]
            have r1 : I2 (87 + 4 * q) 1 = y := by rw [e2, up_eq]
            rw [← e2]
            refine ⟨h13, row 13 (by omega), ?_⟩
            refine am_wq_T (cut := fun z pc => (Nat.beq z 196 && Nat.beq pc 61)) (inl := fun z => !((Nat.beq z 190 || (Nat.beq z 113 || (Nat.beq z 117 || Nat.beq z 189))))) 120 _ _ _ ?_
            refine m_isSlot_y a0 a1 (And.intro (fun z => absurd z m1z) (fun _ => m_in_y b0 b1 (And.intro (fun z => absurd z m1z) (fun _ => And.intro (fun _ => And.intro (fun _ => And.intro (fun _ => ?_) (fun z => absurd k2 z)) (fun z => absurd k2 z)) (fun z => absurd k1 z)))))
            refine m_lay_03 hq k1 k2 ?_
            refine End_of (by rw [row 128 (by omega), s1]) (slot_new hq (fun r k p1 p2 _ => ?_) (fun q' hq' => ?_) ?_ hS)
            · rw [up_ne (by omega), up_ne (by omega), up_ne (by omega), off r k (by omega)]
            · refine ⟨?_, ?_, ?_, fun k hk => ?_⟩
              · rw [up_ne (by omega), up_ne (by omega), up_ne (by omega), row 128 (by omega)]
              · rw [up_ne (by omega), up_ne (by omega), up_ne (by omega), row 129 (by omega)]
              · rw [up_ne (by omega), up_ne (by omega), up_ne (by omega), row 130 (by omega)]
              · rw [up_ne (by omega), up_ne (by omega), up_ne (by omega), row 131 (by omega)]
            · obtain ⟨I3, e3⟩ : ∃ I3, I3 = am_up (am_up (am_up I2 128 q k) 129 q y) 130 q 0 := ⟨_, rfl⟩
              have z128 : I3 128 q = k := by rw [e3, up_ne (by omega), up_ne (by omega), up_eq]
              have z129 : I3 129 q = y := by rw [e3, up_ne (by omega), up_eq]
              have zr : ∀ r, r < 107 → I3 r = I2 r := fun r hr => by rw [e3, up_off (by omega), up_off (by omega), up_off (by omega)]
              rw [← e3]
              refine ⟨?_, ?_, fun z => ?_, fun z => ?_, fun z => ?_⟩
              · rw [zr _ (by omega), r0, z128]
              · rw [z128]; exact hk
              · rw [z128] at z; exact absurd z k1
              · rw [z128] at z; exact absurd z k2
              · rw [zr _ (by omega), r1, z129]
          have key := hK _ _ _ _ _ _ _ hM
          refine am_wq_T (cut := fun _ _ => false) (inl := fun z => !((Nat.beq z 111 || (Nat.beq z 105 || (Nat.beq z 15 || (Nat.beq z 110 || (Nat.beq z 8 || Nat.beq z 35))))))) 120 _ _ _ ?_
          refine And.intro rfl (c_slotAt_y hq a0 a1 (And.intro (fun z => absurd z hnz) (fun _ => c_within_y b0 b1 (And.intro (fun _ => And.intro rfl (And.intro rfl (c_find_any hR fun ra => And.intro rfl (c_sheetAt_any fun rb => ?_)))) (fun z => absurd m1z z)))))
          refine And.intro (fun _ => And.intro (fun _ => And.intro (fun _ => ?_) (fun z => absurd k2 z)) (fun z => absurd k2 z)) (fun z => absurd k1 z)
          exact And.intro (kT hq) (And.intro (kT hq) (And.intro (kT hq) (And.intro (fun _ => And.intro (fun _ => key) (fun z => absurd k2 z)) (fun z => absurd k1 z))))
    all_goals
      have hM : sg_Mid L xs I n s (196, 2, 0, [.ref 107, .int (nI q), .int k, .int y, .null, .null], []) (-1000000001) kt I J T n s := by
        refine ⟨h13, rfl, ?_⟩
        refine am_wq_T (cut := fun z pc => (Nat.beq z 196 && Nat.beq pc 61)) (inl := fun z => !((Nat.beq z 190 || (Nat.beq z 113 || (Nat.beq z 117 || Nat.beq z 189))))) 120 _ _ _ ?_
        refine m_isSlot_y a0 a1 (And.intro (fun z => absurd z m1z) (fun _ => ?_))
        first | exact m_in_n0 b0 (And.intro (fun _ => End_of rfl hS) (fun z => absurd rfl z)) | exact m_in_n1 b0 b1 (And.intro (fun _ => End_of rfl hS) (fun z => absurd rfl z))
      have key := hK _ _ _ _ _ _ _ hM
      refine am_wq_T (cut := fun _ _ => false) (inl := fun z => !((Nat.beq z 111 || (Nat.beq z 105 || (Nat.beq z 15 || (Nat.beq z 110 || (Nat.beq z 8 || Nat.beq z 35))))))) 120 _ _ _ ?_
      refine And.intro rfl (c_slotAt_y hq a0 a1 (And.intro (fun z => absurd z hnz) (fun _ => ?_)))
      first | exact c_within_n0 b0 (And.intro (fun z => absurd rfl z) (fun _ => key)) | exact c_within_n1 b0 b1 (And.intro (fun z => absurd rfl z) (fun _ => key))
  all_goals
    have hM : sg_Mid L xs I n s (196, 2, 0, [.ref 107, .int x, .int k, .int y, .null, .null], []) (-1000000001) kt I J T n s := by
      refine ⟨h13, rfl, ?_⟩
      refine am_wq_T (cut := fun z pc => (Nat.beq z 196 && Nat.beq pc 61)) (inl := fun z => !((Nat.beq z 190 || (Nat.beq z 113 || (Nat.beq z 117 || Nat.beq z 189))))) 120 _ _ _ ?_
      first | exact m_isSlot_n0 a0 (And.intro (fun _ => End_of rfl hS) (fun z => absurd rfl z)) | exact m_isSlot_n1 a0 a1 (And.intro (fun _ => End_of rfl hS) (fun z => absurd rfl z))
    have key := hK _ _ _ _ _ _ _ hM
    refine am_wq_T (cut := fun _ _ => false) (inl := fun z => !((Nat.beq z 111 || (Nat.beq z 105 || (Nat.beq z 15 || (Nat.beq z 110 || (Nat.beq z 8 || Nat.beq z 35))))))) 120 _ _ _ ?_
    first | exact And.intro rfl (c_slotAt_n0 a0 (And.intro (fun _ => key) (fun z => absurd rfl z))) | exact And.intro rfl (c_slotAt_n1 a0 a1 (And.intro (fun _ => key) (fun z => absurd rfl z)))
end T82b
