/-! dig -/
section T76
variable {kt : Nat → Nat × Nat} {I I' : Nat → Nat → Int32} {J J' : Nat → Nat → Int64} {T T' : Nat → Nat → Nat} {n s : Nat} {L : Nat} {xs : Nat → Int32} {K : Option Value → am_M → Prop} {N N' : Nat → Int32} {hc wc tc h w : Nat}
theorem earth_in {sp r : Int32} (hs : sg_in sp 1 99) (hr : sg_in r 50 200) : ∃ k : Nat, k ≤ 198 ∧ sp * r / 100 = nI k := by
  obtain ⟨a, ha, rfl⟩ := in_nI (m := 99) (x := sp) ⟨by have := hs.1; omega, hs.2⟩ (by decide)
  obtain ⟨b, hb, rfl⟩ := in_nI (m := 200) (x := r) ⟨by have := hr.1; omega, hr.2⟩ (by decide)
  have hm : a * b ≤ 99 * 200 := Nat.mul_le_mul ha hb
  refine ⟨a * b / 100, by omega, ?_⟩
  rw [pk_mul, show (100 : Int32) = nI 100 from rfl, pk_div (by omega) (by decide) (by decide)]
theorem c_dt1 {p sp ow e hv : Int32} {r x : Nat} (hr : r < 10) (hcn : I 21 1 = nI hc) (h10 : hc ≤ 10) (hK : K (some (.int (nI r))) (am_mk kt (if r = hc then am_up (cl5 I (27 + r) 0 p sp ow) 21 1 (nI (hc + 1)) else cl5 I (27 + r) 0 p sp ow) J T n s)) : am_T am_C (72, 4, 125, [.ref 20, .int p, .int sp, .int hv, .int ow, .ref x, .int e, .int (nI r)], []) (am_mk kt I J T n s) K := by
  have vr : vp_in (nI r) 10 := vpl hr (by decide)
  refine am_wq_T (cut := fun z pc => (Nat.beq z 72 && Nat.beq pc 125)) (inl := fun z => !((Nat.beq z 16 || Nat.beq z 7))) 120 _ _ _ ?_
  refine And.intro rfl (And.intro rfl (And.intro (fun q => ?_) (fun q => ?_)))
  · have n1 : ¬ r = hc := fun z => q ((congrArg nI z).trans hcn.symm)
    rw [if_neg n1] at hK
    have er : am_R (am_k kt, I, J, am_r T, n, s) (am_R (am_k kt, I, J, am_r T, n, s) (am_R (am_k kt, I, J, am_r T, n, s) 20 0) 0) (nI r).toNatClampNeg = 27 + r := rL21 hr
    refine And.intro rfl (And.intro rfl (And.intro ⟨rfl, vr⟩ ?_))
    rw [er]
    exact And.intro (kL21 hr) (c_start (kL21 hr) hK)
  · have n0 : nI r = nI hc := (Decidable.not_not.mp q).trans hcn
    have n1 : r = hc := (nI_eq (by omega) (by omega)).mp n0
    subst n1
    rw [if_pos rfl] at hK
    exact And.intro rfl (And.intro rfl (c_open hcn hr hK))
theorem c_dt0 {p sp ow e hv : Int32} {r : Nat} (hh : h < 10) (hr : r < 10) (hK : am_T am_C (72, 4, 125, [.ref 20, .int p, .int sp, .int hv, .int ow, .ref (27 + h), .int e, .int (nI r)], []) (am_mk kt (dgI I h e sp) J T n s) K) : am_T am_C (72, 4, 85, [.ref 20, .int p, .int sp, .int hv, .int ow, .ref (27 + h), .int e, .int (nI r)], []) (am_mk kt I J T n s) K := by
  have c0 : ¬ nI r < 0 := nI_nlt (a := r) (b := 0) (by omega) (by omega)
  have c1 : nI r < 10 := nI_lt (b := 10) hr (by decide)
  have hK2 : am_T am_C (72, 4, 125, [.ref 20, .int p, .int sp, .int hv, .int ow, .ref (27 + h), .int e, .int (nI r)], []) (am_mk kt (am_up (am_up I (27 + h) 2 (I (27 + h) 2 - e)) 21 11 (am_up I (27 + h) 2 (I (27 + h) 2 - e) 21 11 + sp)) J T n s) K := by
    rw [show am_up I (27 + h) 2 (I (27 + h) 2 - e) 21 11 = I 21 11 from up_ne (by omega)]
    exact hK
  refine am_wq_T (cut := fun z pc => ((Nat.beq z 72 && Nat.beq pc 85) || (Nat.beq z 72 && Nat.beq pc 125))) (inl := fun _ => false) 120 _ _ _ ?_
  refine And.intro (fun q => absurd q c0) (fun _ => And.intro (fun _ => ?_) (fun q => absurd c1 q))
  exact And.intro (kL21 hh) (And.intro (kL21 hh) (And.intro rfl (And.intro rfl (And.intro rfl hK2))))
end T76
section T76b
variable {kt : Nat → Nat × Nat} {I I' : Nat → Nat → Int32} {J J' : Nat → Nat → Int64} {T T' : Nat → Nat → Nat} {n s : Nat} {L : Nat} {xs : Nat → Int32} {K : Option Value → am_M → Prop} {N N' : Nat → Int32} {hc wc tc h w : Nat}
theorem fst_of (P : Nat → Prop) : ∀ m, (∃ r, r < m ∧ P r ∧ ∀ i, i < r → ¬ P i) ∨ ∀ i, i < m → ¬ P i
  | 0 => .inr fun i hi => absurd hi (Nat.not_lt_zero i)
  | m + 1 => by
    rcases fst_of P m with ⟨r, h1, h2, h3⟩ | h
    · exact .inl ⟨r, by omega, h2, h3⟩
    · rcases Classical.em (P m) with q | q
      · exact .inl ⟨m, by omega, q, h⟩
      · refine .inr fun i hi => ?_
        rcases Nat.lt_or_ge i m with c | c
        · exact h i c
        · rw [show i = m by omega]; exact q
/-- the room after a digging: 10 is none -/
def rmP (N : Nat → Int32) (hc h : Nat) (e : Int32) (r : Nat) : Prop := (hc < 10 ∧ r = hc) ∨ (hc = 10 ∧ r ≤ 10 ∧ (∀ i, i < r → ¬ lfv (N (21 + 5 * i + 2)) e i h = 0) ∧ (r < 10 → lfv (N (21 + 5 * r + 2)) e r h = 0))
theorem rm_ex {e : Int32} (h10 : hc ≤ 10) : ∃ r, rmP N hc h e r := by
  by_cases q : hc < 10
  · exact ⟨hc, .inl ⟨q, rfl⟩⟩
  · rcases fst_of (fun i => lfv (N (21 + 5 * i + 2)) e i h = 0) 10 with ⟨r, h1, h2, h3⟩ | h3
    · exact ⟨r, .inr ⟨by omega, by omega, h3, fun _ => h2⟩⟩
    · exact ⟨10, .inr ⟨by omega, by omega, h3, fun z => absurd z (by omega)⟩⟩
def rmV (r : Nat) : Int32 := if r = 10 then -1 else nI r
theorem c_room {e : Int32} {r : Nat} (hR : sg_LR kt I T n 21 N hc wc tc) (hP : rmP N hc h e r) (hK : K (some (.int (rmV r))) (am_mk kt I J T n s)) : am_T am_C (19, 0, 0, [.ref 21, .ref (27 + h), .int e, .null, .null], []) (am_mk kt I J T n s) K := by
  have hcn : I 21 1 = nI hc := hR.2.2.2.2.2.2.1
  unfold rmV at hK
  rcases hP with ⟨p1, rfl⟩ | ⟨rfl, p2, p3, p4⟩
  · rw [if_neg (show ¬ r = 10 by omega), ← hcn] at hK
    exact c_room_o (by rw [hcn]; exact nI_lt (b := 10) p1 (by decide)) hK
  · have c1 : (10 : Int32) ≤ I 21 1 := by rw [hcn]; exact nI_le (a := 10) (b := 10) (by omega) (by omega)
    have cell : ∀ i, i < 10 → I (27 + i) 2 = N (21 + 5 * i + 2) := fun i hi => hR.2.2.2.2.2.2.2.2.2.1 i hi 2 (by decide)
    by_cases e10 : r = 10
    · subst e10
      rw [if_pos rfl] at hK
      refine am_wq_T (cut := fun z pc => (Nat.beq z 19 && Nat.beq pc 16)) (inl := fun _ => false) 120 _ _ _ ?_
      exact And.intro rfl (And.intro (fun _ => c_room_n hcn (fun i hi => by rw [cell i hi]; exact p3 i hi) hK 10 0 _ (by omega)) (fun q => absurd c1 q))
    · rw [if_neg e10] at hK
      refine am_wq_T (cut := fun z pc => (Nat.beq z 19 && Nat.beq pc 16)) (inl := fun _ => false) 120 _ _ _ ?_
      exact And.intro rfl (And.intro (fun _ => c_room_l hcn (fun i hi => by rw [cell i (by omega)]; exact p3 i hi) (by omega) (by rw [cell r (by omega)]; exact p4 (by omega)) hK r 0 _ (by omega)) (fun q => absurd c1 q))
theorem m_room {p sp ow e : Int32} {r : Nat} (hN : I 108 = N) (hcn : N 1 = nI hc) (hh : h < 10) (hP : rmP N hc h e r) (pos : ∀ i, i < hc → (lfv (N (21 + 5 * i + 2)) e i h ≤ 0 ↔ lfv (N (21 + 5 * i + 2)) e i h = 0)) (hK : am_T am_C (144, 4, 108, [.ref 107, .int p, .int sp, .int (nI h), .int ow, .int e, .int (nI r)], []) (am_mk kt I J T n s) K) : am_T am_C (144, 4, 57, [.ref 107, .int p, .int sp, .int (nI h), .int ow, .int e, .int (nI 0)], []) (am_mk kt I J T n s) K := by
  rcases hP with ⟨p1, rfl⟩ | ⟨rfl, p2, p3, p4⟩
  · exact m_room_o hN hcn p1 hK r 0 (by omega)
  · exact m_room_l hN hcn hh (fun i hi => fun z => p3 i hi ((pos i (by omega)).mp z)) p2 (fun z => (pos r z).mpr (p4 z)) hK r 0 (by omega)
theorem m_earthV {x v : Int32} (hv : x * I 108 4 / 100 = v) (hK : K (some (.int v)) (am_mk kt I J T n s)) : am_T am_C (139, 0, 0, [.ref 107, .int x], []) (am_mk kt I J T n s) K := by
  subst hv
  exact m_earth hK
theorem c_earthV {x v : Int32} (hv : x * I 21 9 / 100 = v) (hK : K (some (.int v)) (am_mk kt I J T n s)) : am_T am_C (20, 0, 0, [.ref 21, .int x], []) (am_mk kt I J T n s) K := by
  subst hv
  have l100 : ¬ (100 : Int32) = 0 := by decide
  refine am_wq_T (cut := fun _ _ => false) (inl := fun _ => true) 120 _ _ _ ?_
  exact And.intro rfl (And.intro l100 hK)
theorem m_dig_head {a b d e : Int32} (hN : I 108 = N) (hr : RB N hc wc tc) (hh : h < hc) (a0 : ¬ a < 0) (a1 : ¬ 29 < a) (b0 : ¬ b < 1) (b1 : ¬ 99 < b) (c0 : ¬ nI h < 0) (c2 : ¬ I 108 1 - 1 < nI h) (d0 : ¬ d < 0) (d1 : ¬ 7 < d) (he : b * I 108 4 / 100 = e)
    (h1 : ∀ I', ch PF I I' → I' 108 = N → TK N tc h e a → am_T am_C (144, 4, 57, [.ref 107, .int a, .int b, .int (nI h), .int d, .int e, .int (nI 0)], []) (am_mk kt I' J T n s) K) (h0 : ∀ I', ch PF I I' → I' 108 = N → ¬ TK N tc h e a → K (some (.int (-1000000002))) (am_mk kt I' J T n s)) : am_T am_C (144, 4, 0, [.ref 107, .int a, .int b, .int (nI h), .int d, .null, .null], []) (am_mk kt I J T n s) K := by
  have h10 := hr.2.2.2
  refine am_wq_T (cut := fun z pc => (Nat.beq z 144 && Nat.beq pc 57)) (inl := fun z => !((Nat.beq z 118 || (Nat.beq z 120 || (Nat.beq z 117 || (Nat.beq z 119 || (Nat.beq z 139 || Nat.beq z 142))))))) 120 _ _ _ ?_
  refine m_isPlace_y a0 a1 (And.intro (fun q => absurd q m1z) (fun _ => m_isDug_y b0 b1 (And.intro (fun q => absurd q m1z) (fun _ => And.intro rfl (m_isHole_y c0 c2 (And.intro (fun q => absurd q m1z) (fun _ => m_isOwner_y d0 d1 (And.intro (fun _ => ?_) (fun q => absurd m1z q)))))))))
  refine And.intro rfl (m_earthV he (And.intro rfl ?_))
  refine m_doesTake hN hr.1 (by omega) (hr.2.1 h (by omega)).1 (fun I2 x y z => ?_) (fun I2 x y z => ?_)
  · exact And.intro (fun _ => h1 I2 x y z) (fun q => absurd m1z q)
  · exact And.intro (fun q => absurd rfl q) (fun _ => h0 I2 x y z)
theorem c_dig_head {a b d e : Int32} {r : Nat} (hR : sg_LR kt I T n 21 N hc wc tc) (hB : HB N hc) (hh : h < hc) (hh10 : h < 10) (hv : vp_in (nI h) 10) (hp : sg_in a 0 29) (a0 : ¬ a < 0) (a1 : ¬ 29 < a) (b0 : ¬ b < 1) (b1 : ¬ 99 < b) (c0 : ¬ nI h < 0) (c1 : ¬ I 21 1 ≤ nI h) (d0 : ¬ d < 0) (d1 : ¬ 7 < d) (he : b * I 21 9 / 100 = e) (hP : rmP N hc h e r)
    (h1 : ∀ I', ch CT I I' → TK N tc h e a → am_T am_C (72, 4, 85, [.ref 20, .int a, .int b, .int (nI h), .int d, .ref (27 + h), .int e, .int (rmV r)], []) (am_mk kt I' J T n s) K) (h0 : ∀ I', ch CT I I' → ¬ TK N tc h e a → K (some (.int (-1000000002))) (am_mk kt I' J T n s)) : am_T am_C (72, 4, 0, [.ref 20, .int a, .int b, .int (nI h), .int d, .null, .null, .null], []) (am_mk kt I J T n s) K := by
  have hnz : ¬ 27 + h = 0 := by omega
  refine am_wq_T (cut := fun z pc => (Nat.beq z 72 && Nat.beq pc 85)) (inl := fun z => !((Nat.beq z 15 || (Nat.beq z 105 || (Nat.beq z 106 || (Nat.beq z 20 || (Nat.beq z 21 || Nat.beq z 19))))))) 120 _ _ _ ?_
  refine And.intro rfl (And.intro rfl (c_find_y c0 c1 hh10 hv (And.intro (fun q => absurd q hnz) (fun _ => c_within_y a0 a1 (And.intro (fun q => absurd q m1z) (fun _ => c_isSp_y b0 b1 (And.intro (fun q => absurd q m1z) (fun _ => c_within_y d0 d1 (And.intro (fun _ => ?_) (fun q => absurd m1z q))))))))))
  refine And.intro rfl (And.intro rfl (c_earthV he (And.intro rfl (And.intro rfl ?_))))
  refine c_canFill21 (h := h) hR hB hh rfl hp (fun I2 x z => ?_) (fun I2 x z => ?_)
  · exact And.intro (fun _ => And.intro rfl (And.intro rfl (c_room (CT_LR (by decide) x hR) hP (h1 I2 x z)))) (fun q => absurd m1z q)
  · exact And.intro (fun q => absurd rfl q) (fun _ => h0 I2 x z)
theorem m_dig_bad {a b c d : Int32} (hq : ¬ (((¬ a < 0 ∧ ¬ 29 < a) ∧ (¬ b < 1 ∧ ¬ 99 < b)) ∧ (¬ c < 0 ∧ ¬ I 108 1 - 1 < c) ∧ (¬ d < 0 ∧ ¬ 7 < d))) (hK : K (some (.int (-1000000001))) (am_mk kt I J T n s)) : am_T am_C (144, 4, 0, [.ref 107, .int a, .int b, .int c, .int d, .null, .null], []) (am_mk kt I J T n s) K := by
  rcases rng a 0 29 with ⟨a0, a1⟩ | a0 | ⟨a0, a1⟩
  · rcases rng b 1 99 with ⟨b0, b1⟩ | b0 | ⟨b0, b1⟩
    · rcases rng c 0 (I 108 1 - 1) with ⟨c0, c1⟩ | c0 | ⟨c0, c1⟩
      · rcases rng d 0 7 with ⟨d0, d1⟩ | d0 | ⟨d0, d1⟩
        · exact absurd ⟨⟨⟨a0, a1⟩, b0, b1⟩, ⟨c0, c1⟩, d0, d1⟩ hq
        all_goals
          refine am_wq_T (cut := fun z pc => (Nat.beq z 144 && Nat.beq pc 57)) (inl := fun z => !((Nat.beq z 118 || (Nat.beq z 120 || (Nat.beq z 117 || (Nat.beq z 119 || (Nat.beq z 139 || Nat.beq z 142))))))) 120 _ _ _ ?_
          refine m_isPlace_y a0 a1 (And.intro (fun q => absurd q m1z) (fun _ => m_isDug_y b0 b1 (And.intro (fun q => absurd q m1z) (fun _ => And.intro rfl (m_isHole_y c0 c1 (And.intro (fun q => absurd q m1z) (fun _ => ?_)))))))
          first | exact m_isOwner_n0 d0 (And.intro (fun q => absurd rfl q) (fun _ => hK)) | exact m_isOwner_n1 d0 d1 (And.intro (fun q => absurd rfl q) (fun _ => hK))
      all_goals
        refine am_wq_T (cut := fun z pc => (Nat.beq z 144 && Nat.beq pc 57)) (inl := fun z => !((Nat.beq z 118 || (Nat.beq z 120 || (Nat.beq z 117 || (Nat.beq z 119 || (Nat.beq z 139 || Nat.beq z 142))))))) 120 _ _ _ ?_
        refine m_isPlace_y a0 a1 (And.intro (fun q => absurd q m1z) (fun _ => m_isDug_y b0 b1 (And.intro (fun q => absurd q m1z) (fun _ => And.intro rfl ?_))))
        first | exact m_isHole_n0 c0 (And.intro (fun _ => hK) (fun q => absurd rfl q)) | exact m_isHole_n1 c0 c1 (And.intro (fun _ => hK) (fun q => absurd rfl q))
    all_goals
      refine am_wq_T (cut := fun z pc => (Nat.beq z 144 && Nat.beq pc 57)) (inl := fun z => !((Nat.beq z 118 || (Nat.beq z 120 || (Nat.beq z 117 || (Nat.beq z 119 || (Nat.beq z 139 || Nat.beq z 142))))))) 120 _ _ _ ?_
      refine m_isPlace_y a0 a1 (And.intro (fun q => absurd q m1z) (fun _ => ?_))
      first | exact m_isDug_n0 b0 (And.intro (fun _ => hK) (fun q => absurd rfl q)) | exact m_isDug_n1 b0 b1 (And.intro (fun _ => hK) (fun q => absurd rfl q))
  all_goals
    refine am_wq_T (cut := fun z pc => (Nat.beq z 144 && Nat.beq pc 57)) (inl := fun z => !((Nat.beq z 118 || (Nat.beq z 120 || (Nat.beq z 117 || (Nat.beq z 119 || (Nat.beq z 139 || Nat.beq z 142))))))) 120 _ _ _ ?_
    first | exact m_isPlace_n0 a0 (And.intro (fun _ => hK) (fun q => absurd rfl q)) | exact m_isPlace_n1 a0 a1 (And.intro (fun _ => hK) (fun q => absurd rfl q))
/-- the class's memory, the reference's row after a dig -/
def digI (I : Nat → Nat → Int32) (hc h r : Nat) (e p sp ow : Int32) : Nat → Nat → Int32 := if r = hc then am_up (cl5 (dgI I h e sp) (27 + r) 0 p sp ow) 21 1 (nI (hc + 1)) else cl5 (dgI I h e sp) (27 + r) 0 p sp ow
def digN (N : Nat → Int32) (hc h r : Nat) (e p sp ow : Int32) : Nat → Int32 := upN (layN (dgN N h e sp) r 0 p sp ow) 1 (if r = hc then nI (hc + 1) else nI hc)
theorem digI_off {r x : Nat} {e p sp ow : Int32} (h10 : h < 10) (hr : r < 10) (hx : ¬ (21 ≤ x ∧ x < 37)) : digI I hc h r e p sp ow x = I x := by
  have q : cl5 (dgI I h e sp) (27 + r) 0 p sp ow x = I x := by
    rw [cl5_off (by omega)]
    unfold dgI
    rw [up_off (by omega), up_off (by omega)]
  unfold digI
  split
  · rw [up_off (by omega)]; exact q
  · exact q
theorem digN_n {r : Nat} {e p sp ow : Int32} (hcn : N 1 = nI hc) (q : ¬ r = hc) : digN N hc h r e p sp ow = layN (dgN N h e sp) r 0 p sp ow := by
  funext j
  unfold digN
  rw [if_neg q]
  by_cases e1 : j = 1
  · subst e1
    rw [upN_eq]
    unfold layN dgN
    rw [upN_ne (by omega), upN_ne (by omega), upN_ne (by omega), upN_ne (by omega), upN_ne (by omega), upN_ne (by omega), upN_ne (by omega)]
    exact hcn.symm
  · rw [upN_ne e1]
theorem dig_Land {r : Nat} {e p sp ow : Int32} (hh : h < hc) (hr : r < 10) (hrc : r ≤ hc) (ha : sg_in p 0 29) (hs : sg_in sp 1 99) (ho : sg_in ow 0 7) (hv : sg_in (N (21 + 5 * h + 2) - e) 0 99) (hR : sg_LR kt I T n 21 N hc wc tc) (hB : sg_LB N hc wc) : sg_Land kt (digI I hc h r e p sp ow) T n 21 (digN N hc h r e p sp ow) := by
  have z5 : sg_in 0 0 5 := by unfold sg_in; decide
  have hs0 : sg_in sp 0 99 := ⟨by have := hs.1; omega, hs.2⟩
  by_cases q : r = hc
  · subst q
    refine ⟨r + 1, wc, tc, ?_, ?_⟩
    · unfold digI digN
      rw [if_pos rfl, if_pos rfl]
      exact open_LR hr (dg_LR hh hR)
    · unfold digN
      rw [if_pos rfl]
      exact open_LB hR.1 hR.2.1 z5 ha hs0 ho (dg_LB hR.2.1 hv hB)
  · refine ⟨hc, wc, tc, ?_, ?_⟩
    · rw [digN_n hR.2.2.2.1 q]
      unfold digI
      rw [if_neg q]
      exact lay_LR hr (dg_LR hh hR)
    · rw [digN_n hR.2.2.2.1 q]
      exact lay_LB hR.2.1 z5 ha hs0 ho (dg_LB hR.2.1 hv hB)
end T76b
section T76c
variable {kt : Nat → Nat × Nat} {I I' : Nat → Nat → Int32} {J J' : Nat → Nat → Int64} {T T' : Nat → Nat → Nat} {n s : Nat} {L : Nat} {xs : Nat → Int32} {K : Option Value → am_M → Prop} {N N' : Nat → Int32} {hc wc tc h w : Nat}
def refM (I : Nat → Nat → Int32) (h r : Nat) (e p sp ow : Int32) : Nat → Nat → Int32 := layI (am_up (am_up I 108 (21 + 5 * h + 2) (I 108 (21 + 5 * h + 2) - e)) 108 5 (am_up I 108 (21 + 5 * h + 2) (I 108 (21 + 5 * h + 2) - e) 108 5 + sp)) r 0 p sp ow
theorem refM_row {r : Nat} {e p sp ow : Int32} (hN : I 108 = N) : refM I h r e p sp ow 108 = layN (dgN N h e sp) r 0 p sp ow := by
  unfold refM dgN
  rw [layI_row, up_row, up_row, hN]
  rw [upN_ne (by omega)]
theorem refM_off {r x : Nat} {e p sp ow : Int32} (hx : x ≠ 108) : refM I h r e p sp ow x = I x := by
  unfold refM
  rw [layI_ch x hx, up_off hx, up_off hx]
theorem nI_le0 {m : Nat} (hm : m < 2147483648) : nI m ≤ 0 ↔ nI m = 0 := by
  by_cases q : m = 0
  · subst q; decide
  · exact ⟨fun z => absurd z (nI_ge (a := 0) (b := m) (by omega) (by omega)), fun z => absurd ((nI_eq (b := 0) (by omega) (by decide)).mp z) q⟩
theorem dig_y {a b d : Int32} (hS : sg_Sim L xs kt I J T n) (hR : sg_LR kt I T n 21 (I 108) hc wc tc) (hB : sg_LB (I 108) hc wc) (hh : h < hc) (hh10 : h < 10) (hv : vp_in (nI h) 10) (a0 : ¬ a < 0) (a1 : ¬ 29 < a) (b0 : ¬ b < 1) (b1 : ¬ 99 < b) (c0 : ¬ nI h < 0) (c1 : ¬ I 21 1 ≤ nI h) (c2 : ¬ I 108 1 - 1 < nI h) (d0 : ¬ d < 0) (d1 : ¬ 7 < d)
    (hK : ∀ v kt' I' J' T' n' s', sg_Mid L xs I n s (144, 4, 0, [.ref 107, .int a, .int b, .int (nI h), .int d, .null, .null], []) v kt' I' J' T' n' s' → K (some (.int v)) (am_mk kt' I' J' T' n' s')) : am_T am_C (72, 4, 0, [.ref 20, .int a, .int b, .int (nI h), .int d, .null, .null, .null], []) (am_mk kt I J T n s) K := by
  have h13 := hS.1.2.2.2.1
  have hr := RB_of hR hB
  have h10 := hR.1
  have hcn : I 21 1 = nI hc := hR.2.2.2.2.2.2.1
  have hN1 : I 108 1 = nI hc := hR.2.2.2.1
  have e9 : I 21 9 = I 108 4 := hR.2.2.2.2.2.2.2.2.2.2.2.2.1
  have hp : sg_in a 0 29 := by unfold sg_in; clear hK hS hR hB hr; (simp only [Int32.lt_iff_toInt_lt, Int32.le_iff_toInt_le, gt_iff_lt, ge_iff_le, ← Int32.toInt_inj, Int32.reduceToInt, Int32.reduceMul, Int32.reduceAdd, Int32.reduceSub, ne_eq, true_and, and_true, false_and, and_false, not_true_eq_false, not_false_eq_true, true_or, or_true, false_or, or_false] at *; omega)
  have hs : sg_in b 1 99 := by unfold sg_in; clear hK hS hR hB hr; (simp only [Int32.lt_iff_toInt_lt, Int32.le_iff_toInt_le, gt_iff_lt, ge_iff_le, ← Int32.toInt_inj, Int32.reduceToInt, Int32.reduceMul, Int32.reduceAdd, Int32.reduceSub, ne_eq, true_and, and_true, false_and, and_false, not_true_eq_false, not_false_eq_true, true_or, or_true, false_or, or_false] at *; omega)
  have ho : sg_in d 0 7 := by unfold sg_in; clear hK hS hR hB hr; (simp only [Int32.lt_iff_toInt_lt, Int32.le_iff_toInt_le, gt_iff_lt, ge_iff_le, ← Int32.toInt_inj, Int32.reduceToInt, Int32.reduceMul, Int32.reduceAdd, Int32.reduceSub, ne_eq, true_and, and_true, false_and, and_false, not_true_eq_false, not_false_eq_true, true_or, or_true, false_or, or_false] at *; omega)
  obtain ⟨k, hk, ek⟩ := earth_in (sp := b) (r := I 108 4) hs hB.2.2.2.1
  obtain ⟨r, hP⟩ := rm_ex (N := I 108) (h := h) (e := nI k) h10
  have dep : ∀ i, i < hc → ∃ m : Nat, m ≤ 99 ∧ I 108 (21 + 5 * i + 2) = nI m := fun i hi => in_nI (hr.2.1 i hi).2.2.1 (by decide)
  refine c_dig_head (e := nI k) (r := r) hR hr.2.1 hh hh10 hv hp a0 a1 b0 b1 c0 c1 d0 d1 (by rw [e9]; exact ek) hP (fun I1 x tk => ?_) (fun I1 x tk => ?_)
  · have le : ¬ I 108 (21 + 5 * h + 2) < nI k := TKv_le tk
    obtain ⟨g, hg, eg⟩ := dep h hh
    have hkg : k ≤ g := by
      rcases Nat.lt_or_ge g k with q | q
      · exact absurd (by rw [eg]; exact nI_lt q (by omega)) le
      · exact q
    have hv2 : sg_in (I 108 (21 + 5 * h + 2) - nI k) 0 99 := by
      rw [eg, nI_subI hkg]
      unfold sg_in
      rw [nI_toInt (by omega)]
      omega
    have pos : ∀ i, i < hc → (lfv (I 108 (21 + 5 * i + 2)) (nI k) i h ≤ 0 ↔ lfv (I 108 (21 + 5 * i + 2)) (nI k) i h = 0) := fun i hi => by
      obtain ⟨m, hm, em⟩ := dep i hi
      by_cases q : i = h
      · subst q
        rw [lfv_y, eg, nI_subI hkg]
        exact nI_le0 (by omega)
      · rw [lfv_n q, em, show (0 : Int32) = nI 0 from rfl, nI_subI (Nat.zero_le _)]
        exact nI_le0 (by omega)
    by_cases e10 : r = 10
    · subst e10
      have key := hK (-1000000003) kt I1 J T n s ⟨h13, by rw [x 13 (by unfold CT; omega)], by
        have hN2 : I1 108 = I 108 := x 108 (by unfold CT; omega)
        refine m_dig_head (e := nI k) hN2 hr hh a0 a1 b0 b1 c0 (by rw [hN2]; exact c2) d0 d1 (by rw [hN2]; exact ek) (fun I3 y z tk2 => ?_) (fun I3 y z ntk => absurd tk ntk)
        refine m_room z hN1 hh10 hP pos ?_
        refine am_wq_T (cut := fun z pc => (Nat.beq z 144 && Nat.beq pc 108)) (inl := fun _ => false) 120 _ _ _ ?_
        exact And.intro (fun q => absurd rfl q) (fun _ => End_of rfl (sim_ch (ch_nr (ch_w x fun r q => CT_NR q) (ch_w y fun r q => PF_NR q)) chJ_rfl hS))⟩
      rw [show rmV 10 = -1 from rfl]
      have c9 : (-1 : Int32) < 0 := by decide
      refine am_wq_T (cut := fun z pc => (Nat.beq z 72 && Nat.beq pc 85)) (inl := fun _ => false) 120 _ _ _ ?_
      exact And.intro (fun _ => key) (fun q => absurd c9 q)
    · have hr10 : r < 10 := by rcases hP with ⟨p1, p2⟩ | ⟨_, p2, _⟩ <;> omega
      have hrc : r ≤ hc := by rcases hP with ⟨p1, p2⟩ | ⟨p1, p2, _⟩ <;> omega
      rw [show rmV r = nI r from if_neg e10]
      refine c_dt0 hh10 hr10 (c_dt1 (hc := hc) hr10 ?_ h10 ?_)
      · unfold dgI
        rw [up_ne (by omega), up_ne (by omega), x 21 (by unfold CT; omega)]
        exact hcn
      show K _ (am_mk kt (digI I1 hc h r (nI k) a b d) J T n s)
      have Ld := dig_Land (e := nI k) (sp := b) (p := a) (ow := d) hh hr10 hrc hp hs ho hv2 (CT_LR (by decide) x hR) hB
      have off : ∀ y, ¬ (21 ≤ y ∧ y < 37) → digI I1 hc h r (nI k) a b d y = I1 y := fun y hy => digI_off hh10 hr10 hy
      obtain ⟨I2, e2⟩ : ∃ I2, I2 = digI I1 hc h r (nI k) a b d := ⟨_, rfl⟩
      rw [← e2] at Ld off ⊢
      have hN2 : I2 108 = I 108 := (off 108 (by omega)).trans (x 108 (by unfold CT; omega))
      refine hK _ kt I2 J T n s ⟨h13, (off 13 (by omega)).trans (x 13 (by unfold CT; omega)), ?_⟩
      refine m_dig_head (e := nI k) hN2 hr hh a0 a1 b0 b1 c0 (by rw [hN2]; exact c2) d0 d1 (by rw [hN2]; exact ek) (fun I3 y z tk2 => ?_) (fun I3 y z ntk => absurd tk ntk)
      have row3 := refM_row (h := h) (r := r) (e := nI k) (p := a) (sp := b) (ow := d) z
      have off3 : ∀ x, x ≠ 108 → refM I3 h r (nI k) a b d x = I3 x := fun x hx => refM_off hx
      refine m_room z hN1 hh10 hP pos (m_dtail0 hh10 hr10 (m_dtail1 hr10 ?_))
      show am_T am_C (144, 4, 154, [.ref 107, .int a, .int b, .int (nI h), .int d, .int (nI k), .int (nI r)], []) (am_mk kt (refM I3 h r (nI k) a b d) J T n s) _
      obtain ⟨I4, e4⟩ : ∃ I4, I4 = refM I3 h r (nI k) a b d := ⟨_, rfl⟩
      rw [← e4] at row3 off3 ⊢
      refine m_dtail2 (hc := hc) hr10 ?_ h10 ?_
      · rw [row3]
        unfold layN dgN
        rw [upN_ne (by omega), upN_ne (by omega), upN_ne (by omega), upN_ne (by omega), upN_ne (by omega), upN_ne (by omega), upN_ne (by omega)]
        exact hN1
      · refine End_of rfl (sim_land (I := I) (fun r' k' q1 p1 p2 => ?_) (fun _ _ => rfl) ?_ hS)
        · rw [up_off p2, off3 r' p2, y r' (fun q => rv_NR q1 (PF_NR q)), off r' p1, x r' (fun q => rv_NR q1 (CT_NR q))]
        · rw [up_row, row3]
          exact Land_cg (fun r k hr => by rw [up_off (by omega), off3 r (by omega), y r (by unfold PF; omega)]) Ld
  · refine hK _ kt I1 J T n s ⟨h13, by rw [x 13 (by unfold CT; omega)], ?_⟩
    have hN2 : I1 108 = I 108 := x 108 (by unfold CT; omega)
    refine m_dig_head (e := nI k) hN2 hr hh a0 a1 b0 b1 c0 (by rw [hN2]; exact c2) d0 d1 (by rw [hN2]; exact ek) (fun I3 y z tk2 => absurd tk2 tk) (fun I3 y z ntk => ?_)
    exact End_of rfl (sim_ch (ch_nr (ch_w x fun r q => CT_NR q) (ch_w y fun r q => PF_NR q)) chJ_rfl hS)
theorem L_dig (a b c d : Int32) : sg_Call (72, 4, 0, [.ref 20, .int a, .int b, .int c, .int d, .null, .null, .null], []) (144, 4, 0, [.ref 107, .int a, .int b, .int c, .int d, .null, .null], []) := by
  intro L xs kt I J T n s K hS hK
  have h13 := hS.1.2.2.2.1
  obtain ⟨hc, wc, tc, hR, hB⟩ := hS.2.1
  have bad : ¬ (((¬ a < 0 ∧ ¬ 29 < a) ∧ (¬ b < 1 ∧ ¬ 99 < b)) ∧ (¬ c < 0 ∧ ¬ I 108 1 - 1 < c) ∧ (¬ d < 0 ∧ ¬ 7 < d)) → K (some (.int (-1000000001))) (am_mk kt I J T n s) := fun hq => hK _ _ _ _ _ _ _ ⟨h13, rfl, m_dig_bad hq (End_of rfl hS)⟩
  rcases hole_cases hR c with ⟨h, hh, hh10, rfl, c0, c1, c2, hv⟩ | c0 | ⟨c0, c1, c2⟩
  · have hnz : ¬ 27 + h = 0 := by omega
    rcases rng a 0 29 with ⟨a0, a1⟩ | a0 | ⟨a0, a1⟩
    · rcases rng b 1 99 with ⟨b0, b1⟩ | b0 | ⟨b0, b1⟩
      · rcases rng d 0 7 with ⟨d0, d1⟩ | d0 | ⟨d0, d1⟩
        · exact dig_y hS hR hB hh hh10 hv a0 a1 b0 b1 c0 c1 c2 d0 d1 hK
        all_goals
          have key := bad (fun q => by first | exact q.2.2.1 d0 | exact q.2.2.2 d1)
          refine am_wq_T (cut := fun z pc => (Nat.beq z 72 && Nat.beq pc 85)) (inl := fun z => !((Nat.beq z 15 || (Nat.beq z 105 || (Nat.beq z 106 || (Nat.beq z 20 || (Nat.beq z 21 || Nat.beq z 19))))))) 120 _ _ _ ?_
          refine And.intro rfl (And.intro rfl (c_find_y c0 c1 hh10 hv (And.intro (fun q => absurd q hnz) (fun _ => c_within_y a0 a1 (And.intro (fun q => absurd q m1z) (fun _ => c_isSp_y b0 b1 (And.intro (fun q => absurd q m1z) (fun _ => ?_))))))))
          first | exact c_within_n0 d0 (And.intro (fun q => absurd rfl q) (fun _ => key)) | exact c_within_n1 d0 d1 (And.intro (fun q => absurd rfl q) (fun _ => key))
      all_goals
        have key := bad (fun q => by first | exact q.1.2.1 b0 | exact q.1.2.2 b1)
        refine am_wq_T (cut := fun z pc => (Nat.beq z 72 && Nat.beq pc 85)) (inl := fun z => !((Nat.beq z 15 || (Nat.beq z 105 || (Nat.beq z 106 || (Nat.beq z 20 || (Nat.beq z 21 || Nat.beq z 19))))))) 120 _ _ _ ?_
        refine And.intro rfl (And.intro rfl (c_find_y c0 c1 hh10 hv (And.intro (fun q => absurd q hnz) (fun _ => c_within_y a0 a1 (And.intro (fun q => absurd q m1z) (fun _ => ?_))))))
        first | exact c_isSp_n0 b0 (And.intro (fun _ => key) (fun q => absurd rfl q)) | exact c_isSp_n1 b0 b1 (And.intro (fun _ => key) (fun q => absurd rfl q))
    all_goals
      have key := bad (fun q => by first | exact q.1.1.1 a0 | exact q.1.1.2 a1)
      refine am_wq_T (cut := fun z pc => (Nat.beq z 72 && Nat.beq pc 85)) (inl := fun z => !((Nat.beq z 15 || (Nat.beq z 105 || (Nat.beq z 106 || (Nat.beq z 20 || (Nat.beq z 21 || Nat.beq z 19))))))) 120 _ _ _ ?_
      refine And.intro rfl (And.intro rfl (c_find_y c0 c1 hh10 hv (And.intro (fun q => absurd q hnz) (fun _ => ?_))))
      first | exact c_within_n0 a0 (And.intro (fun _ => key) (fun q => absurd rfl q)) | exact c_within_n1 a0 a1 (And.intro (fun _ => key) (fun q => absurd rfl q))
  all_goals
    have key := bad (fun q => by first | exact q.2.1.1 c0 | exact q.2.1.2 c2)
    refine am_wq_T (cut := fun z pc => (Nat.beq z 72 && Nat.beq pc 85)) (inl := fun z => !((Nat.beq z 15 || (Nat.beq z 105 || (Nat.beq z 106 || (Nat.beq z 20 || (Nat.beq z 21 || Nat.beq z 19))))))) 120 _ _ _ ?_
    first | exact And.intro rfl (And.intro rfl (c_find_n0 c0 (And.intro (fun _ => key) (fun q => absurd rfl q)))) | exact And.intro rfl (And.intro rfl (c_find_n1 c0 c1 (And.intro (fun _ => key) (fun q => absurd rfl q))))
end T76c
