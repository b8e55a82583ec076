/-! the class reads an expression -/
section T94
variable {kt : Nat → Nat × Nat} {I0 : Nat → Nat → Int32} {J : Nat → Nat → Int64} {T : Nat → Nat → Nat} {n s : Nat} {B : Nat → Int32} {len key : Nat}
def bD (nn nb : Nat) : Nat := 12 * (8 - nb) + 2 * (8 - nn) + 5
def bK (k : Nat) : Nat := if k < 5 then 2 * (5 - k) else if k < 10 then 2 * (5 - (k - 5)) else 0
def bI (b : Bool) : Int32 := if b = true then 1 else 0
def oC (I0 I' : Nat → Nat → Int32) (b : Bool) (r : pSt) (nn nb : Nat) : Prop := if b = true then cP I0 I' r nn nb else (ch (fun r => r = 72 ∨ r = 74) I0 I' ∧ I' 72 2 = nI r.1)
theorem oC_f {I' : Nat → Nat → Int32} {r : pSt} {nn nb mm mb : Nat} (h : oC I0 I' false r nn nb) : oC I0 I' false r mm mb := h
theorem oC_p {I' : Nat → Nat → Int32} {r : pSt} {nn nb mm mb : Nat} (h : cP I0 I' r nn nb) : oC I0 I' false r mm mb := ⟨h.1, h.2.2.2.1⟩
theorem rd_len (hB : ∀ k, k < len → sg_in (B k) 0 255) {f k nn nb : Nat} {q r : pSt} (h : rd B len key f k q nn nb = some (true, r)) (hk : k ≤ 10) (hw : ws B len q) : r.2.2.2.1.length + q.1 ≤ q.2.2.2.1.length + r.1 := by
  obtain ⟨-, -, new, e, l, -⟩ := (rd_ok hB _ _ _ _ _ _ _ h hk hw).2.2 rfl
  rw [e, List.length_append]
  omega
set_option maxRecDepth 4000 in
theorem c_rd (hT : tpB I0 B len) (hk3 : key < 3) (hk5 : I0 72 5 = nI key) (hF : nmF I0) : ∀ (f k : Nat) (p : pSt) (nn nb : Nat) (b : Bool) (r : pSt), rd B len key f k p nn nb = some (b, r) → k ≤ 10 → ws B len p → nn ≤ 8 → nb ≤ 8 → p.2.2.2.1.length ≤ p.1 → ∀ (I : Nat → Nat → Int32) (u : Nat) (K : Option Value → am_M → Prop), cP I0 I p nn nb → bD nn nb + bK k ≤ u → (∀ I', oC I0 I' b r nn nb → K (some (.int (bI b))) (am_mk kt I' J T n s)) → (k < 5 → am_T am_C (47, u, 0, [.ref 72, .int (nI k), .null, .null], []) (am_mk kt I J T n s) K) ∧ (5 ≤ k → k < 10 → ∀ (i : Nat) (v3 : Value), i ≤ p.1 → am_T am_C (47, u, 12, [.ref 72, .int (nI (k - 5)), .int (nI i), v3], []) (am_mk kt I J T n s) K) ∧ (k = 10 → am_T am_C (50, u, 0, [.ref 72], []) (am_mk kt I J T n s) K) := by
  have h96 := hT.1
  have hB : ∀ k, k < len → sg_in (B k) 0 255 := fun k hk => (hT.2.2 k hk).2
  intro f
  induction f with
  | zero => intro k p nn nb b r h; cases h
  | succ f ih =>
    intro k p nn nb b r h hk hw hnn hnb hl I u K hc hu hK
    have h4 : I 72 4 = p.2.2.1 := hc.2.2.2.2.2.1
    refine ⟨fun k5 => ?_, fun k5 k10 i v3 hi => ?_, fun e10 => ?_⟩
    · have hpk : pk k ≤ 10 := by unfold pk; split <;> omega
      have hbk : bK k = 2 * (5 - k) := if_pos k5
      unfold bD at hu
      have u0 : 0 < u := by omega
      have u1 : 0 < u - 1 := by omega
      rw [rd_j k5] at h
      by_cases e4 : k = 4
      · have c4 : ¬ nI k < 4 := nI_nlt (b := 4) (by omega) (by omega)
        have ep : pk k = 10 := if_pos e4
        rw [ep] at h hpk
        have hb2 : bD nn nb + bK 10 ≤ u - 1 - 1 := by unfold bD; show _ + 0 ≤ _; omega
        rcases rdB_some h with ⟨s1, h1, hx⟩ | ⟨s1, h1, h2⟩
        · cases hx
          refine am_wq_T (cut := fun z pc => (Nat.beq z 47 && Nat.beq pc 12)) (inl := fun z => !((Nat.beq z 47 || (Nat.beq z 49 || (Nat.beq z 56 || (Nat.beq z 50 || Nat.beq z 43)))))) 120 _ _ _ ?_
          refine And.intro ⟨rfl, u0⟩ (And.intro (fun z => absurd z c4) (fun _ => And.intro ⟨rfl, u1⟩ (And.right (And.right (ih 10 p nn nb _ _ h1 hpk hw hnn hnb hl I (u - 1 - 1) _ hc hb2 (fun I1 o => ?_))) rfl)))
          exact And.intro rfl (And.intro (fun z => absurd rfl z) (fun _ => And.intro rfl (hK I1 o)))
        · obtain ⟨w1, p1, -⟩ := (rd_ok hB _ _ _ _ _ _ _ h1 hpk hw).2.2 rfl
          have l1 := rd_len hB h1 hpk hw
          have hb3 : bD nn nb + bK (k + 5) ≤ u := by unfold bD bK; rw [if_neg (by omega), if_pos (by omega)]; omega
          refine am_wq_T (cut := fun z pc => (Nat.beq z 47 && Nat.beq pc 12)) (inl := fun z => !((Nat.beq z 47 || (Nat.beq z 49 || (Nat.beq z 56 || (Nat.beq z 50 || Nat.beq z 43)))))) 120 _ _ _ ?_
          refine And.intro ⟨rfl, u0⟩ (And.intro (fun z => absurd z c4) (fun _ => And.intro ⟨rfl, u1⟩ (And.right (And.right (ih 10 p nn nb _ _ h1 hpk hw hnn hnb hl I (u - 1 - 1) _ hc hb2 (fun I1 o => ?_))) rfl)))
          have lp := And.left (And.right (ih (k + 5) s1 nn nb _ _ h2 (by omega) w1 hnn hnb (by omega) I1 u K o hb3 hK)) (by omega) (by omega) 0 .null (Nat.zero_le _)
          rw [show k + 5 - 5 = k by omega] at lp
          exact And.intro rfl (And.intro (fun _ => lp) (fun z => absurd m1z z))
      · have c4 : nI k < 4 := nI_lt (b := 4) (by omega) (by decide)
        have ep : pk k = k + 1 := if_neg e4
        rw [ep] at h hpk
        have hb2 : bD nn nb + bK (k + 1) ≤ u - 1 - 1 := by unfold bD bK; rw [if_pos (by omega)]; omega
        rcases rdB_some h with ⟨s1, h1, hx⟩ | ⟨s1, h1, h2⟩
        · cases hx
          have ihk := fun K hK => And.left (ih (k + 1) p nn nb _ _ h1 hpk hw hnn hnb hl I (u - 1 - 1) K hc hb2 hK) (by omega)
          rw [nI_succ] at ihk
          refine am_wq_T (cut := fun z pc => (Nat.beq z 47 && Nat.beq pc 12)) (inl := fun z => !((Nat.beq z 47 || (Nat.beq z 49 || (Nat.beq z 56 || (Nat.beq z 50 || Nat.beq z 43)))))) 120 _ _ _ ?_
          refine And.intro ⟨rfl, u0⟩ (And.intro (fun _ => And.intro ⟨rfl, u1⟩ (ihk _ (fun I1 o => ?_))) (fun z => absurd c4 z))
          exact And.intro rfl (And.intro (fun z => absurd rfl z) (fun _ => And.intro rfl (hK I1 o)))
        · obtain ⟨w1, p1, -⟩ := (rd_ok hB _ _ _ _ _ _ _ h1 hpk hw).2.2 rfl
          have l1 := rd_len hB h1 hpk hw
          have hb3 : bD nn nb + bK (k + 5) ≤ u := by unfold bD bK; rw [if_neg (by omega), if_pos (by omega)]; omega
          have ihk := fun K hK => And.left (ih (k + 1) p nn nb _ _ h1 hpk hw hnn hnb hl I (u - 1 - 1) K hc hb2 hK) (by omega)
          rw [nI_succ] at ihk
          refine am_wq_T (cut := fun z pc => (Nat.beq z 47 && Nat.beq pc 12)) (inl := fun z => !((Nat.beq z 47 || (Nat.beq z 49 || (Nat.beq z 56 || (Nat.beq z 50 || Nat.beq z 43)))))) 120 _ _ _ ?_
          refine And.intro ⟨rfl, u0⟩ (And.intro (fun _ => And.intro ⟨rfl, u1⟩ (ihk _ (fun I1 o => ?_))) (fun z => absurd c4 z))
          have lp := And.left (And.right (ih (k + 5) s1 nn nb _ _ h2 (by omega) w1 hnn hnb (by omega) I1 u K o hb3 hK)) (by omega) (by omega) 0 .null (Nat.zero_le _)
          rw [show k + 5 - 5 = k by omega] at lp
          exact And.intro rfl (And.intro (fun _ => lp) (fun z => absurd m1z z))
    · have n5 : ¬ k < 5 := by omega
      have hbk : bK k = 2 * (5 - (k - 5)) := (if_neg n5).trans (if_pos k10)
      unfold bD at hu
      have u0 : 0 < u := by omega
      have u01 : 1 < u := by omega
      have u1 : 0 < u - 1 := by omega
      by_cases hj : jn (k - 5) p.2.2.1 = true
      · have hs1 := hw.2.2.1 (jn_m1 hj)
        have hw2 := hw.2.1
        have ci : ¬ (96 : Int32) ≤ nI i := nI_ge (a := i) (b := 96) (by omega) (by decide)
        have hn := nxS_ws (B := B) hw.2.1
        have hln : (nxS B len p).2.2.2.1.length ≤ (nxS B len p).1 := by
          show p.2.2.2.1.length ≤ _
          omega
        have hpk : pk (k - 5) ≤ 10 := by unfold pk; split <;> omega
        rw [rd_l n5 k10 hj] at h
        by_cases e4 : k - 5 = 4
        · have c4 : ¬ nI (k - 5) < 4 := nI_nlt (b := 4) (by omega) (by omega)
          have n2 : ¬ nI (k - 5) = 2 := fun z => by have := (nI_eq (b := 2) (by omega) (by decide)).mp z; omega
          have ep : pk (k - 5) = 10 := if_pos e4
          rw [ep] at h hpk
          have hb2 : bD nn nb + bK 10 ≤ u - 1 - 1 := by unfold bD; show _ + 0 ≤ _; omega
          refine am_wq_T (cut := fun z pc => (Nat.beq z 47 && Nat.beq pc 12)) (inl := fun z => !((Nat.beq z 47 || (Nat.beq z 49 || (Nat.beq z 56 || (Nat.beq z 50 || Nat.beq z 43)))))) 120 _ _ _ ?_
          refine And.intro (fun z => absurd z ci) (fun _ => And.intro ⟨rfl, u0⟩ (c_jn (l := k - 5) (by omega) h4 (fun _ => And.intro (fun z => absurd z m1z) (fun _ => And.intro rfl (And.intro ⟨rfl, u01⟩ (c_stepP hT hw.2.1 hc fun I1 c1 => ?_)))) (fun z => absurd hj z)))
          rcases rdB_some h with ⟨s1, h1, hx⟩ | ⟨s1, h1, h2⟩
          · cases hx
            refine And.intro ⟨rfl, u0⟩ (And.intro (fun z => absurd z c4) (fun _ => And.intro ⟨rfl, u1⟩ (And.right (And.right (ih 10 (nxS B len p) nn nb _ _ h1 hpk hn.1 hnn hnb hln I1 (u - 1 - 1) _ c1 hb2 (fun I2 o => ?_))) rfl)))
            exact And.intro rfl (And.intro (fun z => absurd rfl z) (fun _ => And.intro rfl (hK I2 o)))
          · obtain ⟨w1, p1, -⟩ := (rd_ok hB _ _ _ _ _ _ _ h1 hpk hn.1).2.2 rfl
            have p1' := p1 (.inr rfl)
            have l1 := rd_len hB h1 hpk hn.1
            have l1' : s1.2.2.2.1.length + (nxS B len p).1 ≤ p.2.2.2.1.length + s1.1 := l1
            have s1l : s1.1 ≤ len := by have := w1.1; have := w1.2.1; omega
            have k7 : ¬ k = 7 := by omega
            rw [if_neg k7] at h2
            refine And.intro ⟨rfl, u0⟩ (And.intro (fun z => absurd z c4) (fun _ => And.intro ⟨rfl, u1⟩ (And.right (And.right (ih 10 (nxS B len p) nn nb _ _ h1 hpk hn.1 hnn hnb hln I1 (u - 1 - 1) _ c1 hb2 (fun I2 o => ?_))) rfl)))
            refine And.intro rfl (And.intro (fun _ => And.intro ⟨rfl, u0⟩ (c_putP (p := s1) (y := -p.2.2.1) (congrArg (fun z => -z) h4) (by omega) o fun I3 c3 => ?_)) (fun z => absurd m1z z))
            have lp := And.left (And.right (ih k (ptS s1 (-p.2.2.1)) nn nb _ _ h2 hk w1 hnn hnb (by show (s1.2.2.2.1 ++ [-p.2.2.1]).length ≤ s1.1; rw [List.length_append]; show s1.2.2.2.1.length + 1 ≤ s1.1; omega) I3 u K c3 (by unfold bD; omega) hK)) k5 k10 (i + 1) (.int (I 72 4)) (by show i + 1 ≤ s1.1; omega)
            rw [nI_succ] at lp
            exact And.intro (fun _ => lp) (fun z => absurd n2 z)
        · have c4 : nI (k - 5) < 4 := nI_lt (b := 4) (by omega) (by decide)
          have ep : pk (k - 5) = k - 5 + 1 := if_neg e4
          rw [ep] at h hpk
          have hb2 : bD nn nb + bK (k - 5 + 1) ≤ u - 1 - 1 := by unfold bD bK; rw [if_pos (by omega)]; omega
          refine am_wq_T (cut := fun z pc => (Nat.beq z 47 && Nat.beq pc 12)) (inl := fun z => !((Nat.beq z 47 || (Nat.beq z 49 || (Nat.beq z 56 || (Nat.beq z 50 || Nat.beq z 43)))))) 120 _ _ _ ?_
          refine And.intro (fun z => absurd z ci) (fun _ => And.intro ⟨rfl, u0⟩ (c_jn (l := k - 5) (by omega) h4 (fun _ => And.intro (fun z => absurd z m1z) (fun _ => And.intro rfl (And.intro ⟨rfl, u01⟩ (c_stepP hT hw.2.1 hc fun I1 c1 => ?_)))) (fun z => absurd hj z)))
          rcases rdB_some h with ⟨s1, h1, hx⟩ | ⟨s1, h1, h2⟩
          · cases hx
            have ihk := fun K hK => And.left (ih (k - 5 + 1) (nxS B len p) nn nb _ _ h1 hpk hn.1 hnn hnb hln I1 (u - 1 - 1) K c1 hb2 hK) (by omega)
            rw [nI_succ] at ihk
            refine And.intro ⟨rfl, u0⟩ (And.intro (fun _ => And.intro ⟨rfl, u1⟩ (ihk _ (fun I2 o => ?_))) (fun z => absurd c4 z))
            exact And.intro rfl (And.intro (fun z => absurd rfl z) (fun _ => And.intro rfl (hK I2 o)))
          · obtain ⟨w1, p1, -⟩ := (rd_ok hB _ _ _ _ _ _ _ h1 hpk hn.1).2.2 rfl
            have p1' := p1 (.inl (by omega))
            have l1 := rd_len hB h1 hpk hn.1
            have l1' : s1.2.2.2.1.length + (nxS B len p).1 ≤ p.2.2.2.1.length + s1.1 := l1
            have s1l : s1.1 ≤ len := by have := w1.1; have := w1.2.1; omega
            have ihk := fun K hK => And.left (ih (k - 5 + 1) (nxS B len p) nn nb _ _ h1 hpk hn.1 hnn hnb hln I1 (u - 1 - 1) K c1 hb2 hK) (by omega)
            rw [nI_succ] at ihk
            refine And.intro ⟨rfl, u0⟩ (And.intro (fun _ => And.intro ⟨rfl, u1⟩ (ihk _ (fun I2 o => ?_))) (fun z => absurd c4 z))
            refine And.intro rfl (And.intro (fun _ => And.intro ⟨rfl, u0⟩ (c_putP (p := s1) (y := -p.2.2.1) (congrArg (fun z => -z) h4) (by omega) o fun I3 c3 => ?_)) (fun z => absurd m1z z))
            by_cases k7 : k = 7
            · rw [if_pos k7] at h2
              cases h2
              have n2 : ¬ ¬ nI (k - 5) = 2 := fun z => z (by rw [k7]; rfl)
              exact And.intro (fun z => absurd z n2) (fun _ => And.intro rfl (hK I3 c3))
            · rw [if_neg k7] at h2
              have n2 : ¬ nI (k - 5) = 2 := fun z => by have := (nI_eq (b := 2) (by omega) (by decide)).mp z; omega
              have lp := And.left (And.right (ih k (ptS s1 (-p.2.2.1)) nn nb _ _ h2 hk w1 hnn hnb (by show (s1.2.2.2.1 ++ [-p.2.2.1]).length ≤ s1.1; rw [List.length_append]; show s1.2.2.2.1.length + 1 ≤ s1.1; omega) I3 u K c3 (by unfold bD; omega) hK)) k5 k10 (i + 1) (.int (I 72 4)) (by show i + 1 ≤ s1.1; omega)
              rw [nI_succ] at lp
              exact And.intro (fun _ => lp) (fun z => absurd n2 z)
      · rw [rd_e n5 k10 hj] at h
        cases h
        have kk := hK I hc
        by_cases c96 : 96 ≤ i
        · have ci : (96 : Int32) ≤ nI i := nI_le (a := 96) c96 (by have := hw.1; have := hw.2.1; omega)
          refine am_wq_T (cut := fun z pc => (Nat.beq z 47 && Nat.beq pc 12)) (inl := fun z => !((Nat.beq z 47 || (Nat.beq z 49 || (Nat.beq z 56 || (Nat.beq z 50 || Nat.beq z 43)))))) 120 _ _ _ ?_
          exact And.intro (fun _ => And.intro rfl kk) (fun z => absurd ci z)
        · have ci : ¬ (96 : Int32) ≤ nI i := nI_ge (a := i) (b := 96) (by omega) (by decide)
          refine am_wq_T (cut := fun z pc => (Nat.beq z 47 && Nat.beq pc 12)) (inl := fun z => !((Nat.beq z 47 || (Nat.beq z 49 || (Nat.beq z 56 || (Nat.beq z 50 || Nat.beq z 43)))))) 120 _ _ _ ?_
          exact And.intro (fun z => absurd z ci) (fun _ => And.intro ⟨rfl, u0⟩ (c_jn (l := k - 5) (by omega) h4 (fun z => absurd z hj) (fun _ => And.intro (fun _ => And.intro rfl kk) (fun z => absurd rfl z))))
    · subst e10
      have hb10 : bK 10 = 0 := rfl
      unfold bD at hu
      have u2 : 2 < u := by omega
      have u4 : 4 < u := by omega
      have u0 : 0 < u := by omega
      have u10 : 0 < u - 1 := by omega
      have u11 : 1 < u - 1 := by omega
      rw [rd_p] at h
      have lt96 : p.2.2.1 ≠ -1 → p.2.2.2.1.length < 96 := fun z => by have := hw.2.2.1 z; have := hw.2.1; omega
      by_cases g1 : p.2.2.1 = 257
      · rw [if_pos g1] at h
        have e1 : I 72 4 = 257 := h4.trans g1
        have n33 : ¬ I 72 4 = 33 := by rw [e1]; decide
        have n40 : ¬ I 72 4 = 40 := by rw [e1]; decide
        have n256 : ¬ I 72 4 = 256 := by rw [e1]; decide
        refine am_wq_T (cut := fun _ _ => false) (inl := fun z => !((Nat.beq z 47 || (Nat.beq z 51 || (Nat.beq z 52 || (Nat.beq z 56 || (Nat.beq z 50 || Nat.beq z 43))))))) 120 _ _ _ ?_
        refine And.intro rfl (And.intro (fun z => absurd z n33) (fun _ => And.intro (fun z => absurd z n40) (fun _ => And.intro (fun z => absurd z n256) (fun _ => And.intro (fun _ => And.intro ⟨rfl, u2⟩ (c_num hT hc hw (lt96 (by rw [g1]; decide)) (fun c I1 c1 => ?_) (fun c => ?_))) (fun z => absurd e1 z)))))
        · rw [if_pos c] at h
          cases h
          exact And.intro rfl (hK I1 c1)
        · rw [if_neg c] at h
          cases h
          exact And.intro rfl (hK I (oC_p hc))
      · rw [if_neg g1] at h
        have n257 : ¬ I 72 4 = 257 := by rw [h4]; exact g1
        by_cases g2 : p.2.2.1 = 256
        · rw [if_pos g2] at h
          have e1 : I 72 4 = 256 := h4.trans g2
          have n33 : ¬ I 72 4 = 33 := by rw [e1]; decide
          have n40 : ¬ I 72 4 = 40 := by rw [e1]; decide
          have hs1 := hw.2.2.1 (by rw [g2]; decide)
          refine am_wq_T (cut := fun _ _ => false) (inl := fun z => !((Nat.beq z 47 || (Nat.beq z 51 || (Nat.beq z 52 || (Nat.beq z 56 || (Nat.beq z 50 || Nat.beq z 43))))))) 120 _ _ _ ?_
          refine And.intro rfl (And.intro (fun z => absurd z n33) (fun _ => And.intro (fun z => absurd z n40) (fun _ => And.intro (fun _ => And.intro ⟨rfl, u4⟩ (c_nam hT hk3 hk5 hF hc hw ⟨hw.2.2.2.2 g2, by have := hw.2.1; omega⟩ (lt96 (by rw [g2]; decide)) (fun c I1 c1 => ?_) (fun c => ?_))) (fun z => absurd e1 z))))
          · rw [if_pos c] at h
            cases h
            exact And.intro rfl (hK I1 c1)
          · rw [if_neg c] at h
            cases h
            exact And.intro rfl (hK I (oC_p hc))
        · rw [if_neg g2] at h
          have n256 : ¬ I 72 4 = 256 := by rw [h4]; exact g2
          by_cases g3 : p.2.2.1 = 33
          · rw [if_pos g3] at h
            have e1 : I 72 4 = 33 := h4.trans g3
            have e8 : I 72 8 = nI nn := hc.2.2.2.2.2.2.2.2.1
            have hs1 := hw.2.2.1 (by rw [g3]; decide)
            have hw2 := hw.2.1
            by_cases c : nn < 8
            · rw [if_pos c] at h
              have c8 : I 72 8 < 8 := by rw [e8]; exact nI_lt (b := 8) c (by decide)
              have hn := nxS_ws (B := B) hw.2.1
              have hln : (nxS B len p).2.2.2.1.length ≤ (nxS B len p).1 := by
                show p.2.2.2.1.length ≤ _
                omega
              have hb2 : bD (nn + 1) nb + bK 10 ≤ u - 1 - 1 := by unfold bD; show _ + 0 ≤ _; omega
              refine am_wq_T (cut := fun _ _ => false) (inl := fun z => !((Nat.beq z 47 || (Nat.beq z 51 || (Nat.beq z 52 || (Nat.beq z 56 || (Nat.beq z 50 || Nat.beq z 43))))))) 120 _ _ _ ?_
              refine And.intro rfl (And.intro (fun _ => And.intro ⟨rfl, u0⟩ (And.intro rfl (And.intro (fun _ => And.intro rfl (And.intro rfl (And.intro ⟨rfl, u11⟩ (c_stepP hT hw.2.1 (cP_8 (v := I 72 8 + 1) (m := nn + 1) (by rw [e8, nI_1]) hc) fun I1 c1 => And.intro ⟨rfl, u10⟩ ?_)))) (fun z => absurd c8 z)))) (fun z => absurd e1 z))
              rcases rdB_some h with ⟨s1, h1, hx⟩ | ⟨s1, h1, h2⟩
              · cases hx
                refine And.right (And.right (ih 10 (nxS B len p) (nn + 1) nb _ _ h1 (Nat.le_refl _) hn.1 (by omega) hnb hln I1 (u - 1 - 1) _ c1 hb2 (fun I2 o => ?_))) rfl
                exact And.intro (fun z => absurd rfl z) (fun _ => And.intro rfl (And.intro rfl (hK I2 (oC_f o))))
              · cases h2
                obtain ⟨w1, p1, -⟩ := (rd_ok hB _ _ _ _ _ _ _ h1 (Nat.le_refl _) hn.1).2.2 rfl
                have l1 := rd_len hB h1 (Nat.le_refl _) hn.1
                have l1' : s1.2.2.2.1.length + (nxS B len p).1 ≤ p.2.2.2.1.length + s1.1 := l1
                have s1l : s1.1 ≤ len := by have := w1.1; have := w1.2.1; omega
                refine And.right (And.right (ih 10 (nxS B len p) (nn + 1) nb _ _ h1 (Nat.le_refl _) hn.1 (by omega) hnb hln I1 (u - 1 - 1) _ c1 hb2 (fun I2 o => ?_))) rfl
                have o' : cP I0 I2 s1 (nn + 1) nb := o
                have c3 := cP_8 (v := I2 72 8 - 1) (m := nn) (by rw [o'.2.2.2.2.2.2.2.2.1]; exact nI_pred nn) o'
                exact And.intro (fun _ => And.intro rfl (And.intro rfl (And.intro ⟨rfl, u10⟩ (c_putP (p := s1) (y := -33) rfl (by omega) c3 fun I4 c4 => And.intro rfl (And.intro rfl (hK I4 c4)))))) (fun z => absurd m1z z)
            · rw [if_neg c] at h
              cases h
              have c8 : ¬ I 72 8 < 8 := by rw [e8]; exact nI_nlt (b := 8) (by omega) (by omega)
              refine am_wq_T (cut := fun _ _ => false) (inl := fun z => !((Nat.beq z 47 || (Nat.beq z 51 || (Nat.beq z 52 || (Nat.beq z 56 || (Nat.beq z 50 || Nat.beq z 43))))))) 120 _ _ _ ?_
              exact And.intro rfl (And.intro (fun _ => And.intro ⟨rfl, u0⟩ (And.intro rfl (And.intro (fun z => absurd z c8) (fun _ => And.intro rfl (And.intro rfl (hK I (oC_p hc))))))) (fun z => absurd e1 z))
          · rw [if_neg g3] at h
            have n33 : ¬ I 72 4 = 33 := by rw [h4]; exact g3
            by_cases g4 : p.2.2.1 = 40
            · rw [if_pos g4] at h
              have e1 : I 72 4 = 40 := h4.trans g4
              have e7 : I 72 7 = nI nb := hc.2.2.2.2.2.2.2.1
              have hs1 := hw.2.2.1 (by rw [g4]; decide)
              have hw2 := hw.2.1
              by_cases c : nb < 8
              · rw [if_pos c] at h
                have c8 : I 72 7 < 8 := by rw [e7]; exact nI_lt (b := 8) c (by decide)
                have hn := nxS_ws (B := B) hw.2.1
                have hln : (nxS B len p).2.2.2.1.length ≤ (nxS B len p).1 := by
                  show p.2.2.2.1.length ≤ _
                  omega
                have hb2 : bD nn (nb + 1) + bK 0 ≤ u - 1 - 1 := by unfold bD; show _ + 10 ≤ _; omega
                refine am_wq_T (cut := fun _ _ => false) (inl := fun z => !((Nat.beq z 47 || (Nat.beq z 51 || (Nat.beq z 52 || (Nat.beq z 56 || (Nat.beq z 50 || Nat.beq z 43))))))) 120 _ _ _ ?_
                refine And.intro rfl (And.intro (fun z => absurd z n33) (fun _ => And.intro (fun _ => And.intro ⟨rfl, u0⟩ (And.intro rfl (And.intro (fun _ => And.intro rfl (And.intro rfl (And.intro ⟨rfl, u11⟩ (c_stepP hT hw.2.1 (cP_7 (v := I 72 7 + 1) (m := nb + 1) (by rw [e7, nI_1]) hc) fun I1 c1 => And.intro ⟨rfl, u10⟩ ?_)))) (fun z => absurd c8 z)))) (fun z => absurd e1 z)))
                rcases rdB_some h with ⟨s1, h1, hx⟩ | ⟨s1, h1, h2⟩
                · cases hx
                  refine And.left (ih 0 (nxS B len p) nn (nb + 1) _ _ h1 (Nat.zero_le _) hn.1 hnn (by omega) hln I1 (u - 1 - 1) _ c1 hb2 (fun I2 o => ?_)) (by decide)
                  exact And.intro (fun _ => And.intro rfl (And.intro rfl (hK I2 (oC_f o)))) (fun z => absurd rfl z)
                · obtain ⟨w1, p1, -⟩ := (rd_ok hB _ _ _ _ _ _ _ h1 (Nat.zero_le _) hn.1).2.2 rfl
                  refine And.left (ih 0 (nxS B len p) nn (nb + 1) _ _ h1 (Nat.zero_le _) hn.1 hnn (by omega) hln I1 (u - 1 - 1) _ c1 hb2 (fun I2 o => ?_)) (by decide)
                  have o' : cP I0 I2 s1 nn (nb + 1) := o
                  have s4 : I2 72 4 = s1.2.2.1 := o'.2.2.2.2.2.1
                  by_cases g5 : s1.2.2.1 = 41
                  · rw [if_pos g5] at h2
                    cases h2
                    have c3 := cP_7 (v := I2 72 7 - 1) (m := nb) (by rw [o'.2.2.2.2.2.2.2.1]; exact nI_pred nb) o'
                    exact And.intro (fun z => absurd z m1z) (fun _ => And.intro rfl (And.intro (fun _ => And.intro rfl (And.intro rfl (And.intro ⟨rfl, u11⟩ (c_stepP (p := s1) hT w1.2.1 c3 fun I4 c4 => And.intro rfl (And.intro rfl (hK I4 c4)))))) (fun z => absurd (s4.trans g5) z)))
                  · rw [if_neg g5] at h2
                    cases h2
                    exact And.intro (fun z => absurd z m1z) (fun _ => And.intro rfl (And.intro (fun z => absurd (s4.symm.trans z) g5) (fun _ => And.intro rfl (And.intro rfl (hK I2 (oC_p o'))))))
              · rw [if_neg c] at h
                cases h
                have c8 : ¬ I 72 7 < 8 := by rw [e7]; exact nI_nlt (b := 8) (by omega) (by omega)
                refine am_wq_T (cut := fun _ _ => false) (inl := fun z => !((Nat.beq z 47 || (Nat.beq z 51 || (Nat.beq z 52 || (Nat.beq z 56 || (Nat.beq z 50 || Nat.beq z 43))))))) 120 _ _ _ ?_
                exact And.intro rfl (And.intro (fun z => absurd z n33) (fun _ => And.intro (fun _ => And.intro ⟨rfl, u0⟩ (And.intro rfl (And.intro (fun z => absurd z c8) (fun _ => And.intro rfl (And.intro rfl (hK I (oC_p hc))))))) (fun z => absurd e1 z)))
            · rw [if_neg g4] at h
              cases h
              have n40 : ¬ I 72 4 = 40 := by rw [h4]; exact g4
              refine am_wq_T (cut := fun _ _ => false) (inl := fun z => !((Nat.beq z 47 || (Nat.beq z 51 || (Nat.beq z 52 || (Nat.beq z 56 || (Nat.beq z 50 || Nat.beq z 43))))))) 120 _ _ _ ?_
              exact And.intro rfl (And.intro (fun z => absurd z n33) (fun _ => And.intro (fun z => absurd z n40) (fun _ => And.intro (fun z => absurd z n256) (fun _ => And.intro (fun z => absurd z n257) (fun _ => And.intro rfl (hK I (oC_p hc)))))))
end T94
