/-! what reading an expression comes to -/
section T90
variable {B : Nat → Int32} {len key f k nn nb : Nat} {s : pSt}
theorem nv_b (hB : ∀ k, k < len → sg_in (B k) 0 255) {a : Nat} : ∀ j, a + j ≤ len → (∀ k, a ≤ k → k < a + j → srt (B k) = 257) → ∃ m, m < 10 ^ j ∧ nv B a j = nI m
  | 0, _, _ => ⟨0, by decide, rfl⟩
  | j + 1, h, hd => by
    obtain ⟨m, hm, e⟩ := nv_b hB j (by omega) (fun k h1 h2 => hd k h1 (by omega))
    have d := (srt_f (hB (a + j) (by omega))).mp (hd (a + j) (by omega) (by omega))
    obtain ⟨b, hb, eb⟩ := nI_of (x := B (a + j)) (by
      have d1 := d.1
      (simp only [Int32.lt_iff_toInt_lt, Int32.le_iff_toInt_le, gt_iff_lt, ge_iff_le, ← Int32.toInt_inj, Int32.reduceToInt, Int32.reduceMul, Int32.reduceAdd, Int32.reduceSub, ne_eq, true_and, and_true, false_and, and_false, not_true_eq_false, not_false_eq_true, true_or, or_true, false_or, or_false] at *; omega))
    have b48 : 48 ≤ b := by
      rcases Nat.lt_or_ge b 48 with u | u
      · exact absurd (by rw [eb]; exact nI_lt (b := 48) u (by decide)) d.1
      · exact u
    have b57 : b ≤ 57 := by
      rcases Nat.lt_or_ge 57 b with u | u
      · exact absurd (by rw [eb]; exact nI_lt (a := 57) u hb) d.2
      · exact u
    have hp : 10 ^ (j + 1) = 10 ^ j * 10 := Nat.pow_succ 10 j
    refine ⟨m * 10 + b - 48, by omega, ?_⟩
    show nv B a j * 10 + B (a + j) - 48 = _
    rw [e, eb, show (10 : Int32) = nI 10 from rfl, pk_mul, nI_add, show (48 : Int32) = nI 48 from rfl, nI_subI (by omega)]
theorem okC_v {m : Nat} (hm : m < 10000) : okC key (nI m) := by
  have h1 : -3 ≤ nI m := by
    rw [Int32.le_iff_toInt_le, nI_toInt (by omega)]
    show (-3 : Int) ≤ m
    omega
  refine ⟨.inl ⟨h1, nI_le (b := 9999) (by omega) (by decide)⟩, fun _ z => ?_⟩
  have := congrArg Int32.toInt z
  rw [nI_toInt (by omega)] at this
  have h3 : (m : Int) = -3 := this
  omega
theorem le_m3 {m : Nat} (hm : m < 10000) : (-3 : Int32) ≤ nI m := by
  rw [Int32.le_iff_toInt_le, nI_toInt (by omega)]
  show (-3 : Int) ≤ m
  omega
/-- a name's code -/
theorem nm_v {x : Int32} (h : ¬ nmV key x < 0) : ((-1 - nmV key x) = -1 ∨ (-1 - nmV key x) = -2 ∨ (-1 - nmV key x) = -3) ∧ (key ≠ 1 → (-1 - nmV key x) ≠ -3) := by
  unfold nmV at h ⊢
  by_cases k0 : key = 0
  · rw [if_pos k0] at h ⊢
    by_cases c1 : x = 100
    · rw [if_pos c1]; exact ⟨.inl (by decide), fun _ => by decide⟩
    · rw [if_neg c1] at h ⊢
      by_cases c2 : x = 111
      · rw [if_pos c2]; exact ⟨.inr (.inl (by decide)), fun _ => by decide⟩
      · rw [if_neg c2] at h; exact absurd (by decide) h
  · rw [if_neg k0] at h ⊢
    by_cases k1 : key = 1
    · rw [if_pos k1] at h ⊢
      by_cases c1 : x = 120
      · rw [if_pos c1]; exact ⟨.inl (by decide), fun z => absurd k1 z⟩
      · rw [if_neg c1] at h ⊢
        by_cases c2 : x = 100
        · rw [if_pos c2]; exact ⟨.inr (.inl (by decide)), fun z => absurd k1 z⟩
        · rw [if_neg c2] at h ⊢
          by_cases c3 : x = 97
          · rw [if_pos c3]; exact ⟨.inr (.inr (by decide)), fun z => absurd k1 z⟩
          · rw [if_neg c3] at h; exact absurd (by decide) h
    · rw [if_neg k1] at h ⊢
      by_cases c1 : x = 101
      · rw [if_pos c1]; exact ⟨.inl (by decide), fun _ => by decide⟩
      · rw [if_neg c1] at h ⊢
        by_cases c2 : x = 108
        · rw [if_pos c2]; exact ⟨.inr (.inl (by decide)), fun _ => by decide⟩
        · rw [if_neg c2] at h; exact absurd (by decide) h
theorem okC_nm {x : Int32} (h : ¬ nmV key x < 0) : okC key (-1 - nmV key x) ∧ -3 ≤ -1 - nmV key x := by
  obtain ⟨h1, h2⟩ := nm_v h
  refine ⟨⟨.inl ?_, h2⟩, ?_⟩
  · rcases h1 with e | e | e
    all_goals rw [e]; exact ⟨by decide, by decide⟩
  · rcases h1 with e | e | e
    all_goals rw [e]; decide
/-- what a part comes to -/
def rdO (key len : Nat) (B : Nat → Int32) (k : Nat) (s r : pSt) : Prop := ws B len r ∧ ((k < 5 ∨ k = 10) → s.1 < r.1) ∧ ∃ new, r.2.2.2.1 = s.2.2.2.1 ++ new ∧ new.length + s.1 ≤ r.1 ∧ (∀ x, x ∈ new → okC key x) ∧ ∀ d, sg_dp new (if 5 ≤ k ∧ k < 10 then d + 1 else d) = some (d + 1)
theorem rd_ok (hB : ∀ k, k < len → sg_in (B k) 0 255) : ∀ (f k : Nat) (s : pSt) (nn nb : Nat) (b : Bool) (r : pSt), rd B len key f k s nn nb = some (b, r) → k ≤ 10 → ws B len s → s.1 ≤ r.1 ∧ r.1 ≤ len ∧ (b = true → rdO key len B k s r) := by
  intro f
  induction f with
  | zero => intro k s nn nb b r h; cases h
  | succ f ih =>
    intro k s nn nb b r h hk hw
    by_cases k5 : k < 5
    · have hpk : pk k ≤ 10 ∧ (pk k < 5 ∨ pk k = 10) := by unfold pk; split <;> omega
      rw [rd_j k5] at h
      rcases rdB_some h with ⟨s1, h1, hx⟩ | ⟨s1, h1, h2⟩
      · cases hx
        have i1 := ih _ _ _ _ _ _ h1 hpk.1 hw
        exact ⟨i1.1, i1.2.1, fun z => absurd z (by decide)⟩
      · obtain ⟨i1, i2, i3⟩ := ih _ _ _ _ _ _ h1 hpk.1 hw
        obtain ⟨w1, p1, n1, e1, l1, o1, d1⟩ := i3 rfl
        obtain ⟨j1, j2, j3⟩ := ih _ _ _ _ _ _ h2 (by omega) w1
        refine ⟨by omega, j2, fun z => ?_⟩
        obtain ⟨w2, p2, n2, e2, l2, o2, d2⟩ := j3 z
        refine ⟨w2, fun _ => by have := p1 hpk.2; omega, n1 ++ n2, by rw [e2, e1, List.append_assoc], by rw [List.length_append]; omega, fun x hx => (List.mem_append.mp hx).elim (o1 x) (o2 x), fun d => ?_⟩
        have q1 := d1 d
        have q2 := d2 d
        rw [if_neg (by omega)] at q1
        rw [if_pos (by omega)] at q2
        rw [if_neg (by omega), dp_app n1 n2 d (d + 1) q1]
        exact q2
    · by_cases k10 : k < 10
      · by_cases hj : jn (k - 5) s.2.2.1 = true
        · have hpk : pk (k - 5) ≤ 10 ∧ (pk (k - 5) < 5 ∨ pk (k - 5) = 10) := by unfold pk; split <;> omega
          have hs1 := hw.2.2.1 (jn_m1 hj)
          have hn := nxS_ws (B := B) hw.2.1
          rw [rd_l k5 k10 hj] at h
          rcases rdB_some h with ⟨s1, h1, hx⟩ | ⟨s1, h1, h2⟩
          · cases hx
            have i1 := ih _ _ _ _ _ _ h1 hpk.1 hn.1
            exact ⟨by omega, i1.2.1, fun z => absurd z (by decide)⟩
          · obtain ⟨i1, i2, i3⟩ := ih _ _ _ _ _ _ h1 hpk.1 hn.1
            obtain ⟨w1, p1, n1, e1, l1, o1, d1⟩ := i3 rfl
            have q1 := fun d => d1 (d + 1)
            have e1' : s1.2.2.2.1 = s.2.2.2.1 ++ n1 := e1
            by_cases k7 : k = 7
            · rw [if_pos k7] at h2
              cases h2
              refine ⟨by show s.1 ≤ s1.1; omega, i2, fun _ => ⟨w1, fun u => by omega, n1 ++ [-s.2.2.1], ?_, ?_, fun x hx => (List.mem_append.mp hx).elim (o1 x) (fun u => by rw [List.mem_singleton.mp u]; exact okC_j hj), fun d => ?_⟩⟩
              · show s1.2.2.2.1 ++ [-s.2.2.1] = _
                rw [e1', List.append_assoc]
              · show (n1 ++ [-s.2.2.1]).length + s.1 ≤ s1.1
                rw [List.length_append]
                show n1.length + 1 + s.1 ≤ s1.1
                omega
              · have q := q1 d
                rw [if_neg (by omega)] at q
                rw [if_pos (by omega), dp_app n1 _ (d + 1) (d + 2) q]
                exact dp_j hj d
            · rw [if_neg k7] at h2
              obtain ⟨j1, j2, j3⟩ := ih _ _ _ _ _ _ h2 hk w1
              have j1' : s1.1 ≤ r.1 := j1
              refine ⟨by omega, j2, fun z => ?_⟩
              obtain ⟨w2, p2, n2, e2, l2, o2, d2⟩ := j3 z
              have e2' : r.2.2.2.1 = s1.2.2.2.1 ++ [-s.2.2.1] ++ n2 := e2
              have l2' : n2.length + s1.1 ≤ r.1 := l2
              refine ⟨w2, fun u => by omega, n1 ++ ([-s.2.2.1] ++ n2), ?_, ?_, fun x hx => (List.mem_append.mp hx).elim (o1 x) (fun u => (List.mem_append.mp u).elim (fun u => by rw [List.mem_singleton.mp u]; exact okC_j hj) (o2 x)), fun d => ?_⟩
              · rw [e2', e1', List.append_assoc, List.append_assoc]
              · rw [List.length_append, List.length_append]
                show n1.length + (1 + n2.length) + s.1 ≤ r.1
                omega
              · have q := q1 d
                have q2 := d2 d
                rw [if_neg (by omega)] at q
                rw [if_pos (by omega)] at q2 ⊢
                rw [dp_app n1 _ (d + 1) (d + 2) q, dp_app [-s.2.2.1] n2 (d + 2) (d + 1) (dp_j hj d)]
                exact q2
        · rw [rd_e k5 k10 hj] at h
          cases h
          refine ⟨Nat.le_refl _, by have := hw.1; have := hw.2.1; omega, fun _ => ⟨hw, fun u => by omega, [], (List.append_nil _).symm, by show 0 + s.1 ≤ s.1; omega, fun x hx => absurd hx (List.not_mem_nil), fun d => ?_⟩⟩
          rw [if_pos (by omega)]
          rfl
      · have ek : k = 10 := by omega
        subst ek
        rw [rd_p] at h
        have dK : ∀ d : Nat, (if 5 ≤ 10 ∧ 10 < 10 then d + 1 else d) = d := fun d => if_neg (by omega)
        have le : s.1 ≤ len := by have := hw.1; have := hw.2.1; omega
        by_cases g1 : s.2.2.1 = 257
        · rw [if_pos g1] at h
          have hs1 := hw.2.2.1 (by rw [g1]; decide)
          by_cases c : s.2.1 - s.1 ≤ 4
          · rw [if_pos c] at h
            cases h
            have hn := nxS_ws (B := B) (s := atS (ptS s (nv B s.1 (s.2.1 - s.1)))) hw.2.1
            have hn2 : s.2.1 ≤ (nxS B len (atS (ptS s (nv B s.1 (s.2.1 - s.1))))).1 := hn.2
            obtain ⟨m, hm, em⟩ := nv_b hB (a := s.1) (s.2.1 - s.1) (by have := hw.2.1; omega) (fun k h1 h2 => hw.2.2.2.1 g1 k h1 (by omega))
            have h4 : 10 ^ (s.2.1 - s.1) ≤ 10 ^ 4 := Nat.pow_le_pow_right (by decide) c
            have hm4 : m < 10000 := by omega
            refine ⟨by omega, by have := hn.1.1; have := hn.1.2.1; omega, fun _ => ⟨hn.1, fun _ => by omega, [nv B s.1 (s.2.1 - s.1)], rfl, by show 1 + s.1 ≤ _; omega, fun x hx => by rw [List.mem_singleton.mp hx, em]; exact okC_v hm4, fun d => ?_⟩⟩
            rw [dK]
            exact dp_v (by rw [em]; exact le_m3 hm4) d
          · rw [if_neg c] at h
            cases h
            exact ⟨Nat.le_refl _, le, fun z => absurd z (by decide)⟩
        · rw [if_neg g1] at h
          by_cases g2 : s.2.2.1 = 256
          · rw [if_pos g2] at h
            have hs1 := hw.2.2.1 (by rw [g2]; decide)
            by_cases c : s.2.1 - s.1 = 1 ∧ ¬ nmV key (B s.1) < 0
            · rw [if_pos c] at h
              cases h
              have hn := nxS_ws (B := B) (s := atS (ptS s (-1 - nmV key (B s.1)))) hw.2.1
              have hn2 : s.2.1 ≤ (nxS B len (atS (ptS s (-1 - nmV key (B s.1))))).1 := hn.2
              have ok := okC_nm c.2
              refine ⟨by omega, by have := hn.1.1; have := hn.1.2.1; omega, fun _ => ⟨hn.1, fun _ => by omega, [-1 - nmV key (B s.1)], rfl, by show 1 + s.1 ≤ _; omega, fun x hx => by rw [List.mem_singleton.mp hx]; exact ok.1, fun d => ?_⟩⟩
              rw [dK]
              exact dp_v ok.2 d
            · rw [if_neg c] at h
              cases h
              exact ⟨Nat.le_refl _, le, fun z => absurd z (by decide)⟩
          · rw [if_neg g2] at h
            by_cases g3 : s.2.2.1 = 33
            · rw [if_pos g3] at h
              have hs1 := hw.2.2.1 (by rw [g3]; decide)
              by_cases c : nn < 8
              · rw [if_pos c] at h
                have hn := nxS_ws (B := B) hw.2.1
                rcases rdB_some h with ⟨s1, h1, hx⟩ | ⟨s1, h1, h2⟩
                · cases hx
                  have i1 := ih _ _ _ _ _ _ h1 (Nat.le_refl _) hn.1
                  exact ⟨by omega, i1.2.1, fun z => absurd z (by decide)⟩
                · obtain ⟨i1, i2, i3⟩ := ih _ _ _ _ _ _ h1 (Nat.le_refl _) hn.1
                  obtain ⟨w1, p1, n1, e1, l1, o1, d1⟩ := i3 rfl
                  cases h2
                  have e1' : s1.2.2.2.1 = s.2.2.2.1 ++ n1 := e1
                  refine ⟨by show s.1 ≤ s1.1; omega, i2, fun _ => ⟨w1, fun _ => by show s.1 < s1.1; omega, n1 ++ [-33], ?_, ?_, fun x hx => (List.mem_append.mp hx).elim (o1 x) (fun u => by rw [List.mem_singleton.mp u]; exact okC_n), fun d => ?_⟩⟩
                  · show s1.2.2.2.1 ++ [-33] = _
                    rw [e1', List.append_assoc]
                  · show (n1 ++ [-33]).length + s.1 ≤ s1.1
                    rw [List.length_append]
                    show n1.length + 1 + s.1 ≤ s1.1
                    omega
                  · have q := d1 d
                    rw [dK] at q ⊢
                    rw [dp_app n1 _ d (d + 1) q]
                    exact dp_n d
              · rw [if_neg c] at h
                cases h
                exact ⟨Nat.le_refl _, le, fun z => absurd z (by decide)⟩
            · rw [if_neg g3] at h
              by_cases g4 : s.2.2.1 = 40
              · rw [if_pos g4] at h
                have hs1 := hw.2.2.1 (by rw [g4]; decide)
                by_cases c : nb < 8
                · rw [if_pos c] at h
                  have hn := nxS_ws (B := B) hw.2.1
                  rcases rdB_some h with ⟨s1, h1, hx⟩ | ⟨s1, h1, h2⟩
                  · cases hx
                    have i1 := ih _ _ _ _ _ _ h1 (Nat.zero_le _) hn.1
                    exact ⟨by omega, i1.2.1, fun z => absurd z (by decide)⟩
                  · obtain ⟨i1, i2, i3⟩ := ih _ _ _ _ _ _ h1 (Nat.zero_le _) hn.1
                    obtain ⟨w1, p1, n1, e1, l1, o1, d1⟩ := i3 rfl
                    have e1' : s1.2.2.2.1 = s.2.2.2.1 ++ n1 := e1
                    by_cases g5 : s1.2.2.1 = 41
                    · rw [if_pos g5] at h2
                      cases h2
                      have hn1 := nxS_ws (B := B) w1.2.1
                      have w1b := w1.1
                      refine ⟨by omega, by have := hn1.1.1; have := hn1.1.2.1; omega, fun _ => ⟨hn1.1, fun _ => by omega, n1, e1', by omega, o1, fun d => ?_⟩⟩
                      have q := d1 d
                      rw [if_neg (by omega)] at q
                      rw [dK]
                      exact q
                    · rw [if_neg g5] at h2
                      cases h2
                      exact ⟨by omega, i2, fun z => absurd z (by decide)⟩
                · rw [if_neg c] at h
                  cases h
                  exact ⟨Nat.le_refl _, le, fun z => absurd z (by decide)⟩
              · rw [if_neg g4] at h
                cases h
                exact ⟨Nat.le_refl _, le, fun z => absurd z (by decide)⟩
end T90
