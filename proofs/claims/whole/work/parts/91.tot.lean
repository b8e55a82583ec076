/-! reading comes to an end; names -/
section T91
variable {B : Nat → Int32} {len key f k nn nb : Nat} {s : pSt}
def rnk (k : Nat) : Nat := if k < 5 then 20 - k else if k < 10 then 0 else 10
theorem rd_tot (hB : ∀ k, k < len → sg_in (B k) 0 255) : ∀ (f k : Nat) (s : pSt) (nn nb : Nat), k ≤ 10 → ws B len s → 32 * (len - s.1) + rnk k < f → ∃ x, rd B len key f k s nn nb = some x := by
  intro f
  induction f with
  | zero => intro k s nn nb _ _ h; exact absurd h (Nat.not_lt_zero _)
  | succ f ih =>
    intro k s nn nb hk hw hm
    have hl : s.1 ≤ len := by have := hw.1; have := hw.2.1; omega
    by_cases k5 : k < 5
    · rw [rd_j k5]
      have hpk : pk k ≤ 10 ∧ rnk (pk k) < rnk k ∧ (pk k < 5 ∨ pk k = 10) := by
        unfold pk rnk
        by_cases e : k = 4
        · rw [if_pos e, e]; decide
        · rw [if_neg e, if_pos k5, if_pos (by omega)]; omega
      obtain ⟨⟨b, s1⟩, h1⟩ := ih (pk k) s nn nb hpk.1 hw (by omega)
      rw [h1]
      cases b with
      | false => exact ⟨_, rdB_f⟩
      | true =>
        rw [rdB_t]
        have o := (rd_ok hB _ _ _ _ _ _ _ h1 hpk.1 hw).2.2 rfl
        have p := o.2.1 hpk.2.2
        have l1 : s1.1 ≤ len := by have := o.1.1; have := o.1.2.1; omega
        exact ih (k + 5) s1 nn nb (by omega) o.1 (by
          have : rnk (k + 5) = 0 := by unfold rnk; rw [if_neg (by omega), if_pos (by omega)]
          have : rnk k ≥ 10 := by unfold rnk; rw [if_pos k5]; omega
          omega)
    · by_cases k10 : k < 10
      · by_cases hj : jn (k - 5) s.2.2.1 = true
        · rw [rd_l k5 k10 hj]
          have hs1 := hw.2.2.1 (jn_m1 hj)
          have hn := nxS_ws (B := B) hw.2.1
          have hpk : pk (k - 5) ≤ 10 ∧ rnk (pk (k - 5)) ≤ 20 ∧ (pk (k - 5) < 5 ∨ pk (k - 5) = 10) := by
            unfold pk rnk
            by_cases e : k - 5 = 4
            · rw [if_pos e]; decide
            · rw [if_neg e, if_pos (by omega)]; omega
          have n1 : (nxS B len s).1 ≤ len := by have := hn.1.1; have := hn.1.2.1; omega
          obtain ⟨⟨b, s1⟩, h1⟩ := ih (pk (k - 5)) (nxS B len s) nn nb hpk.1 hn.1 (by omega)
          rw [h1]
          cases b with
          | false => exact ⟨_, rdB_f⟩
          | true =>
            rw [rdB_t]
            by_cases k7 : k = 7
            · rw [if_pos k7]; exact ⟨_, rfl⟩
            · rw [if_neg k7]
              have o := (rd_ok hB _ _ _ _ _ _ _ h1 hpk.1 hn.1).2.2 rfl
              have p := o.2.1 hpk.2.2
              have l1 : s1.1 ≤ len := by have := o.1.1; have := o.1.2.1; omega
              exact ih k (ptS s1 (-s.2.2.1)) nn nb hk o.1 (by
                show 32 * (len - s1.1) + rnk k < f
                have : rnk k = 0 := by unfold rnk; rw [if_neg (by omega), if_pos (by omega)]
                omega)
        · rw [rd_e k5 k10 hj]
          exact ⟨_, rfl⟩
      · have ek : k = 10 := by omega
        subst ek
        rw [rd_p]
        have r10 : rnk 10 = 10 := by decide
        have r0 : rnk 0 = 20 := by decide
        by_cases g1 : s.2.2.1 = 257
        · rw [if_pos g1]
          split <;> exact ⟨_, rfl⟩
        · rw [if_neg g1]
          by_cases g2 : s.2.2.1 = 256
          · rw [if_pos g2]
            split <;> exact ⟨_, rfl⟩
          · rw [if_neg g2]
            by_cases g3 : s.2.2.1 = 33
            · rw [if_pos g3]
              have hs1 := hw.2.2.1 (by rw [g3]; decide)
              have hn := nxS_ws (B := B) hw.2.1
              have n1 : (nxS B len s).1 ≤ len := by have := hn.1.1; have := hn.1.2.1; omega
              by_cases c : nn < 8
              · rw [if_pos c]
                obtain ⟨⟨b, s1⟩, h1⟩ := ih 10 (nxS B len s) (nn + 1) nb (Nat.le_refl _) hn.1 (by omega)
                rw [h1]
                cases b with
                | false => exact ⟨_, rdB_f⟩
                | true => exact ⟨_, rfl⟩
              · rw [if_neg c]; exact ⟨_, rfl⟩
            · rw [if_neg g3]
              by_cases g4 : s.2.2.1 = 40
              · rw [if_pos g4]
                have hs1 := hw.2.2.1 (by rw [g4]; decide)
                have hn := nxS_ws (B := B) hw.2.1
                have n1 : (nxS B len s).1 ≤ len := by have := hn.1.1; have := hn.1.2.1; omega
                by_cases c : nb < 8
                · rw [if_pos c]
                  obtain ⟨⟨b, s1⟩, h1⟩ := ih 0 (nxS B len s) nn (nb + 1) (Nat.zero_le _) hn.1 (by omega)
                  rw [h1]
                  cases b with
                  | false => exact ⟨_, rdB_f⟩
                  | true =>
                    rw [rdB_t]
                    by_cases g5 : s1.2.2.1 = 41
                    · rw [if_pos g5]; exact ⟨_, rfl⟩
                    · rw [if_neg g5]; exact ⟨_, rfl⟩
                · rw [if_neg c]; exact ⟨_, rfl⟩
              · rw [if_neg g4]; exact ⟨_, rfl⟩
end T91
section T91b
variable {kt : Nat → Nat × Nat} {I I' I0 : Nat → Nat → Int32} {J J' : Nat → Nat → Int64} {T T' : Nat → Nat → Nat} {n s : Nat} {K : Option Value → am_M → Prop}
theorem let_eq : ∀ m, m < 123 → ((nI m).toUInt32 % 65536).toInt32 = nI m ∧ (nI m).toInt8.toInt32 = nI m := by decide +kernel
set_option maxRecDepth 8000 in
theorem c_idx0 {y : Int32} (hy0 : ¬ y < 0) (hy1 : ¬ 255 < y) (hy : y.toInt8.toInt32 = y) (f0 : I 10 0 = 100) (f1 : I 10 1 = 111) (hK : K (some (.int (nmV 0 y))) (am_mk kt I J T n s)) : am_T am_C (207, 3, 0, [.ref 4, .int y], []) (am_mk kt I J T n s) K := by
  unfold nmV at hK
  rw [if_pos rfl] at hK
  by_cases c0 : y = 100
  · rw [if_pos c0] at hK
    have q0 : ¬ ¬ I 10 0 = y.toInt8.toInt32 := fun z => z (by rw [f0, hy, c0])
    refine am_wq_T (cut := fun _ _ => false) (inl := fun _ => true) 120 _ _ _ ?_
    exact And.intro rfl (And.intro rfl (And.intro (fun z => absurd z m1z) (fun _ => And.intro ⟨by decide, by decide⟩ (And.intro (fun z => absurd rfl z) (fun _ => And.intro rfl (And.intro (fun z => absurd z m1z) (fun _ => And.intro ⟨by decide, by decide⟩ (And.intro rfl (And.intro ⟨by decide, by decide⟩ (And.intro rfl (And.intro rfl (And.intro (fun z => absurd z m1z) (fun _ => And.intro ⟨by decide, by decide⟩ (And.intro rfl (And.intro (fun z => absurd z hy0) (fun _ => And.intro (fun z => absurd z hy1) (fun _ => And.intro rfl (And.intro (fun _ => And.intro rfl (And.intro (fun _ => And.intro (fun z => absurd z (of_decide_eq_false rfl)) (fun _ => And.intro ⟨rfl, vpd rfl⟩ (And.intro (fun z => absurd z q0) (fun _ => hK)))) (fun z => absurd (of_decide_eq_true rfl) z))) (fun z => absurd m1z z)))))))))))))))))))
  · rw [if_neg c0] at hK
    have q0 : ¬ I 10 0 = y.toInt8.toInt32 := fun z => c0 (by rw [f0, hy] at z; exact z.symm)
    by_cases c1 : y = 111
    · rw [if_pos c1] at hK
      have q1 : ¬ ¬ I 10 1 = y.toInt8.toInt32 := fun z => z (by rw [f1, hy, c1])
      refine am_wq_T (cut := fun _ _ => false) (inl := fun _ => true) 120 _ _ _ ?_
      exact And.intro rfl (And.intro rfl (And.intro (fun z => absurd z m1z) (fun _ => And.intro ⟨by decide, by decide⟩ (And.intro (fun z => absurd rfl z) (fun _ => And.intro rfl (And.intro (fun z => absurd z m1z) (fun _ => And.intro ⟨by decide, by decide⟩ (And.intro rfl (And.intro ⟨by decide, by decide⟩ (And.intro rfl (And.intro rfl (And.intro (fun z => absurd z m1z) (fun _ => And.intro ⟨by decide, by decide⟩ (And.intro rfl (And.intro (fun z => absurd z hy0) (fun _ => And.intro (fun z => absurd z hy1) (fun _ => And.intro rfl (And.intro (fun _ => And.intro rfl (And.intro (fun _ => And.intro (fun z => absurd z (of_decide_eq_false rfl)) (fun _ => And.intro ⟨rfl, vpd rfl⟩ (And.intro (fun _ => And.intro (fun z => absurd z (of_decide_eq_false rfl)) (fun _ => And.intro ⟨rfl, vpd rfl⟩ (And.intro (fun z => absurd z q1) (fun _ => hK)))) (fun z => absurd q0 z)))) (fun z => absurd (of_decide_eq_true rfl) z))) (fun z => absurd m1z z)))))))))))))))))))
    · rw [if_neg c1] at hK
      have q1 : ¬ I 10 1 = y.toInt8.toInt32 := fun z => c1 (by rw [f1, hy] at z; exact z.symm)
      refine am_wq_T (cut := fun _ _ => false) (inl := fun _ => true) 120 _ _ _ ?_
      exact And.intro rfl (And.intro rfl (And.intro (fun z => absurd z m1z) (fun _ => And.intro ⟨by decide, by decide⟩ (And.intro (fun z => absurd rfl z) (fun _ => And.intro rfl (And.intro (fun z => absurd z m1z) (fun _ => And.intro ⟨by decide, by decide⟩ (And.intro rfl (And.intro ⟨by decide, by decide⟩ (And.intro rfl (And.intro rfl (And.intro (fun z => absurd z m1z) (fun _ => And.intro ⟨by decide, by decide⟩ (And.intro rfl (And.intro (fun z => absurd z hy0) (fun _ => And.intro (fun z => absurd z hy1) (fun _ => And.intro rfl (And.intro (fun _ => And.intro rfl (And.intro (fun _ => And.intro (fun z => absurd z (of_decide_eq_false rfl)) (fun _ => And.intro ⟨rfl, vpd rfl⟩ (And.intro (fun _ => And.intro (fun z => absurd z (of_decide_eq_false rfl)) (fun _ => And.intro ⟨rfl, vpd rfl⟩ (And.intro (fun _ => And.intro (fun _ => hK) (fun z => absurd (of_decide_eq_true rfl) z)) (fun z => absurd q1 z)))) (fun z => absurd q0 z)))) (fun z => absurd (of_decide_eq_true rfl) z))) (fun z => absurd m1z z)))))))))))))))))))
set_option maxRecDepth 8000 in
theorem c_idx1 {y : Int32} (hy0 : ¬ y < 0) (hy1 : ¬ 255 < y) (hy : y.toInt8.toInt32 = y) (f0 : I 11 0 = 120) (f1 : I 11 1 = 100) (f2 : I 11 2 = 97) (hK : K (some (.int (nmV 1 y))) (am_mk kt I J T n s)) : am_T am_C (207, 3, 0, [.ref 5, .int y], []) (am_mk kt I J T n s) K := by
  unfold nmV at hK
  rw [if_neg (by decide), if_pos rfl] at hK
  by_cases c0 : y = 120
  · rw [if_pos c0] at hK
    have q0 : ¬ ¬ I 11 0 = y.toInt8.toInt32 := fun z => z (by rw [f0, hy, c0])
    refine am_wq_T (cut := fun _ _ => false) (inl := fun _ => true) 120 _ _ _ ?_
    exact And.intro rfl (And.intro rfl (And.intro (fun z => absurd z m1z) (fun _ => And.intro ⟨by decide, by decide⟩ (And.intro (fun z => absurd rfl z) (fun _ => And.intro rfl (And.intro (fun z => absurd z m1z) (fun _ => And.intro ⟨by decide, by decide⟩ (And.intro rfl (And.intro ⟨by decide, by decide⟩ (And.intro rfl (And.intro rfl (And.intro (fun z => absurd z m1z) (fun _ => And.intro ⟨by decide, by decide⟩ (And.intro rfl (And.intro (fun z => absurd z hy0) (fun _ => And.intro (fun z => absurd z hy1) (fun _ => And.intro rfl (And.intro (fun _ => And.intro rfl (And.intro (fun _ => And.intro (fun z => absurd z (of_decide_eq_false rfl)) (fun _ => And.intro ⟨rfl, vpd rfl⟩ (And.intro (fun z => absurd z q0) (fun _ => hK)))) (fun z => absurd (of_decide_eq_true rfl) z))) (fun z => absurd m1z z)))))))))))))))))))
  · rw [if_neg c0] at hK
    have q0 : ¬ I 11 0 = y.toInt8.toInt32 := fun z => c0 (by rw [f0, hy] at z; exact z.symm)
    by_cases c1 : y = 100
    · rw [if_pos c1] at hK
      have q1 : ¬ ¬ I 11 1 = y.toInt8.toInt32 := fun z => z (by rw [f1, hy, c1])
      refine am_wq_T (cut := fun _ _ => false) (inl := fun _ => true) 120 _ _ _ ?_
      exact And.intro rfl (And.intro rfl (And.intro (fun z => absurd z m1z) (fun _ => And.intro ⟨by decide, by decide⟩ (And.intro (fun z => absurd rfl z) (fun _ => And.intro rfl (And.intro (fun z => absurd z m1z) (fun _ => And.intro ⟨by decide, by decide⟩ (And.intro rfl (And.intro ⟨by decide, by decide⟩ (And.intro rfl (And.intro rfl (And.intro (fun z => absurd z m1z) (fun _ => And.intro ⟨by decide, by decide⟩ (And.intro rfl (And.intro (fun z => absurd z hy0) (fun _ => And.intro (fun z => absurd z hy1) (fun _ => And.intro rfl (And.intro (fun _ => And.intro rfl (And.intro (fun _ => And.intro (fun z => absurd z (of_decide_eq_false rfl)) (fun _ => And.intro ⟨rfl, vpd rfl⟩ (And.intro (fun _ => And.intro (fun z => absurd z (of_decide_eq_false rfl)) (fun _ => And.intro ⟨rfl, vpd rfl⟩ (And.intro (fun z => absurd z q1) (fun _ => hK)))) (fun z => absurd q0 z)))) (fun z => absurd (of_decide_eq_true rfl) z))) (fun z => absurd m1z z)))))))))))))))))))
    · rw [if_neg c1] at hK
      have q1 : ¬ I 11 1 = y.toInt8.toInt32 := fun z => c1 (by rw [f1, hy] at z; exact z.symm)
      by_cases c2 : y = 97
      · rw [if_pos c2] at hK
        have q2 : ¬ ¬ I 11 2 = y.toInt8.toInt32 := fun z => z (by rw [f2, hy, c2])
        refine am_wq_T (cut := fun _ _ => false) (inl := fun _ => true) 120 _ _ _ ?_
        exact And.intro rfl (And.intro rfl (And.intro (fun z => absurd z m1z) (fun _ => And.intro ⟨by decide, by decide⟩ (And.intro (fun z => absurd rfl z) (fun _ => And.intro rfl (And.intro (fun z => absurd z m1z) (fun _ => And.intro ⟨by decide, by decide⟩ (And.intro rfl (And.intro ⟨by decide, by decide⟩ (And.intro rfl (And.intro rfl (And.intro (fun z => absurd z m1z) (fun _ => And.intro ⟨by decide, by decide⟩ (And.intro rfl (And.intro (fun z => absurd z hy0) (fun _ => And.intro (fun z => absurd z hy1) (fun _ => And.intro rfl (And.intro (fun _ => And.intro rfl (And.intro (fun _ => And.intro (fun z => absurd z (of_decide_eq_false rfl)) (fun _ => And.intro ⟨rfl, vpd rfl⟩ (And.intro (fun _ => And.intro (fun z => absurd z (of_decide_eq_false rfl)) (fun _ => And.intro ⟨rfl, vpd rfl⟩ (And.intro (fun _ => And.intro (fun z => absurd z (of_decide_eq_false rfl)) (fun _ => And.intro ⟨rfl, vpd rfl⟩ (And.intro (fun z => absurd z q2) (fun _ => hK)))) (fun z => absurd q1 z)))) (fun z => absurd q0 z)))) (fun z => absurd (of_decide_eq_true rfl) z))) (fun z => absurd m1z z)))))))))))))))))))
      · rw [if_neg c2] at hK
        have q2 : ¬ I 11 2 = y.toInt8.toInt32 := fun z => c2 (by rw [f2, hy] at z; exact z.symm)
        refine am_wq_T (cut := fun _ _ => false) (inl := fun _ => true) 120 _ _ _ ?_
        exact And.intro rfl (And.intro rfl (And.intro (fun z => absurd z m1z) (fun _ => And.intro ⟨by decide, by decide⟩ (And.intro (fun z => absurd rfl z) (fun _ => And.intro rfl (And.intro (fun z => absurd z m1z) (fun _ => And.intro ⟨by decide, by decide⟩ (And.intro rfl (And.intro ⟨by decide, by decide⟩ (And.intro rfl (And.intro rfl (And.intro (fun z => absurd z m1z) (fun _ => And.intro ⟨by decide, by decide⟩ (And.intro rfl (And.intro (fun z => absurd z hy0) (fun _ => And.intro (fun z => absurd z hy1) (fun _ => And.intro rfl (And.intro (fun _ => And.intro rfl (And.intro (fun _ => And.intro (fun z => absurd z (of_decide_eq_false rfl)) (fun _ => And.intro ⟨rfl, vpd rfl⟩ (And.intro (fun _ => And.intro (fun z => absurd z (of_decide_eq_false rfl)) (fun _ => And.intro ⟨rfl, vpd rfl⟩ (And.intro (fun _ => And.intro (fun z => absurd z (of_decide_eq_false rfl)) (fun _ => And.intro ⟨rfl, vpd rfl⟩ (And.intro (fun _ => And.intro (fun _ => hK) (fun z => absurd (of_decide_eq_true rfl) z)) (fun z => absurd q2 z)))) (fun z => absurd q1 z)))) (fun z => absurd q0 z)))) (fun z => absurd (of_decide_eq_true rfl) z))) (fun z => absurd m1z z)))))))))))))))))))
set_option maxRecDepth 8000 in
theorem c_idx2 {y : Int32} (hy0 : ¬ y < 0) (hy1 : ¬ 255 < y) (hy : y.toInt8.toInt32 = y) (f0 : I 12 0 = 101) (f1 : I 12 1 = 108) (hK : K (some (.int (nmV 2 y))) (am_mk kt I J T n s)) : am_T am_C (207, 3, 0, [.ref 6, .int y], []) (am_mk kt I J T n s) K := by
  unfold nmV at hK
  rw [if_neg (by decide), if_neg (by decide)] at hK
  by_cases c0 : y = 101
  · rw [if_pos c0] at hK
    have q0 : ¬ ¬ I 12 0 = y.toInt8.toInt32 := fun z => z (by rw [f0, hy, c0])
    refine am_wq_T (cut := fun _ _ => false) (inl := fun _ => true) 120 _ _ _ ?_
    exact And.intro rfl (And.intro rfl (And.intro (fun z => absurd z m1z) (fun _ => And.intro ⟨by decide, by decide⟩ (And.intro (fun z => absurd rfl z) (fun _ => And.intro rfl (And.intro (fun z => absurd z m1z) (fun _ => And.intro ⟨by decide, by decide⟩ (And.intro rfl (And.intro ⟨by decide, by decide⟩ (And.intro rfl (And.intro rfl (And.intro (fun z => absurd z m1z) (fun _ => And.intro ⟨by decide, by decide⟩ (And.intro rfl (And.intro (fun z => absurd z hy0) (fun _ => And.intro (fun z => absurd z hy1) (fun _ => And.intro rfl (And.intro (fun _ => And.intro rfl (And.intro (fun _ => And.intro (fun z => absurd z (of_decide_eq_false rfl)) (fun _ => And.intro ⟨rfl, vpd rfl⟩ (And.intro (fun z => absurd z q0) (fun _ => hK)))) (fun z => absurd (of_decide_eq_true rfl) z))) (fun z => absurd m1z z)))))))))))))))))))
  · rw [if_neg c0] at hK
    have q0 : ¬ I 12 0 = y.toInt8.toInt32 := fun z => c0 (by rw [f0, hy] at z; exact z.symm)
    by_cases c1 : y = 108
    · rw [if_pos c1] at hK
      have q1 : ¬ ¬ I 12 1 = y.toInt8.toInt32 := fun z => z (by rw [f1, hy, c1])
      refine am_wq_T (cut := fun _ _ => false) (inl := fun _ => true) 120 _ _ _ ?_
      exact And.intro rfl (And.intro rfl (And.intro (fun z => absurd z m1z) (fun _ => And.intro ⟨by decide, by decide⟩ (And.intro (fun z => absurd rfl z) (fun _ => And.intro rfl (And.intro (fun z => absurd z m1z) (fun _ => And.intro ⟨by decide, by decide⟩ (And.intro rfl (And.intro ⟨by decide, by decide⟩ (And.intro rfl (And.intro rfl (And.intro (fun z => absurd z m1z) (fun _ => And.intro ⟨by decide, by decide⟩ (And.intro rfl (And.intro (fun z => absurd z hy0) (fun _ => And.intro (fun z => absurd z hy1) (fun _ => And.intro rfl (And.intro (fun _ => And.intro rfl (And.intro (fun _ => And.intro (fun z => absurd z (of_decide_eq_false rfl)) (fun _ => And.intro ⟨rfl, vpd rfl⟩ (And.intro (fun _ => And.intro (fun z => absurd z (of_decide_eq_false rfl)) (fun _ => And.intro ⟨rfl, vpd rfl⟩ (And.intro (fun z => absurd z q1) (fun _ => hK)))) (fun z => absurd q0 z)))) (fun z => absurd (of_decide_eq_true rfl) z))) (fun z => absurd m1z z)))))))))))))))))))
    · rw [if_neg c1] at hK
      have q1 : ¬ I 12 1 = y.toInt8.toInt32 := fun z => c1 (by rw [f1, hy] at z; exact z.symm)
      refine am_wq_T (cut := fun _ _ => false) (inl := fun _ => true) 120 _ _ _ ?_
      exact And.intro rfl (And.intro rfl (And.intro (fun z => absurd z m1z) (fun _ => And.intro ⟨by decide, by decide⟩ (And.intro (fun z => absurd rfl z) (fun _ => And.intro rfl (And.intro (fun z => absurd z m1z) (fun _ => And.intro ⟨by decide, by decide⟩ (And.intro rfl (And.intro ⟨by decide, by decide⟩ (And.intro rfl (And.intro rfl (And.intro (fun z => absurd z m1z) (fun _ => And.intro ⟨by decide, by decide⟩ (And.intro rfl (And.intro (fun z => absurd z hy0) (fun _ => And.intro (fun z => absurd z hy1) (fun _ => And.intro rfl (And.intro (fun _ => And.intro rfl (And.intro (fun _ => And.intro (fun z => absurd z (of_decide_eq_false rfl)) (fun _ => And.intro ⟨rfl, vpd rfl⟩ (And.intro (fun _ => And.intro (fun z => absurd z (of_decide_eq_false rfl)) (fun _ => And.intro ⟨rfl, vpd rfl⟩ (And.intro (fun _ => And.intro (fun _ => hK) (fun z => absurd (of_decide_eq_true rfl) z)) (fun z => absurd q1 z)))) (fun z => absurd q0 z)))) (fun z => absurd (of_decide_eq_true rfl) z))) (fun z => absurd m1z z)))))))))))))))))))
end T91b
