/-! the relation at the start; the law (printed by wip/gen/gen99s.py) -/
section T99t
variable {L : Nat} {xs : Nat → Int32}
theorem h_k_ge {r : Nat} : ∀ (j : Nat) (k : Nat → Nat × Nat) (n : Nat), n + j ≤ r → h_k j k n r = k r
  | 0, _, _, _ => rfl
  | j + 1, k, n, h => by
    rw [show h_k (j + 1) k n = h_k j (q_k k n (1, 5)) (n + 1) from rfl, h_k_ge j _ _ (by omega)]
    exact qk_ne (by omega)
theorem sx_k_ge {r : Nat} : ∀ (j : Nat) (k : Nat → Nat × Nat) (n : Nat), n + 2 * j ≤ r → sx_k j k n r = k r
  | 0, _, _, _ => rfl
  | j + 1, k, n, h => by
    rw [show sx_k (j + 1) k n = sx_k j (q_k (q_k k n (3, 3)) (n + 1) (20, 24)) (n + 1 + 1) from rfl, sx_k_ge j _ _ (by omega)]
    exact (qk_ne (by omega)).trans (qk_ne (by omega))
theorem tx_k_ge {r : Nat} : ∀ (j : Nat) (k : Nat → Nat × Nat) (n : Nat), n + 4 * j ≤ r → tx_k j k n r = k r
  | 0, _, _, _ => rfl
  | j + 1, k, n, h => by
    rw [show tx_k (j + 1) k n = tx_k j (q4k (q_k k n (4, 4)) (n + 1)) (n + 1 + 1 + 1 + 1) from rfl, tx_k_ge j _ _ (by omega)]
    exact (qk_ne (by omega)).trans ((qk_ne (by omega)).trans ((qk_ne (by omega)).trans (qk_ne (by omega))))
theorem g21_k_ge {r : Nat} {k : Nat → Nat × Nat} (h : 134 ≤ r) : g21_k k r = k r := (h_k_ge 10 _ 27 (by omega)).trans ((qk_ne (by omega)).trans ((qk_ne (by omega)).trans ((qk_ne (by omega)).trans ((qk_ne (by omega)).trans (qk_ne (by omega))))))
theorem g37_k_ge {r : Nat} {k : Nat → Nat × Nat} (h : 134 ≤ r) : g37_k k r = k r := (h_k_ge 10 _ 43 (by omega)).trans ((qk_ne (by omega)).trans ((qk_ne (by omega)).trans ((qk_ne (by omega)).trans ((qk_ne (by omega)).trans (qk_ne (by omega))))))
theorem g53_k_ge {r : Nat} {k : Nat → Nat × Nat} (h : 134 ≤ r) : g53_k k r = k r := (h_k_ge 10 _ 59 (by omega)).trans ((qk_ne (by omega)).trans ((qk_ne (by omega)).trans ((qk_ne (by omega)).trans ((qk_ne (by omega)).trans (qk_ne (by omega))))))
theorem g69_k_ge {r : Nat} {k : Nat → Nat × Nat} (h : 134 ≤ r) : g69_k k r = k r := (qk_ne (by omega)).trans (qk_ne (by omega))
theorem q5k_ge {r n : Nat} {k : Nat → Nat × Nat} (h : 134 ≤ r) (hn : n ≤ 100) : q5k k n r = k r := (qk_ne (by omega)).trans (qk_ne (by omega))
theorem g20_k_ge {r : Nat} {k : Nat → Nat × Nat} (h : 134 ≤ r) : g20_k k r = k r := (qk_ne (by omega)).trans ((qk_ne (by omega)).trans ((qk_ne (by omega)).trans ((qk_ne (by omega)).trans ((q5k_ge h (by omega)).trans ((qk_ne (by omega)).trans ((g69_k_ge h).trans ((qk_ne (by omega)).trans ((g53_k_ge h).trans ((qk_ne (by omega)).trans ((g37_k_ge h).trans ((qk_ne (by omega)).trans ((g21_k_ge h).trans (qk_ne (by omega))))))))))))))
theorem v20_k_ge {r : Nat} {k : Nat → Nat × Nat} (h : 134 ≤ r) : v20_k k r = k r := (tx_k_ge 5 _ 87 (by omega)).trans ((sx_k_ge 4 _ 79 (by omega)).trans (g20_k_ge h))
theorem x0_k_ge {r : Nat} {k : Nat → Nat × Nat} (h : 134 ≤ r) : x0_k k r = k r := (qk_ne (by omega)).trans ((qk_ne (by omega)).trans (qk_ne (by omega)))
theorem x1_k_ge {r : Nat} {k : Nat → Nat × Nat} (h : 134 ≤ r) : x1_k k r = k r := (qk_ne (by omega)).trans ((qk_ne (by omega)).trans ((qk_ne (by omega)).trans (qk_ne (by omega))))
theorem x2_k_ge {r : Nat} {k : Nat → Nat × Nat} (h : 134 ≤ r) : x2_k k r = k r := (qk_ne (by omega)).trans ((qk_ne (by omega)).trans (qk_ne (by omega)))
theorem x3_k_ge {r : Nat} {k : Nat → Nat × Nat} (h : 134 ≤ r) : x3_k k r = k r := qk_ne (by omega)
theorem x4_k_ge {r : Nat} {k : Nat → Nat × Nat} (h : 134 ≤ r) : x4_k k r = k r := (qk_ne (by omega)).trans ((qk_ne (by omega)).trans ((qk_ne (by omega)).trans (qk_ne (by omega))))
theorem x5_k_ge {r : Nat} {k : Nat → Nat × Nat} (h : 134 ≤ r) : x5_k k r = k r := (qk_ne (by omega)).trans ((qk_ne (by omega)).trans ((qk_ne (by omega)).trans (qk_ne (by omega))))
theorem x6_k_ge {r : Nat} {k : Nat → Nat × Nat} (h : 134 ≤ r) : x6_k k r = k r := (qk_ne (by omega)).trans ((qk_ne (by omega)).trans ((qk_ne (by omega)).trans ((qk_ne (by omega)).trans (qk_ne (by omega)))))
theorem x7_k_ge {r : Nat} {k : Nat → Nat × Nat} (h : 134 ≤ r) : x7_k k r = k r := (qk_ne (by omega)).trans (qk_ne (by omega))
theorem g107_k_ge {r : Nat} {k : Nat → Nat × Nat} (h : 134 ≤ r) : g107_k k r = k r := (x7_k_ge h).trans ((x6_k_ge h).trans ((x5_k_ge h).trans ((x4_k_ge h).trans ((x3_k_ge h).trans ((x2_k_ge h).trans ((x1_k_ge h).trans (x0_k_ge h)))))))
theorem w0_k_ge {r : Nat} (h : 134 ≤ r) : w0_k L r = (99, 0) := by
  refine (g107_k_ge h).trans ((qk_ne (by omega)).trans ((v20_k_ge h).trans ((qk_ne (by omega)).trans ?_)))
  show am_fK L r = (99, 0)
  unfold am_fK
  rw [if_neg (by omega), if_neg (by omega), if_neg (by omega), if_neg (by omega), if_neg (by omega)]
set_option maxRecDepth 20000 in
theorem i0_0 : w0_I xs 0 = am_fI xs 0 ∧ w0_J 0 = am_fJ 0 := ⟨rfl, rfl⟩
set_option maxRecDepth 20000 in
theorem i0_1 : w0_I xs 1 = am_fI xs 1 ∧ w0_J 1 = am_fJ 1 := ⟨rfl, rfl⟩
set_option maxRecDepth 20000 in
theorem i0_2 : w0_I xs 2 = am_fI xs 2 ∧ w0_J 2 = am_fJ 2 := ⟨rfl, rfl⟩
set_option maxRecDepth 20000 in
theorem i0_3 : w0_I xs 3 = am_fI xs 3 ∧ w0_J 3 = am_fJ 3 := ⟨rfl, rfl⟩
set_option maxRecDepth 20000 in
theorem i0_4 : w0_I xs 4 = am_fI xs 4 ∧ w0_J 4 = am_fJ 4 := ⟨rfl, rfl⟩
set_option maxRecDepth 20000 in
theorem i0_5 : w0_I xs 5 = am_fI xs 5 ∧ w0_J 5 = am_fJ 5 := ⟨rfl, rfl⟩
set_option maxRecDepth 20000 in
theorem i0_6 : w0_I xs 6 = am_fI xs 6 ∧ w0_J 6 = am_fJ 6 := ⟨rfl, rfl⟩
set_option maxRecDepth 20000 in
theorem i0_7 : w0_I xs 7 = am_fI xs 7 ∧ w0_J 7 = am_fJ 7 := ⟨rfl, rfl⟩
set_option maxRecDepth 20000 in
theorem i0_8 : w0_I xs 8 = am_fI xs 8 ∧ w0_J 8 = am_fJ 8 := ⟨rfl, rfl⟩
set_option maxRecDepth 20000 in
theorem i0_9 : w0_I xs 9 = am_fI xs 9 ∧ w0_J 9 = am_fJ 9 := ⟨rfl, rfl⟩
set_option maxRecDepth 20000 in
theorem i0_10 : w0_I xs 10 = am_fI xs 10 ∧ w0_J 10 = am_fJ 10 := ⟨rfl, rfl⟩
set_option maxRecDepth 20000 in
theorem i0_11 : w0_I xs 11 = am_fI xs 11 ∧ w0_J 11 = am_fJ 11 := ⟨rfl, rfl⟩
set_option maxRecDepth 20000 in
theorem i0_12 : w0_I xs 12 = am_fI xs 12 ∧ w0_J 12 = am_fJ 12 := ⟨rfl, rfl⟩
set_option maxRecDepth 20000 in
theorem i0_13 : w0_I xs 13 = am_fI xs 13 ∧ w0_J 13 = am_fJ 13 := ⟨rfl, rfl⟩
set_option maxRecDepth 20000 in
theorem i0_14 : w0_I xs 14 = am_fI xs 14 ∧ w0_J 14 = am_fJ 14 := ⟨rfl, rfl⟩
set_option maxRecDepth 20000 in
theorem i0_15 : w0_I xs 15 = am_fI xs 15 ∧ w0_J 15 = am_fJ 15 := ⟨rfl, rfl⟩
set_option maxRecDepth 20000 in
theorem i0_16 : w0_I xs 16 = am_fI xs 16 ∧ w0_J 16 = am_fJ 16 := ⟨rfl, rfl⟩
set_option maxRecDepth 20000 in
theorem i0_17 : w0_I xs 17 = am_fI xs 17 ∧ w0_J 17 = am_fJ 17 := ⟨rfl, rfl⟩
set_option maxRecDepth 20000 in
theorem i0_18 : w0_I xs 18 = am_fI xs 18 ∧ w0_J 18 = am_fJ 18 := ⟨rfl, rfl⟩
set_option maxRecDepth 20000 in
theorem i0_19 : w0_I xs 19 = am_fI xs 19 ∧ w0_J 19 = am_fJ 19 := ⟨rfl, rfl⟩
theorem w0_old {r : Nat} (h : r < 20) : w0_I xs r = am_fI xs r ∧ w0_J r = am_fJ r := by
  match r, h with
  | 0, _ => exact i0_0
  | 1, _ => exact i0_1
  | 2, _ => exact i0_2
  | 3, _ => exact i0_3
  | 4, _ => exact i0_4
  | 5, _ => exact i0_5
  | 6, _ => exact i0_6
  | 7, _ => exact i0_7
  | 8, _ => exact i0_8
  | 9, _ => exact i0_9
  | 10, _ => exact i0_10
  | 11, _ => exact i0_11
  | 12, _ => exact i0_12
  | 13, _ => exact i0_13
  | 14, _ => exact i0_14
  | 15, _ => exact i0_15
  | 16, _ => exact i0_16
  | 17, _ => exact i0_17
  | 18, _ => exact i0_18
  | 19, _ => exact i0_19
  | r + 20, h => exact absurd h (by omega)
set_option maxRecDepth 20000 in
theorem w0_keys {j : Nat} (h : j < 13) : w0_I xs 118 j = sg_keys j := by
  match j, h with
  | 0, _ => rfl
  | 1, _ => rfl
  | 2, _ => rfl
  | 3, _ => rfl
  | 4, _ => rfl
  | 5, _ => rfl
  | 6, _ => rfl
  | 7, _ => rfl
  | 8, _ => rfl
  | 9, _ => rfl
  | 10, _ => rfl
  | 11, _ => rfl
  | 12, _ => rfl
  | j + 13, h => exact absurd h (by omega)
set_option maxRecDepth 20000 in
theorem w0_keyAt {j : Nat} (h : j < 4) : w0_I xs 119 j = sg_keyAt j := by
  match j, h with
  | 0, _ => rfl
  | 1, _ => rfl
  | 2, _ => rfl
  | 3, _ => rfl
  | j + 4, h => exact absurd h (by omega)
set_option maxRecDepth 20000 in
theorem w0_Fix : sg_Fix (w0_k L) (w0_I xs) w0_J 134 L xs := ⟨Nat.le_refl _, rfl, fun _ h => w0_k_ge h, rfl, fun _ h => w0_old h, fun _ h => w0_keys h, fun _ h => w0_keyAt h⟩
theorem sgi {x : Int32} {a b : Int} (h : (decide (a ≤ x.toInt) && decide (x.toInt ≤ b)) = true) : sg_in x a b := by
  have e := Bool.and_eq_true_iff.mp h
  exact ⟨of_decide_eq_true e.1, of_decide_eq_true e.2⟩
set_option maxRecDepth 20000 in
theorem w0_cnt {key : Nat} (h : key < 3) : w0_I xs 26 key = -1 := by
  match key, h with
  | 0, _ => rfl
  | 1, _ => rfl
  | 2, _ => rfl
  | j + 3, h => exact absurd h (by omega)
set_option maxRecDepth 20000 in
theorem w0_Land : sg_Land (w0_k L) (w0_I xs) w0_T 134 21 (w0_I xs 108) := by
  refine ⟨0, 0, 0, ⟨by decide, by decide, by decide, rfl, rfl, rfl, rfl, rfl, rfl, fun h q => absurd q (Nat.not_lt_zero _), fun h q => absurd q (Nat.not_lt_zero _), Eq.trans (b := (10 : Int32)) rfl rfl, Eq.trans (b := (120 : Int32)) rfl rfl, Eq.trans (b := (0 : Int32)) rfl rfl, Eq.trans (b := (0 : Int32)) rfl rfl, Eq.trans (b := (0 : Int32)) rfl rfl, Eq.trans (b := (1 : Int32)) rfl rfl, fun h q => absurd q (Nat.not_lt_zero _), fun key h => w0_cnt h⟩, fun h q => absurd q (Nat.not_lt_zero _), fun h q => absurd q (Nat.not_lt_zero _), ?_, ?_, ?_⟩
  · exact (show sg_in (10 : Int32) 0 29 from sgi rfl)
  · exact (show sg_in (120 : Int32) 50 200 from sgi rfl)
  · exact (show sg_in (0 : Int32) 0 9999 from sgi rfl)
set_option maxRecDepth 20000 in
theorem w0_Tape : sg_Tape (w0_I xs) (w0_I xs) := ⟨0, by decide, rfl, rfl, fun h q => absurd q (Nat.not_lt_zero _)⟩
theorem w0_num : sg_num 0 := .inr (sgi rfl)
theorem w0_m1 : sg_in (-1) (-1) 1 := sgi rfl
set_option maxRecDepth 20000 in
theorem w0_Sheet0 : sg_Sheet (w0_I xs) (w0_I xs) 0 := ⟨0, by decide, Eq.trans (b := (-1 : Int32)) rfl rfl, w0_m1, rfl, rfl, fun k _ => ⟨Eq.trans (b := (0 : Int32)) rfl rfl, w0_num⟩⟩
set_option maxRecDepth 20000 in
theorem w0_Sheet1 : sg_Sheet (w0_I xs) (w0_I xs) 1 := ⟨0, by decide, Eq.trans (b := (-1 : Int32)) rfl rfl, w0_m1, rfl, rfl, fun k _ => ⟨Eq.trans (b := (0 : Int32)) rfl rfl, w0_num⟩⟩
set_option maxRecDepth 20000 in
theorem w0_Sheet2 : sg_Sheet (w0_I xs) (w0_I xs) 2 := ⟨0, by decide, Eq.trans (b := (-1 : Int32)) rfl rfl, w0_m1, rfl, rfl, fun k _ => ⟨Eq.trans (b := (0 : Int32)) rfl rfl, w0_num⟩⟩
set_option maxRecDepth 20000 in
theorem w0_Sheet3 : sg_Sheet (w0_I xs) (w0_I xs) 3 := ⟨0, by decide, Eq.trans (b := (-1 : Int32)) rfl rfl, w0_m1, rfl, rfl, fun k _ => ⟨Eq.trans (b := (0 : Int32)) rfl rfl, w0_num⟩⟩
set_option maxRecDepth 20000 in
theorem w0_Slot0 : sg_Slot (w0_I xs) (w0_I xs) 0 := ⟨Eq.trans (b := (0 : Int32)) rfl rfl, (show sg_in (0 : Int32) 0 3 from sgi rfl), fun h => absurd (show (0 : Int32) = 1 from h) (by decide), fun h => absurd (show (0 : Int32) = 2 from h) (by decide), fun h => absurd (show (0 : Int32) = 3 from h) (by decide)⟩
set_option maxRecDepth 20000 in
theorem w0_Slot1 : sg_Slot (w0_I xs) (w0_I xs) 1 := ⟨Eq.trans (b := (0 : Int32)) rfl rfl, (show sg_in (0 : Int32) 0 3 from sgi rfl), fun h => absurd (show (0 : Int32) = 1 from h) (by decide), fun h => absurd (show (0 : Int32) = 2 from h) (by decide), fun h => absurd (show (0 : Int32) = 3 from h) (by decide)⟩
set_option maxRecDepth 20000 in
theorem w0_Slot2 : sg_Slot (w0_I xs) (w0_I xs) 2 := ⟨Eq.trans (b := (0 : Int32)) rfl rfl, (show sg_in (0 : Int32) 0 3 from sgi rfl), fun h => absurd (show (0 : Int32) = 1 from h) (by decide), fun h => absurd (show (0 : Int32) = 2 from h) (by decide), fun h => absurd (show (0 : Int32) = 3 from h) (by decide)⟩
set_option maxRecDepth 20000 in
theorem w0_Slot3 : sg_Slot (w0_I xs) (w0_I xs) 3 := ⟨Eq.trans (b := (0 : Int32)) rfl rfl, (show sg_in (0 : Int32) 0 3 from sgi rfl), fun h => absurd (show (0 : Int32) = 1 from h) (by decide), fun h => absurd (show (0 : Int32) = 2 from h) (by decide), fun h => absurd (show (0 : Int32) = 3 from h) (by decide)⟩
set_option maxRecDepth 20000 in
theorem w0_Slot4 : sg_Slot (w0_I xs) (w0_I xs) 4 := ⟨Eq.trans (b := (0 : Int32)) rfl rfl, (show sg_in (0 : Int32) 0 3 from sgi rfl), fun h => absurd (show (0 : Int32) = 1 from h) (by decide), fun h => absurd (show (0 : Int32) = 2 from h) (by decide), fun h => absurd (show (0 : Int32) = 3 from h) (by decide)⟩
set_option maxRecDepth 20000 in
theorem w0_Wait : sg_Wait (w0_I xs) (w0_I xs) := ⟨0, by decide, rfl, rfl, fun h q => absurd q (Nat.not_lt_zero _)⟩
set_option maxRecDepth 20000 in
theorem w0_Sim : sg_Sim L xs (w0_k L) (w0_I xs) w0_J w0_T 134 := by
  refine ⟨w0_Fix, w0_Land, ⟨Eq.trans (b := (0 : Int32)) rfl rfl, .inl rfl, fun h => absurd (show (0 : Int32) = 1 from h) (by decide)⟩, w0_Tape, fun q h => ?_, fun q h => ?_, w0_Wait⟩
  · match q, h with
    | 0, _ => exact w0_Sheet0
    | 1, _ => exact w0_Sheet1
    | 2, _ => exact w0_Sheet2
    | 3, _ => exact w0_Sheet3
    | q + 4, h => exact absurd h (by omega)
  · match q, h with
    | 0, _ => exact w0_Slot0
    | 1, _ => exact w0_Slot1
    | 2, _ => exact w0_Slot2
    | 3, _ => exact w0_Slot3
    | 4, _ => exact w0_Slot4
    | q + 5, h => exact absurd h (by omega)
set_option maxRecDepth 20000 in
theorem law_all (hL : L ≤ 3072) : am_T am_C am_law0 (am_M0 L xs) lawQ := by
  refine law_up ?_
  have g := law_go (xs := xs) hL 512 0 (w0_k L) (w0_I xs) w0_J w0_T 134 w0_s (by omega) (by omega) w0_Sim (by omega) (by decide)
  have e : am_mk (w0_k L) (w0_I xs) w0_J w0_T 134 w0_s = (w0_k L, w0_I xs, w0_J, w0_T, 134, w0_s) := by
    show (am_k (w0_k L), w0_I xs, w0_J, am_r w0_T, 134, w0_s) = _
    rw [w0_kk, w0_rr]
  rw [e] at g
  exact g
theorem law_runs (hL : L ≤ 3072) : ∃ (n : Nat) (M' : am_M), am_run am_C n am_law0 (am_M0 L xs) = some (some (.int 1), M') ∧ am_n M' ≤ 600020 ∧ am_s M' ≤ 7302250 := by
  obtain ⟨n, q, h1, h2, h3, h4⟩ := am_T_iff.mp (law_all (xs := xs) hL)
  obtain ⟨v, M'⟩ := q
  have h2 : v = some (.int 1) := h2
  subst h2
  exact ⟨n, M', h1, h3, h4⟩
end T99t
