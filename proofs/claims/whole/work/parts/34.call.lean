/-! a call of the class and the same of the reference, one behind the other -/
section T34
/-- behind the two: the same answer, and all stands as between two calls -/
def sg_End (L : Nat) (xs : Nat → Int32) (n s : Nat) (v : Int32) (v' : Option Value) (M2 : am_M) : Prop := ∃ kt2 I2 J2 T2 n2 s2, v' = some (.int v) ∧ M2 = am_mk kt2 I2 J2 T2 n2 s2 ∧ sg_Sim L xs kt2 I2 J2 T2 n2 ∧ n2 ≤ n + 3 ∧ s2 ≤ s + 200
/-- between the two: the script is there; then the reference answers the same -/
def sg_Mid (L : Nat) (xs : Nat → Int32) (I : Nat → Nat → Int32) (n s : Nat) (f1 : am_F) (v : Int32) (kt' : Nat → Nat × Nat) (I' : Nat → Nat → Int32) (J' : Nat → Nat → Int64) (T' : Nat → Nat → Nat) (n' s' : Nat) : Prop :=
  kt' 13 = (50, L) ∧ I' 13 = I 13 ∧ am_T am_C f1 (am_mk kt' I' J' T' n' s') (sg_End L xs n s v)
def sg_Call (f0 f1 : am_F) : Prop := ∀ (L : Nat) (xs : Nat → Int32) (kt : Nat → Nat × Nat) (I : Nat → Nat → Int32) (J : Nat → Nat → Int64) (T : Nat → Nat → Nat) (n s : Nat) (K : Option Value → am_M → Prop),
  sg_Sim L xs kt I J T n → (∀ v kt' I' J' T' n' s', sg_Mid L xs I n s f1 v kt' I' J' T' n' s' → K (some (.int v)) (am_mk kt' I' J' T' n' s')) → am_T am_C f0 (am_mk kt I J T n s) K
variable {kt : Nat → Nat × Nat} {I I' : Nat → Nat → Int32} {J J' : Nat → Nat → Int64} {T : Nat → Nat → Nat} {n s : Nat} {L : Nat} {xs : Nat → Int32} {K : Option Value → am_M → Prop}
theorem LR_off {b hc wc tc a k : Nat} {v : Int32} {N : Nat → Int32} (hb : b < 60) (h : (a < b ∨ b + 16 ≤ a) ∧ a < 134) (q : sg_LR kt I T n b N hc wc tc) : sg_LR kt (am_up I a k v) T n b N hc wc tc :=
  LR_cg (fun r k' hr => up_ne (by omega)) q
theorem sim_cell {r k j : Nat} {v : Int32} (c : cellR 21 r k j) (hS : sg_Sim L xs kt I J T n) (hB : ∀ hc wc tc, sg_LR kt I T n 21 (I 108) hc wc tc → sg_LB (I 108) hc wc → sg_LB (upN (I 108) j v) hc wc) : sg_Sim L xs kt (am_up (am_up I r k v) 108 j v) J T n := by
  have hr : 21 ≤ r ∧ r < 37 := by unfold cellR at c; omega
  refine sim_land (fun r' k' _ h1 h2 => ?_) (fun _ _ => rfl) ?_ hS
  · rw [up_ne (by omega), up_ne (by omega)]
  · obtain ⟨hc, wc, tc, h1, h2⟩ := hS.2.1
    rw [up_row, up_off (by omega)]
    exact ⟨hc, wc, tc, LR_off (by decide) (by omega) (LR_up (by decide) c h1), hB hc wc tc h1 h2⟩
theorem End_of {v v' : Int32} (h : v' = v) (hS : sg_Sim L xs kt I J T n) : sg_End L xs n s v (some (.int v')) (am_mk kt I J T n s) := ⟨kt, I, J, T, n, s, by rw [h], rfl, hS, by omega, by omega⟩
def vp_dec (x : Int32) (N : Nat) : Bool := !(decide (x < 0)) && Nat.blt x.toNatClampNeg N
theorem vpd {x : Int32} {N : Nat} (h : vp_dec x N = true) : vp_in x N := by
  unfold vp_dec at h
  simp only [Bool.and_eq_true, Bool.not_eq_true', decide_eq_false_iff_not] at h
  have h2 : x.toNatClampNeg < N := by
    have := h.2
    simp only [Nat.blt, Nat.ble_eq] at this
    omega
  intro q
  rcases q with q | q
  · exact h.1 q
  · omega
/-- a field of a hole: the bounds stay -/
theorem LB_hole {N : Nat → Int32} {hc wc h k : Nat} {v : Int32} (hw : wc ≤ 6) (hk : k < 5) (hv : sg_in v 0 (bd k)) (q : sg_LB N hc wc) : sg_LB (upN N (21 + 5 * h + k) v) hc wc := by
  refine LB_up (fun _ _ => ?_) (fun w hw => by omega) (by omega) q
  rw [show (21 + 5 * h + k - 21) % 5 = k by omega]
  exact hv
theorem rng (x a b : Int32) : (¬ x < a ∧ ¬ b < x) ∨ x < a ∨ (¬ x < a ∧ b < x) := by
  by_cases h : x < a
  · exact .inr (.inl h)
  · by_cases h2 : b < x
    · exact .inr (.inr ⟨h, h2⟩)
    · exact .inl ⟨h, h2⟩
/-- a number, and whether it is a hole's -/
theorem hole_cases {hc wc tc : Nat} (hR : sg_LR kt I T n 21 (I 108) hc wc tc) (x : Int32) : (∃ h : Nat, h < hc ∧ h < 10 ∧ x = nI h ∧ ¬ nI h < 0 ∧ ¬ I 21 1 ≤ nI h ∧ ¬ I 108 1 - 1 < nI h ∧ vp_in (nI h) 10) ∨ x < 0 ∨ (¬ x < 0 ∧ I 21 1 ≤ x ∧ I 108 1 - 1 < x) := by
  obtain ⟨h0, h1, h2, h3, h4, h5, h6, -⟩ := hR
  by_cases q : x < 0
  · exact .inr (.inl q)
  · obtain ⟨j, hj, rfl⟩ := nI_of q
    have e : I 108 1 - 1 = Int32.ofInt (hc - 1) := by
      rw [h3]; unfold nI
      rw [Int32.ofInt_sub]
      rfl
    have e2 : (I 108 1 - 1).toInt = hc - 1 := by
      rw [e, Int32.toInt_ofInt_of_le (by omega) (by omega)]
    rcases Nat.lt_or_ge j hc with c | c
    · refine .inl ⟨j, c, by omega, rfl, q, ?_, ?_, vpl (by omega) (by decide)⟩
      · rw [h6]; exact nI_ge c (by omega)
      · rw [Int32.lt_iff_toInt_lt, e2, nI_toInt hj]; omega
    · refine .inr (.inr ⟨q, ?_, ?_⟩)
      · rw [h6]; exact nI_le c hj
      · rw [Int32.lt_iff_toInt_lt, e2, nI_toInt hj]; omega
end T34
