/-! dealing, frees -/
section T56
variable {kt : Nat → Nat × Nat} {I I' : Nat → Nat → Int32} {J J' : Nat → Nat → Int64} {T : Nat → Nat → Nat} {n s : Nat} {L : Nat} {xs : Nat → Int32} {K : Option Value → am_M → Prop} {N : Nat → Int32} {hc wc tc h w : Nat} {noH noW but : Int32}
theorem lo_dv {a c : Int} (h0 : 0 ≤ a) (h1 : a ≤ 2200000000000) (c0 : 0 < c) (c1 : c ≤ 2200000000000) : lo a / lo c = lo (a / c) := by
  have q := Int.ediv_nonneg h0 (show 0 ≤ c by omega)
  have q2 := Int.ediv_le_self c h0
  apply Int64.toInt_inj.mp
  rw [Int64.toInt_div_of_ne_right _ _ (by rw [← lo_toInt (x := -1) (by decide)]; intro e; have := congrArg Int64.toInt e; rw [lo_toInt (by omega)] at this; have e2 : (-1 : Int64).toInt = -1 := by decide
                                          first | omega | (simp at this; omega)), lo_toInt (by omega), lo_toInt (by omega), lo_toInt (by omega), Int.tdiv_eq_ediv_of_nonneg h0]
end T56
