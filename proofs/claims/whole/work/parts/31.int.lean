section T31
/-- an int within bounds that are written out -/
theorem in_of {x : Int32} {m : Nat} (hm : m < 2147483648) (h1 : ¬ x < 0) (h2 : ¬ nI m < x) : ∃ k : Nat, k ≤ m ∧ x = nI k := by
  obtain ⟨j, hj, rfl⟩ := nI_of h1
  exact ⟨j, by rcases Nat.lt_or_ge m j with q | q; exact absurd (nI_lt q hj) h2; exact q, rfl⟩
theorem tstI (a : Int32) (h : ¬ a < 0) (h2 : ¬ 5 < a) : a.toInt ≤ 5 := by
  simp only [Int32.lt_iff_toInt_lt] at *
  trace_state
  simp at h2
  omega
end T31
