/-! want -/
section T39
variable {kt : Nat → Nat × Nat} {I I' : Nat → Nat → Int32} {J J' : Nat → Nat → Int64} {T : Nat → Nat → Nat} {n s : Nat} {L : Nat} {xs : Nat → Int32} {K : Option Value → am_M → Prop}
theorem e9_of (w : Nat) : (9 : Int32) + 2 * nI w = nI (9 + 2 * w) := by rw [show (9 : Int32) = nI 9 from rfl, show (2 : Int32) = nI 2 from rfl, pk_mul, nI_add]
theorem m_want3 {wc : Nat} {x v : Int32} (hN : I 108 7 = nI wc) (hw : wc < 6) (hK : K (some (.int (nI wc))) (am_mk kt (am_up I 108 7 (nI (wc + 1))) J T n s)) : am_T am_C (145, 2, 70, [.ref 107, .int x, .int v], []) (am_mk kt I J T n s) K := by
  refine am_wq_T (cut := fun _ _ => false) (inl := fun _ => true) 120 _ _ _ ?_
  repeat' first
     | (refine And.intro (fun hx_ => ?_) (fun hx_ => ?_) <;> first | exact absurd hx_ (of_decide_eq_false rfl) | exact absurd (of_decide_eq_true rfl) hx_ | exact absurd hx_ (by assumption) | exact absurd (by assumption) hx_ | skip)
     | (refine And.intro rfl ?_)
     | (refine And.intro ⟨rfl, vpd rfl⟩ ?_)
     | (refine And.intro ⟨rfl, by assumption⟩ ?_)
     | (refine And.intro (by assumption) ?_)
     | (refine And.intro ⟨rfl, ?_⟩ ?_)
     | (refine And.intro ?_ ?_)
  rw [← nI_pred, nI_succ, ← hN] at hK
  exact hK
theorem m_want2 {wc : Nat} {x v : Int32} (hN : I 108 7 = nI wc) (hw : wc < 6) (hK : K (some (.int (nI wc))) (am_mk kt (am_up (am_up I 108 (10 + 2 * wc) v) 108 7 (nI (wc + 1))) J T n s)) : am_T am_C (145, 2, 50, [.ref 107, .int x, .int v], []) (am_mk kt I J T n s) K := by
  have e : 9 + 2 * I 108 7 + 1 = nI (10 + 2 * wc) := by rw [hN, e9_of, nI_1, show 9 + 2 * wc + 1 = 10 + 2 * wc by omega]
  have hv : vp_in (9 + 2 * I 108 7 + 1) 1448 := by rw [e]; exact vpl (by omega) (by decide)
  refine am_wq_T (cut := fun z pc => (Nat.beq z 145 && Nat.beq pc 70)) (inl := fun _ => true) 120 _ _ _ ?_
  repeat' first
     | (refine And.intro (fun hx_ => ?_) (fun hx_ => ?_) <;> first | exact absurd hx_ (of_decide_eq_false rfl) | exact absurd (of_decide_eq_true rfl) hx_ | exact absurd hx_ (by assumption) | exact absurd (by assumption) hx_ | skip)
     | (refine And.intro rfl ?_)
     | (refine And.intro ⟨rfl, vpd rfl⟩ ?_)
     | (refine And.intro ⟨rfl, by assumption⟩ ?_)
     | (refine And.intro (by assumption) ?_)
     | (refine And.intro ⟨rfl, ?_⟩ ?_)
     | (refine And.intro ?_ ?_)
  have key := m_want3 (I := am_up I 108 (10 + 2 * wc) v) (x := x) (v := v) (wc := wc) (by rw [up_ne (by omega)]; exact hN) hw hK
  rw [← nI_clamp (n := 10 + 2 * wc) (by omega), ← e] at key
  exact key
theorem m_want {wc : Nat} {x v : Int32} (hN : I 108 7 = nI wc) (hw : wc < 6) (a0 : ¬ x < 0) (a1 : ¬ 29 < x) (b0 : ¬ v < 1) (b1 : ¬ 99 < v) (hK : K (some (.int (nI wc))) (am_mk kt (am_up (am_up (am_up I 108 (9 + 2 * wc) x) 108 (10 + 2 * wc) v) 108 7 (nI (wc + 1))) J T n s)) : am_T am_C (145, 2, 0, [.ref 107, .int x, .int v], []) (am_mk kt I J T n s) K := by
  have hN' : ¬ I 108 7 = 6 := by rw [hN]; intro q; have := (nI_eq (b := 6) (by omega) (by decide)).mp q; omega
  have e : 9 + 2 * I 108 7 = nI (9 + 2 * wc) := by rw [hN, e9_of]
  have hv : vp_in (9 + 2 * I 108 7) 1448 := by rw [e]; exact vpl (by omega) (by decide)
  refine am_wq_T (cut := fun z pc => (Nat.beq z 145 && Nat.beq pc 50)) (inl := fun _ => true) 120 _ _ _ ?_
  repeat' first
     | (refine And.intro (fun hx_ => ?_) (fun hx_ => ?_) <;> first | exact absurd hx_ (of_decide_eq_false rfl) | exact absurd (of_decide_eq_true rfl) hx_ | exact absurd hx_ (by assumption) | exact absurd (by assumption) hx_ | skip)
     | (refine And.intro rfl ?_)
     | (refine And.intro ⟨rfl, vpd rfl⟩ ?_)
     | (refine And.intro ⟨rfl, by assumption⟩ ?_)
     | (refine And.intro (by assumption) ?_)
     | (refine And.intro ⟨rfl, ?_⟩ ?_)
     | (refine And.intro ?_ ?_)
  have key := m_want2 (I := am_up I 108 (9 + 2 * wc) x) (x := x) (v := v) (wc := wc) (by rw [up_ne (by omega)]; exact hN) hw hK
  rw [← nI_clamp (n := 9 + 2 * wc) (by omega), ← e] at key
  exact key
end T39
