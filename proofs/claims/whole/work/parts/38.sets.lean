/-! seed, forget, want -/
section T38
variable {kt : Nat → Nat × Nat} {I I' : Nat → Nat → Int32} {J J' : Nat → Nat → Int64} {T : Nat → Nat → Nat} {n s : Nat} {L : Nat} {xs : Nat → Int32} {K : Option Value → am_M → Prop}
theorem L_seed (v : Int32) : sg_Call (70, 0, 0, [.ref 20, .int v, .null], []) (138, 1, 0, [.ref 107, .int v], []) := by
  intro L xs kt I J T n s K hS hK
  have h13 := hS.1.2.2.2.1
  obtain ⟨hc, wc, tc, hR, hB⟩ := hS.2.1
  have hM : sg_Mid L xs I n s (138, 1, 0, [.ref 107, .int v], []) (I 21 13) kt (am_up I 21 13 v) J T n s := by
    refine ⟨h13, up_off (by omega), ?_⟩
    refine am_wq_T (cut := fun _ _ => false) (inl := fun _ => true) 120 _ _ _ ?_
    repeat' first
       | (refine And.intro (fun hx_ => ?_) (fun hx_ => ?_) <;> first | exact absurd hx_ (of_decide_eq_false rfl) | exact absurd (of_decide_eq_true rfl) hx_ | exact absurd hx_ (by assumption) | exact absurd (by assumption) hx_ | skip)
       | (refine And.intro rfl ?_)
       | (refine And.intro ⟨rfl, vpd rfl⟩ ?_)
       | (refine And.intro ⟨rfl, by assumption⟩ ?_)
       | (refine And.intro (by assumption) ?_)
       | (refine And.intro ⟨rfl, ?_⟩ ?_)
       | (refine And.intro ?_ ?_)
    refine End_of (I := am_up (am_up I 21 13 v) 108 0 v) ?_ (sim_cell (by unfold cellR; omega) hS fun hc wc tc q b => LB_more 0 (by omega) b)
    exact hR.2.2.2.2.2.2.2.2.2.2.2.2.2.2.2.2.1.symm
  have key := hK _ _ _ _ _ _ _ hM
  refine am_wq_T (cut := fun _ _ => false) (inl := fun _ => true) 120 _ _ _ ?_
  repeat' first
     | (refine And.intro (fun hx_ => ?_) (fun hx_ => ?_) <;> first | exact absurd hx_ (of_decide_eq_false rfl) | exact absurd (of_decide_eq_true rfl) hx_ | exact absurd hx_ (by assumption) | exact absurd (by assumption) hx_ | skip)
     | (refine And.intro rfl ?_)
     | (refine And.intro ⟨rfl, vpd rfl⟩ ?_)
     | (refine And.intro ⟨rfl, by assumption⟩ ?_)
     | (refine And.intro (by assumption) ?_)
     | (refine And.intro ⟨rfl, ?_⟩ ?_)
     | (refine And.intro ?_ ?_)
  exact key
theorem L_forget : sg_Call (74, 0, 0, [.ref 20, .null], []) (146, 1, 0, [.ref 107], []) := by
  intro L xs kt I J T n s K hS hK
  have h13 := hS.1.2.2.2.1
  obtain ⟨hc, wc, tc, hR, hB⟩ := hS.2.1
  have hM : sg_Mid L xs I n s (146, 1, 0, [.ref 107], []) (I 21 4) kt (am_up I 21 4 0) J T n s := by
    refine ⟨h13, up_off (by omega), ?_⟩
    refine am_wq_T (cut := fun _ _ => false) (inl := fun _ => true) 120 _ _ _ ?_
    repeat' first
       | (refine And.intro (fun hx_ => ?_) (fun hx_ => ?_) <;> first | exact absurd hx_ (of_decide_eq_false rfl) | exact absurd (of_decide_eq_true rfl) hx_ | exact absurd hx_ (by assumption) | exact absurd (by assumption) hx_ | skip)
       | (refine And.intro rfl ?_)
       | (refine And.intro ⟨rfl, vpd rfl⟩ ?_)
       | (refine And.intro ⟨rfl, by assumption⟩ ?_)
       | (refine And.intro (by assumption) ?_)
       | (refine And.intro ⟨rfl, ?_⟩ ?_)
       | (refine And.intro ?_ ?_)
    refine End_of (I := am_up (am_up I 21 4 0) 108 7 0) ?_ (sim_land (fun r' k' _ h1 h2 => ?_) (fun _ _ => rfl) ?_ hS)
    · exact (show I 108 7 = I 21 4 by rw [hR.2.2.2.2.1, hR.2.2.2.2.2.2.2.1])
    · rw [up_ne (by omega), up_ne (by omega)]
    · rw [up_row, up_off (by omega)]
      refine ⟨hc, 0, tc, LR_off (by decide) (by omega) (LR_wc (wc' := 0) (by decide) (by decide) (fun w h => absurd h (by omega)) hR), ?_⟩
      have hB' := LB_iff.mp (LB_more (v := 0) 7 (by omega) hB)
      exact LB_iff.mpr ⟨hB'.1, fun w h => absurd h (by omega), hB'.2.2⟩
  have key := hK _ _ _ _ _ _ _ hM
  refine am_wq_T (cut := fun _ _ => false) (inl := fun _ => true) 120 _ _ _ ?_
  repeat' first
     | (refine And.intro (fun hx_ => ?_) (fun hx_ => ?_) <;> first | exact absurd hx_ (of_decide_eq_false rfl) | exact absurd (of_decide_eq_true rfl) hx_ | exact absurd hx_ (by assumption) | exact absurd (by assumption) hx_ | skip)
     | (refine And.intro rfl ?_)
     | (refine And.intro ⟨rfl, vpd rfl⟩ ?_)
     | (refine And.intro ⟨rfl, by assumption⟩ ?_)
     | (refine And.intro (by assumption) ?_)
     | (refine And.intro ⟨rfl, ?_⟩ ?_)
     | (refine And.intro ?_ ?_)
  exact key
end T38
