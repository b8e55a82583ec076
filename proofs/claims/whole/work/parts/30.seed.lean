section T30
theorem cs_seed (kt : Nat → Nat × Nat) (I : Nat → Nat → Int32) (J : Nat → Nat → Int64) (T : Nat → Nat → Nat) (n s : Nat) (v : Int32) (K : Option Value → am_M → Prop)
    (hK : K (some (.int (I 21 13))) (am_mk kt (am_up I 21 13 v) J T n s)) : am_T am_C (70, 0, 0, [.ref 20, .int v, .null], []) (am_mk kt I J T n s) K := by
  refine am_wq_T (cut := fun _ _ => false) (inl := fun _ => true) 200 _ _ _ ?_
  repeat' first
    | (refine And.intro (fun h => ?_) (fun h => ?_) <;> try exact absurd h (by decide))
    | (refine And.intro rfl ?_)
  exact hK
theorem ms_seed (kt : Nat → Nat × Nat) (I : Nat → Nat → Int32) (J : Nat → Nat → Int64) (T : Nat → Nat → Nat) (n s : Nat) (v : Int32) (K : Option Value → am_M → Prop)
    (hK : K (some (.int (I 108 0))) (am_mk kt (am_up I 108 0 v) J T n s)) : am_T am_C (138, 1, 0, [.ref 107, .int v], []) (am_mk kt I J T n s) K := by
  refine am_wq_T (cut := fun _ _ => false) (inl := fun _ => true) 200 _ _ _ ?_
  repeat' first
    | (refine And.intro (fun h => ?_) (fun h => ?_) <;> try exact absurd h (by decide))
    | (refine And.intro rfl ?_)
  all_goals trace_state
  all_goals sorry
theorem ms_hole (kt : Nat → Nat × Nat) (I : Nat → Nat → Int32) (J : Nat → Nat → Int64) (T : Nat → Nat → Nat) (n s : Nat) (a b c d : Int32) (K : Option Value → am_M → Prop)
     : am_T am_C (126, 3, 0, [.ref 107, .int a, .int b, .int c, .int d], []) (am_mk kt I J T n s) K := by
  refine am_wq_T (cut := fun _ _ => false) (inl := fun _ => true) 200 _ _ _ ?_
  repeat' first
    | (refine And.intro (fun h => ?_) (fun h => ?_) <;> try exact absurd h (by decide))
    | (refine And.intro rfl ?_)
  all_goals trace_state
  all_goals sorry
end T30
