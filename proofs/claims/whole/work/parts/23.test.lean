section T1
theorem tst1 (kt : Nat → Nat × Nat) (I : Nat → Nat → Int32) (J : Nat → Nat → Int64) (T : Nat → Nat → Nat) (n s : Nat) (a b c d : Int32) (K : Option Value → am_M → Prop) (h : am_T am_C (62, 2, 0, [.ref 20, .int a, .int b, .int c, .int d], []) (am_mk kt I J T n s) K) : am_T am_C (62, 2, 0, [.ref 20, .int a, .int b, .int c, .int d], []) (am_mk kt I J T n s) K := by
  refine am_wp_T (cut := fun _ _ => false) (inl := fun _ => true) 200 _ _ _ ?_
  refine And.intro (fun h1 => ?_) (fun h1 => ?_)
  · sorry
  · refine And.intro (fun h2 => ?_) (fun h2 => ?_)
    · sorry
    · refine And.intro (fun h3 => ?_) (fun h3 => ?_)
      · sorry
      · refine And.intro (fun h4 => ?_) (fun h4 => ?_)
        · sorry
        · trace_state
          sorry
end T1
