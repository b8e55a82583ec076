/-! the law's loop (printed by wip/gen/gen99j.py) -/
section T99k
variable {kt : Nat → Nat × Nat} {I : Nat → Nat → Int32} {J : Nat → Nat → Int64} {T : Nat → Nat → Nat} {n s : Nat} {L : Nat} {xs : Nat → Int32} {K : Option Value → am_M → Prop} {i : Nat}
theorem law_in (hL : L ≤ 3072) (h : i + 6 ≤ L) : ¬ nI L - 6 < nI i := by
  rw [show nI L - 6 = nI (L - 6) from nI_subI (a := L) (b := 6) (by omega)]
  exact Int32.not_lt.mpr (nI_le (by omega) (by omega))
theorem law_out (hL : L ≤ 3072) (hi : i ≤ 4000) (h : L < i + 6) : nI L - 6 < nI i := by
  by_cases q : 6 ≤ L
  · rw [show nI L - 6 = nI (L - 6) from nI_subI (a := L) (b := 6) (by omega)]
    exact nI_lt (by omega) (by omega)
  · have p : (0 : Int32) ≤ nI i := nI_pos' (by omega)
    refine Int32.lt_of_lt_of_le (b := 0) ?_ p
    rcases (by omega : L = 0 ∨ L = 1 ∨ L = 2 ∨ L = 3 ∨ L = 4 ∨ L = 5) with e | e | e | e | e | e
    · subst e; decide
    · subst e; decide
    · subst e; decide
    · subst e; decide
    · subst e; decide
    · subst e; decide
/-- what the law comes to -/
def lawQ (v : Option Value) (M : am_M) : Prop := v = some (.int 1) ∧ am_n M ≤ 600020 ∧ am_s M ≤ 7302250
theorem law_end (hi : i ≤ 4000) (hL : L ≤ 3072) (h : L < i + 6) (hS : sg_Sim L xs kt I J T n) (hn : n ≤ 600020) (hs : s ≤ 7302250) : am_T am_C (220, 203, 18, [.ref 13, .ref 20, .ref 107, .int (nI i)], []) (am_mk kt I J T n s) lawQ := by
  have k1 := lawK hS.1.2.2.2.1
  have ka : (am_k kt 13).1 = 50 := by rw [k1]
  have c : Int32.ofNat (am_k kt 13).2 - 6 < nI i := by rw [k1]; exact law_out hL hi h
  have kk : lawQ (some (.int 1)) (am_mk kt I J T n s) := ⟨rfl, hn, hs⟩
  refine am_wq_T (cut := fun z pc => (Nat.beq z 220 && Nat.beq pc 27)) (inl := fun _ => false) 120 _ _ _ ?_
  exact And.intro ka (And.intro (fun _ => And.intro rfl kk) (fun z => absurd c z))
set_option maxRecDepth 8000 in
theorem law_one (hL : L ≤ 3072) (h : i + 6 ≤ L) (hS : sg_Sim L xs kt I J T n) (fin : ∀ kt' I' J' T' n' s', sg_Sim L xs kt' I' J' T' n' → n' ≤ n + 3 → s' ≤ s + 200 → am_T am_C (220, 203, 1489, [.ref 13, .ref 20, .ref 107, .int (nI i)], []) (am_mk kt' I' J' T' n' s') K) : am_T am_C (220, 203, 18, [.ref 13, .ref 20, .ref 107, .int (nI i)], []) (am_mk kt I J T n s) K := by
  have k1 := lawK hS.1.2.2.2.1
  have ka : (am_k kt 13).1 = 50 := by rw [k1]
  have c : ¬ Int32.ofNat (am_k kt 13).2 - 6 < nI i := by rw [k1]; exact law_in hL h
  have va : vp_in (nI i) (am_k kt 13).2 := by rw [k1]; exact vpl (by show i < L; omega) (by show L < 2147483648; omega)
  refine am_wq_T (cut := fun z pc => ((Nat.beq z 220 && Nat.beq pc 220) || ((Nat.beq z 220 && Nat.beq pc 273) || ((Nat.beq z 220 && Nat.beq pc 306) || ((Nat.beq z 220 && Nat.beq pc 339) || ((Nat.beq z 220 && Nat.beq pc 372) || ((Nat.beq z 220 && Nat.beq pc 415) || ((Nat.beq z 220 && Nat.beq pc 448) || ((Nat.beq z 220 && Nat.beq pc 481) || ((Nat.beq z 220 && Nat.beq pc 504) || ((Nat.beq z 220 && Nat.beq pc 527) || ((Nat.beq z 220 && Nat.beq pc 560) || ((Nat.beq z 220 && Nat.beq pc 613) || ((Nat.beq z 220 && Nat.beq pc 646) || ((Nat.beq z 220 && Nat.beq pc 659) || ((Nat.beq z 220 && Nat.beq pc 682) || ((Nat.beq z 220 && Nat.beq pc 705) || ((Nat.beq z 220 && Nat.beq pc 728) || ((Nat.beq z 220 && Nat.beq pc 751) || ((Nat.beq z 220 && Nat.beq pc 784) || ((Nat.beq z 220 && Nat.beq pc 797) || ((Nat.beq z 220 && Nat.beq pc 830) || ((Nat.beq z 220 && Nat.beq pc 853) || ((Nat.beq z 220 && Nat.beq pc 866) || ((Nat.beq z 220 && Nat.beq pc 899) || ((Nat.beq z 220 && Nat.beq pc 922) || ((Nat.beq z 220 && Nat.beq pc 965) || ((Nat.beq z 220 && Nat.beq pc 988) || ((Nat.beq z 220 && Nat.beq pc 1001) || ((Nat.beq z 220 && Nat.beq pc 1034) || ((Nat.beq z 220 && Nat.beq pc 1057) || ((Nat.beq z 220 && Nat.beq pc 1100) || ((Nat.beq z 220 && Nat.beq pc 1143) || ((Nat.beq z 220 && Nat.beq pc 1166) || ((Nat.beq z 220 && Nat.beq pc 1189) || ((Nat.beq z 220 && Nat.beq pc 1252) || ((Nat.beq z 220 && Nat.beq pc 1295) || ((Nat.beq z 220 && Nat.beq pc 1328) || ((Nat.beq z 220 && Nat.beq pc 1361) || ((Nat.beq z 220 && Nat.beq pc 1394) || ((Nat.beq z 220 && Nat.beq pc 1417) || ((Nat.beq z 220 && Nat.beq pc 1440) || ((Nat.beq z 220 && Nat.beq pc 1453) || ((Nat.beq z 220 && Nat.beq pc 1466) || (Nat.beq z 220 && Nat.beq pc 1489))))))))))))))))))))))))))))))))))))))))))))) (inl := fun _ => false) 120 _ _ _ ?_
  refine And.intro ka (And.intro (fun z => absurd z c) (fun _ => And.intro ⟨ka, va⟩ ?_))
  refine And.intro (fun _ => law_hole hL h hS fin) (fun _ => ?_)
  refine And.intro (fun _ => law_told hL h hS fin) (fun _ => ?_)
  refine And.intro (fun _ => law_as hL h hS fin) (fun _ => ?_)
  refine And.intro (fun _ => law_turns hL h hS fin) (fun _ => ?_)
  refine And.intro (fun _ => law_set hL h hS fin) (fun _ => ?_)
  refine And.intro (fun _ => law_settles hL h hS fin) (fun _ => ?_)
  refine And.intro (fun _ => law_rule hL h hS fin) (fun _ => ?_)
  refine And.intro (fun _ => law_deal hL h hS fin) (fun _ => ?_)
  refine And.intro (fun _ => law_seed hL h hS fin) (fun _ => ?_)
  refine And.intro (fun _ => law_takes hL h hS fin) (fun _ => ?_)
  refine And.intro (fun _ => law_dig hL h hS fin) (fun _ => ?_)
  refine And.intro (fun _ => law_want hL h hS fin) (fun _ => ?_)
  refine And.intro (fun _ => law_forget hL h hS fin) (fun _ => ?_)
  refine And.intro (fun _ => law_dealing hL h hS fin) (fun _ => ?_)
  refine And.intro (fun _ => law_adds hL h hS fin) (fun _ => ?_)
  refine And.intro (fun _ => law_frees hL h hS fin) (fun _ => ?_)
  refine And.intro (fun _ => law_days hL h hS fin) (fun _ => ?_)
  refine And.intro (fun _ => law_behind hL h hS fin) (fun _ => ?_)
  refine And.intro (fun _ => law_paid hL h hS fin) (fun _ => ?_)
  refine And.intro (fun _ => law_best hL h hS fin) (fun _ => ?_)
  refine And.intro (fun _ => law_owes hL h hS fin) (fun _ => ?_)
  refine And.intro (fun _ => law_debtor hL h hS fin) (fun _ => ?_)
  refine And.intro (fun _ => law_dug hL h hS fin) (fun _ => ?_)
  refine And.intro (fun _ => law_fine hL h hS fin) (fun _ => ?_)
  refine And.intro (fun _ => law_feed hL h hS fin) (fun _ => ?_)
  refine And.intro (fun _ => law_trim hL h hS fin) (fun _ => ?_)
  refine And.intro (fun _ => law_text hL h hS fin) (fun _ => ?_)
  refine And.intro (fun _ => law_textTold hL h hS fin) (fun _ => ?_)
  refine And.intro (fun _ => law_why hL h hS fin) (fun _ => ?_)
  refine And.intro (fun _ => law_sheet hL h hS fin) (fun _ => ?_)
  refine And.intro (fun _ => law_mark hL h hS fin) (fun _ => ?_)
  refine And.intro (fun _ => law_pour hL h hS fin) (fun _ => ?_)
  refine And.intro (fun _ => law_reads hL h hS fin) (fun _ => ?_)
  refine And.intro (fun _ => law_copy hL h hS fin) (fun _ => ?_)
  refine And.intro (fun _ => law_lay hL h hS fin) (fun _ => ?_)
  refine And.intro (fun _ => law_ask hL h hS fin) (fun _ => ?_)
  refine And.intro (fun _ => law_item hL h hS fin) (fun _ => ?_)
  refine And.intro (fun _ => law_rest hL h hS fin) (fun _ => ?_)
  refine And.intro (fun _ => law_tell hL h hS fin) (fun _ => ?_)
  refine And.intro (fun _ => law_check hL h hS fin) (fun _ => ?_)
  refine And.intro (fun _ => law_keep hL h hS fin) (fun _ => ?_)
  refine And.intro (fun _ => law_back hL h hS fin) (fun _ => ?_)
  refine And.intro (fun _ => law_count hL h hS fin) (fun _ => ?_)
  exact fin kt I J T n s hS (by omega) (by omega)
theorem law_go (hL : L ≤ 3072) : ∀ (j i : Nat) (kt : Nat → Nat × Nat) (I : Nat → Nat → Int32) (J : Nat → Nat → Int64) (T : Nat → Nat → Nat) (n s : Nat), L < i + 6 * j + 6 → i ≤ 4000 → sg_Sim L xs kt I J T n → n + 3 * j ≤ 600020 → s + 200 * j ≤ 7302250 → am_T am_C (220, 203, 18, [.ref 13, .ref 20, .ref 107, .int (nI i)], []) (am_mk kt I J T n s) lawQ
  | 0, i, kt, I, J, T, n, s, h, hi, hS, hn, hs => law_end hi hL (by omega) hS (by omega) (by omega)
  | j + 1, i, kt, I, J, T, n, s, h, hi, hS, hn, hs => by
    by_cases q : i + 6 ≤ L
    · refine law_one hL q hS (fun kt' I' J' T' n' s' hS' a b => ?_)
      have ih := law_go hL j (i + 6) kt' I' J' T' n' s' (by omega) (by omega) hS' (by omega) (by omega)
      rw [show nI (i + 6) = nI i + 6 from (by rw [show (6 : Int32) = nI 6 from rfl, nI_add])] at ih
      refine am_wq_T (cut := fun z pc => (Nat.beq z 220 && Nat.beq pc 18)) (inl := fun _ => false) 120 _ _ _ ?_
      exact ih
    · exact law_end hi hL (by omega) hS (by omega) (by omega)
end T99k
