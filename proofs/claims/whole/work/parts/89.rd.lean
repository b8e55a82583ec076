/-! an expression, read from left to right -/
section T89
variable {B : Nat → Int32} {len key : Nat}
/-- at, up to, sign, codes, pieces -/
abbrev pSt := Nat × Nat × Int32 × List Int32 × Nat
def nxS (B : Nat → Int32) (len : Nat) (s : pSt) : pSt := ((tkn B len s.2.1 (wd s.2.2.1)).1, (tkn B len s.2.1 (wd s.2.2.1)).2.1, (tkn B len s.2.1 (wd s.2.2.1)).2.2, s.2.2.2.1, s.2.2.2.2)
def ptS (s : pSt) (x : Int32) : pSt := (s.1, s.2.1, s.2.2.1, s.2.2.2.1 ++ [x], s.2.2.2.2)
def atS (s : pSt) : pSt := (s.1, s.2.1, s.2.2.1, s.2.2.2.1, s.2.2.2.2 + 1)
/-- signs that join -/
def jn (l : Nat) (g : Int32) : Bool := if l = 0 then decide (g = 124) else if l = 1 then decide (g = 38) else if l = 2 then decide (g = 60 ∨ g = 61 ∨ g = 62) else if l = 3 then decide (g = 43 ∨ g = 45) else decide (g = 42 ∨ g = 47)
/-- which name of a key -/
def nmV (key : Nat) (x : Int32) : Int32 := if key = 0 then (if x = 100 then 0 else if x = 111 then 1 else -1) else if key = 1 then (if x = 120 then 0 else if x = 100 then 1 else if x = 97 then 2 else -1) else (if x = 101 then 0 else if x = 108 then 1 else -1)
def pk (k : Nat) : Nat := if k = 4 then 10 else k + 1
def rdB (r : Option (Bool × pSt)) (k : pSt → Option (Bool × pSt)) : Option (Bool × pSt) :=
  match r with
  | none => none
  | some (false, s) => some (false, s)
  | some (true, s) => k s
/-- kinds: 0 to 4 what a level joins, 5 to 9 its rest, 10 a piece -/
def rd (B : Nat → Int32) (len key : Nat) : Nat → Nat → pSt → Nat → Nat → Option (Bool × pSt)
  | 0, _, _, _, _ => none
  | f + 1, k, s, nn, nb =>
    if k < 5 then rdB (rd B len key f (pk k) s nn nb) (fun s1 => rd B len key f (k + 5) s1 nn nb)
    else if k < 10 then
      (if jn (k - 5) s.2.2.1 = true then rdB (rd B len key f (pk (k - 5)) (nxS B len s) nn nb) (fun s1 => if k = 7 then some (true, ptS s1 (-s.2.2.1)) else rd B len key f k (ptS s1 (-s.2.2.1)) nn nb)
       else some (true, s))
    else if s.2.2.1 = 257 then (if s.2.1 - s.1 ≤ 4 then some (true, nxS B len (atS (ptS s (nv B s.1 (s.2.1 - s.1))))) else some (false, s))
    else if s.2.2.1 = 256 then (if s.2.1 - s.1 = 1 ∧ ¬ nmV key (B s.1) < 0 then some (true, nxS B len (atS (ptS s (-1 - nmV key (B s.1))))) else some (false, s))
    else if s.2.2.1 = 33 then (if nn < 8 then rdB (rd B len key f 10 (nxS B len s) (nn + 1) nb) (fun s1 => some (true, ptS s1 (-33))) else some (false, s))
    else if s.2.2.1 = 40 then (if nb < 8 then rdB (rd B len key f 0 (nxS B len s) nn (nb + 1)) (fun s1 => if s1.2.2.1 = 41 then some (true, nxS B len s1) else some (false, s1)) else some (false, s))
    else some (false, s)
variable {f k nn nb : Nat} {s : pSt}
theorem rd_j (hk : k < 5) : rd B len key (f + 1) k s nn nb = rdB (rd B len key f (pk k) s nn nb) (fun s1 => rd B len key f (k + 5) s1 nn nb) := if_pos hk
theorem rd_l (h1 : ¬ k < 5) (h2 : k < 10) (hj : jn (k - 5) s.2.2.1 = true) : rd B len key (f + 1) k s nn nb = rdB (rd B len key f (pk (k - 5)) (nxS B len s) nn nb) (fun s1 => if k = 7 then some (true, ptS s1 (-s.2.2.1)) else rd B len key f k (ptS s1 (-s.2.2.1)) nn nb) := (if_neg h1).trans ((if_pos h2).trans (if_pos hj))
theorem rd_e (h1 : ¬ k < 5) (h2 : k < 10) (hj : ¬ jn (k - 5) s.2.2.1 = true) : rd B len key (f + 1) k s nn nb = some (true, s) := (if_neg h1).trans ((if_pos h2).trans (if_neg hj))
theorem rd_p : rd B len key (f + 1) 10 s nn nb = (if s.2.2.1 = 257 then (if s.2.1 - s.1 ≤ 4 then some (true, nxS B len (atS (ptS s (nv B s.1 (s.2.1 - s.1))))) else some (false, s))
    else if s.2.2.1 = 256 then (if s.2.1 - s.1 = 1 ∧ ¬ nmV key (B s.1) < 0 then some (true, nxS B len (atS (ptS s (-1 - nmV key (B s.1))))) else some (false, s))
    else if s.2.2.1 = 33 then (if nn < 8 then rdB (rd B len key f 10 (nxS B len s) (nn + 1) nb) (fun s1 => some (true, ptS s1 (-33))) else some (false, s))
    else if s.2.2.1 = 40 then (if nb < 8 then rdB (rd B len key f 0 (nxS B len s) nn (nb + 1)) (fun s1 => if s1.2.2.1 = 41 then some (true, nxS B len s1) else some (false, s1)) else some (false, s))
    else some (false, s)) := rfl
/-- what a bind comes to -/
theorem rdB_some {r : Option (Bool × pSt)} {k : pSt → Option (Bool × pSt)} {x : Bool × pSt} (h : rdB r k = some x) : (∃ s, r = some (false, s) ∧ x = (false, s)) ∨ ∃ s, r = some (true, s) ∧ k s = some x := by
  cases r with
  | none => exact absurd h (by intro z; cases z)
  | some y =>
    obtain ⟨b, s⟩ := y
    cases b with
    | false => exact .inl ⟨s, rfl, (Option.some.inj h).symm⟩
    | true => exact .inr ⟨s, rfl, h⟩
theorem rdB_f {k : pSt → Option (Bool × pSt)} {s : pSt} : rdB (some (false, s)) k = some (false, s) := rfl
theorem rdB_t {k : pSt → Option (Bool × pSt)} {s : pSt} : rdB (some (true, s)) k = k s := rfl
/-- how a place stands -/
def ws (B : Nat → Int32) (len : Nat) (s : pSt) : Prop := s.1 ≤ s.2.1 ∧ s.2.1 ≤ len ∧ (s.2.2.1 ≠ -1 → s.1 < s.2.1) ∧ (s.2.2.1 = 257 → ∀ k, s.1 ≤ k → k < s.2.1 → srt (B k) = 257) ∧ (s.2.2.1 = 256 → srt (B s.1) = 256)
theorem tkn_ws {e : Nat} {w : Bool} (he : e ≤ len) : e ≤ (tkn B len e w).1 ∧ (tkn B len e w).1 ≤ (tkn B len e w).2.1 ∧ (tkn B len e w).2.1 ≤ len ∧ ((tkn B len e w).2.2 ≠ -1 → (tkn B len e w).1 < (tkn B len e w).2.1) ∧ ((tkn B len e w).2.2 = 257 → ∀ k, (tkn B len e w).1 ≤ k → k < (tkn B len e w).2.1 → srt (B k) = 257) ∧ ((tkn B len e w).2.2 = 256 → srt (B (tkn B len e w).1) = 256) := by
  obtain ⟨x, hx⟩ : ∃ x, skp (fun k => decide (B k = 32)) (len - e) e = x := ⟨_, rfl⟩
  have xb := skp_b (fun k => decide (B k = 32)) (len - e) e
  rw [hx] at xb
  by_cases c : x < len
  · by_cases d : srt (B x) = 256 ∨ srt (B x) = 257
    · rw [tkn_word hx c d]
      have zb := skp_b (fun k => decide (srt (B k) = srt (B x))) (len - (x + 1)) (x + 1)
      have za := skp_a (fun k => decide (srt (B k) = srt (B x))) (len - (x + 1)) (x + 1)
      refine ⟨by show e ≤ x; omega, by show x ≤ skp _ _ _; omega, by show skp _ _ _ ≤ len; omega, fun _ => by show x < skp _ _ _; omega, fun h k h1 h2 => ?_, fun h => ?_⟩
      · have h' : (if w = true ∧ x = e then (258 : Int32) else srt (B x)) = 257 := h
        have hs : srt (B x) = 257 := by
          by_cases u : w = true ∧ x = e
          · rw [if_pos u] at h'; exact absurd h' (by decide)
          · rw [if_neg u] at h'; exact h'
        have h1' : x ≤ k := h1
        by_cases e1 : k = x
        · rw [e1]; exact hs
        · have := za k (by omega) h2
          rw [← hs]
          exact of_decide_eq_true this
      · have h' : (if w = true ∧ x = e then (258 : Int32) else srt (B x)) = 256 := h
        show srt (B x) = 256
        by_cases u : w = true ∧ x = e
        · rw [if_pos u] at h'; exact absurd h' (by decide)
        · rw [if_neg u] at h'; exact h'
    · rw [tkn_sign hx c d]
      refine ⟨by show e ≤ x; omega, by show x ≤ x + 1; omega, by show x + 1 ≤ len; omega, fun _ => by show x < x + 1; omega, fun h => absurd (.inr h) d, fun h => absurd (.inl h) d⟩
  · rw [tkn_end (by rw [hx]; exact c), hx]
    exact ⟨by show e ≤ x; omega, Nat.le_refl _, by show x ≤ len; omega, fun h => absurd rfl h, fun h => absurd h (by show ¬ (-1 : Int32) = 257; decide), fun h => absurd h (by show ¬ (-1 : Int32) = 256; decide)⟩
theorem nxS_ws (h : s.2.1 ≤ len) : ws B len (nxS B len s) ∧ s.2.1 ≤ (nxS B len s).1 := by
  have k := tkn_ws (B := B) (w := wd s.2.2.1) h
  exact ⟨⟨k.2.1, k.2.2.1, k.2.2.2.1, k.2.2.2.2.1, k.2.2.2.2.2⟩, k.1⟩
theorem jn_g {l : Nat} {g : Int32} (h : jn l g = true) : g = 124 ∨ g = 38 ∨ g = 60 ∨ g = 61 ∨ g = 62 ∨ g = 43 ∨ g = 45 ∨ g = 42 ∨ g = 47 := by
  unfold jn at h
  by_cases l0 : l = 0
  · rw [if_pos l0] at h; exact .inl (of_decide_eq_true h)
  rw [if_neg l0] at h
  by_cases l1 : l = 1
  · rw [if_pos l1] at h; exact .inr (.inl (of_decide_eq_true h))
  rw [if_neg l1] at h
  by_cases l2 : l = 2
  · rw [if_pos l2] at h
    rcases of_decide_eq_true h with e | e | e
    · exact .inr (.inr (.inl e))
    · exact .inr (.inr (.inr (.inl e)))
    · exact .inr (.inr (.inr (.inr (.inl e))))
  rw [if_neg l2] at h
  by_cases l3 : l = 3
  · rw [if_pos l3] at h
    rcases of_decide_eq_true h with e | e
    · exact .inr (.inr (.inr (.inr (.inr (.inl e)))))
    · exact .inr (.inr (.inr (.inr (.inr (.inr (.inl e))))))
  rw [if_neg l3] at h
  rcases of_decide_eq_true h with e | e
  · exact .inr (.inr (.inr (.inr (.inr (.inr (.inr (.inl e)))))))
  · exact .inr (.inr (.inr (.inr (.inr (.inr (.inr (.inr e)))))))
theorem jn_m1 {l : Nat} {g : Int32} (h : jn l g = true) : g ≠ -1 := by
  rcases jn_g h with e | e | e | e | e | e | e | e | e
  all_goals rw [e]; decide
/-- a code that may stand in a text -/
def okC (key : Nat) (x : Int32) : Prop := ((-3 ≤ x ∧ x ≤ 9999) ∨ x ∈ [-33, -38, -42, -43, -45, -47, -60, -61, -62, -124]) ∧ (key ≠ 1 → x ≠ -3)
theorem okC_j {l : Nat} {g : Int32} (h : jn l g = true) : okC key (-g) := by
  rcases jn_g h with e | e | e | e | e | e | e | e | e
  all_goals rw [e]; exact ⟨.inr (by decide), fun _ => by decide⟩
theorem okC_n : okC key (-33) := ⟨.inr (by decide), fun _ => by decide⟩
theorem dp_app : ∀ (a b : List Int32) (d e : Nat), sg_dp a d = some e → sg_dp (a ++ b) d = sg_dp b e
  | [], b, d, e, h => by
    have : d = e := Option.some.inj h
    rw [this]; rfl
  | x :: a, b, d, e, h => by
    show (if -3 ≤ x then sg_dp (a ++ b) (d + 1) else if x = -33 then (if d = 0 then none else sg_dp (a ++ b) d) else (if d < 2 then none else sg_dp (a ++ b) (d - 1))) = _
    have h' : (if -3 ≤ x then sg_dp a (d + 1) else if x = -33 then (if d = 0 then none else sg_dp a d) else (if d < 2 then none else sg_dp a (d - 1))) = some e := h
    by_cases c1 : -3 ≤ x
    · rw [if_pos c1] at h' ⊢; exact dp_app a b _ e h'
    · rw [if_neg c1] at h' ⊢
      by_cases c2 : x = -33
      · rw [if_pos c2] at h' ⊢
        by_cases c3 : d = 0
        · rw [if_pos c3] at h'; cases h'
        · rw [if_neg c3] at h' ⊢; exact dp_app a b _ e h'
      · rw [if_neg c2] at h' ⊢
        by_cases c3 : d < 2
        · rw [if_pos c3] at h'; cases h'
        · rw [if_neg c3] at h' ⊢; exact dp_app a b _ e h'
theorem dp_j {l : Nat} {g : Int32} (h : jn l g = true) (d : Nat) : sg_dp [-g] (d + 2) = some (d + 1) := by
  rcases jn_g h with e | e | e | e | e | e | e | e | e
  all_goals
    rw [e]
    show (if _ then _ else _) = _
    rw [if_neg (by decide), if_neg (by decide), if_neg (by omega)]
    rfl
theorem dp_n (d : Nat) : sg_dp [-33] (d + 1) = some (d + 1) := by
  show (if _ then _ else _) = _
  rw [if_neg (by decide), if_pos rfl, if_neg (by omega)]
  rfl
theorem dp_v {x : Int32} (h : -3 ≤ x) (d : Nat) : sg_dp [x] d = some (d + 1) := if_pos h
end T89
