/-! one cell of a land of the class and its place in the reference's row, changed together -/
section T33
def upN (N : Nat → Int32) (j : Nat) (v : Int32) : Nat → Int32 := fun k => if k = j then v else N k
theorem upN_eq (N : Nat → Int32) (j : Nat) (v : Int32) : upN N j v j = v := if_pos rfl
theorem upN_ne {N : Nat → Int32} {j k : Nat} {v : Int32} (h : k ≠ j) : upN N j v k = N k := if_neg h
theorem up_eq (I : Nat → Nat → Int32) (a k : Nat) (v : Int32) : am_up I a k v a k = v := if_pos ⟨rfl, rfl⟩
theorem up_ne {I : Nat → Nat → Int32} {a k b j : Nat} {v : Int32} (h : ¬ (b = a ∧ j = k)) : am_up I a k v b j = I b j := if_neg h
theorem up_row (I : Nat → Nat → Int32) (a k : Nat) (v : Int32) : am_up I a k v a = upN (I a) k v := by
  funext j
  unfold am_up upN
  by_cases h : j = k
  · rw [if_pos ⟨rfl, h⟩, if_pos h]
  · rw [if_neg (fun q => h q.2), if_neg h]
theorem up_off {I : Nat → Nat → Int32} {a k b : Nat} {v : Int32} (h : b ≠ a) : am_up I a k v b = I b := funext fun _ => if_neg fun q => h q.1
theorem row_eq {I : Nat → Nat → Int32} {a : Nat} {g : Nat → Int32} : am_row I a g a = g := funext fun _ => if_pos rfl
theorem row_off {I : Nat → Nat → Int32} {a b : Nat} {g : Nat → Int32} (h : b ≠ a) : am_row I a g b = I b := funext fun _ => if_neg h
def cellR (b r k j : Nat) : Prop :=
  (b + 6 ≤ r ∧ r < b + 16 ∧ k < 5 ∧ j = 21 + 5 * (r - (b + 6)) + k) ∨ (r = b + 2 ∧ k < 6 ∧ j = 9 + 2 * k) ∨ (r = b + 3 ∧ k < 6 ∧ j = 10 + 2 * k) ∨
  (r = b ∧ ((k = 8 ∧ j = 3) ∨ (k = 9 ∧ j = 4) ∨ (k = 10 ∧ j = 2) ∨ (k = 11 ∧ j = 5) ∨ (k = 12 ∧ j = 6) ∨ (k = 13 ∧ j = 0)))
theorem cellR_inj {b r k j r' k' j' : Nat} (c : cellR b r k j) (c' : cellR b r' k' j') : (r' = r ∧ k' = k) ↔ j' = j := by
  unfold cellR at c c'
  omega
variable {kt : Nat → Nat × Nat} {I I' : Nat → Nat → Int32} {T : Nat → Nat → Nat} {n : Nat} {N N' : Nat → Int32}
theorem cell_up {b r k j r' k' j' : Nat} {v : Int32} (c : cellR b r k j) (c' : cellR b r' k' j') (e : I r' k' = N j') : am_up I r k v r' k' = upN N j v j' := by
  have q := cellR_inj c c'
  by_cases h : j' = j
  · rw [← (q.mpr h).1, ← (q.mpr h).2, h, up_eq, upN_eq]
  · rw [up_ne (fun x => h (q.mp x)), upN_ne h]; exact e
theorem LR_up {b r k j hc wc tc : Nat} {v : Int32} (hb : b < 100) (c : cellR b r k j) (q : sg_LR kt I T n b N hc wc tc) : sg_LR kt (am_up I r k v) T n b (upN N j v) hc wc tc := by
  obtain ⟨h0, h1, h2, h3, h4, h5, h6, h7, h8, h9, h10, h11, h12, h13, h14, h15, h16, h17, h18⟩ := q
  have hj : j ≠ 1 ∧ j ≠ 7 ∧ j ≠ 8 ∧ j < 76 := by unfold cellR at c; omega
  have hr : b ≤ r ∧ r < b + 16 ∧ r ≠ b + 5 ∧ ¬ (r = b ∧ k < 7) := by unfold cellR at c; omega
  refine ⟨h0, h1, h2, ?_, ?_, ?_, ?_, ?_, ?_, ?_, ?_, ?_, ?_, ?_, ?_, ?_, ?_, ?_, ?_⟩
  · rw [upN_ne (by omega)]; exact h3
  · rw [upN_ne (by omega)]; exact h4
  · rw [upN_ne (by omega)]; exact h5
  · rw [up_ne (by omega)]; exact h6
  · rw [up_ne (by omega)]; exact h7
  · rw [up_ne (by omega)]; exact h8
  · intro i hi k' hk
    exact cell_up c (by unfold cellR; omega) (h9 i hi k' hk)
  · intro w hw
    exact ⟨cell_up c (by unfold cellR; omega) (h10 w hw).1, cell_up c (by unfold cellR; omega) (h10 w hw).2⟩
  · exact cell_up c (by unfold cellR; omega) h11
  · exact cell_up c (by unfold cellR; omega) h12
  · exact cell_up c (by unfold cellR; omega) h13
  · exact cell_up c (by unfold cellR; omega) h14
  · exact cell_up c (by unfold cellR; omega) h15
  · exact cell_up c (by unfold cellR; omega) h16
  · intro t ht
    exact Txt_cg (fun r' k' h1 h2 => up_ne (by omega)) ⟨upN_ne (by omega), upN_ne (by omega), fun _ _ => upN_ne (by omega)⟩ (h17 t ht)
  · intro key hk
    rw [up_ne (by omega), cnt_cg (fun i hi => upN_ne (by omega))]
    exact h18 key hk
/-- another number of holes -/
theorem LR_hc {b hc hc' wc tc : Nat} (hb : b < 100) (hh : hc' ≤ 10) (e : ∀ h, h < hc' → ∀ k, k < 5 → I (b + 6 + h) k = N (21 + 5 * h + k)) (q : sg_LR kt I T n b N hc wc tc) : sg_LR kt (am_up I b 1 (nI hc')) T n b (upN N 1 (nI hc')) hc' wc tc := by
  obtain ⟨h0, h1, h2, h3, h4, h5, h6, h7, h8, h9, h10, h11, h12, h13, h14, h15, h16, h17, h18⟩ := q
  refine ⟨hh, h1, h2, upN_eq _ _ _, ?_, ?_, up_eq _ _ _ _, ?_, ?_, ?_, ?_, ?_, ?_, ?_, ?_, ?_, ?_, ?_, ?_⟩
  · rw [upN_ne (by omega)]; exact h4
  · rw [upN_ne (by omega)]; exact h5
  · rw [up_ne (by omega)]; exact h7
  · rw [up_ne (by omega)]; exact h8
  · intro i hi k' hk
    rw [up_ne (by omega), upN_ne (by omega)]; exact e i hi k' hk
  · intro w hw
    rw [up_ne (by omega), upN_ne (by omega), up_ne (by omega), upN_ne (by omega)]; exact h10 w hw
  · rw [up_ne (by omega), upN_ne (by omega)]; exact h11
  · rw [up_ne (by omega), upN_ne (by omega)]; exact h12
  · rw [up_ne (by omega), upN_ne (by omega)]; exact h13
  · rw [up_ne (by omega), upN_ne (by omega)]; exact h14
  · rw [up_ne (by omega), upN_ne (by omega)]; exact h15
  · rw [up_ne (by omega), upN_ne (by omega)]; exact h16
  · intro t ht
    exact Txt_cg (fun r' k' h1 h2 => up_ne (by omega)) ⟨upN_ne (by omega), upN_ne (by omega), fun _ _ => upN_ne (by omega)⟩ (h17 t ht)
  · intro key hk
    rw [up_ne (by omega), cnt_cg (fun i hi => upN_ne (by omega))]
    exact h18 key hk
/-- another number of wants -/
theorem LR_wc {b hc wc wc' tc : Nat} (hb : b < 100) (hh : wc' ≤ 6) (e : ∀ w, w < wc' → I (b + 2) w = N (9 + 2 * w) ∧ I (b + 3) w = N (9 + 2 * w + 1)) (q : sg_LR kt I T n b N hc wc tc) : sg_LR kt (am_up I b 4 (nI wc')) T n b (upN N 7 (nI wc')) hc wc' tc := by
  obtain ⟨h0, h1, h2, h3, h4, h5, h6, h7, h8, h9, h10, h11, h12, h13, h14, h15, h16, h17, h18⟩ := q
  refine ⟨h0, hh, h2, ?_, upN_eq _ _ _, ?_, ?_, up_eq _ _ _ _, ?_, ?_, ?_, ?_, ?_, ?_, ?_, ?_, ?_, ?_, ?_⟩
  · rw [upN_ne (by omega)]; exact h3
  · rw [upN_ne (by omega)]; exact h5
  · rw [up_ne (by omega)]; exact h6
  · rw [up_ne (by omega)]; exact h8
  · intro i hi k' hk
    rw [up_ne (by omega), upN_ne (by omega)]; exact h9 i hi k' hk
  · intro w hw
    rw [up_ne (by omega), upN_ne (by omega), up_ne (by omega), upN_ne (by omega)]; exact e w hw
  · rw [up_ne (by omega), upN_ne (by omega)]; exact h11
  · rw [up_ne (by omega), upN_ne (by omega)]; exact h12
  · rw [up_ne (by omega), upN_ne (by omega)]; exact h13
  · rw [up_ne (by omega), upN_ne (by omega)]; exact h14
  · rw [up_ne (by omega), upN_ne (by omega)]; exact h15
  · rw [up_ne (by omega), upN_ne (by omega)]; exact h16
  · intro t ht
    exact Txt_cg (fun r' k' h1 h2 => up_ne (by omega)) ⟨upN_ne (by omega), upN_ne (by omega), fun _ _ => upN_ne (by omega)⟩ (h17 t ht)
  · intro key hk
    rw [up_ne (by omega), cnt_cg (fun i hi => upN_ne (by omega))]
    exact h18 key hk
/-- bounds, field by field -/
def bd (k : Nat) : Int := if k = 0 then 5 else if k = 1 then 29 else if k = 2 then 99 else if k = 3 then 7 else 999
theorem LB_iff {hc wc : Nat} : sg_LB N hc wc ↔ (∀ h, h < hc → ∀ k, k < 5 → sg_in (N (21 + 5 * h + k)) 0 (bd k)) ∧ (∀ w, w < wc → sg_in (N (9 + 2 * w)) 0 29 ∧ sg_in (N (10 + 2 * w)) 1 99) ∧ sg_in (N 3) 0 29 ∧ sg_in (N 4) 50 200 ∧ sg_in (N 2) 0 9999 := by
  constructor
  · rintro ⟨a, b, c⟩
    refine ⟨?_, ?_, c⟩
    · intro h hh k hk
      obtain ⟨a0, a1, a2, a3, a4⟩ := a h hh
      match k, hk with
      | 0, _ => exact a0
      | 1, _ => exact a1
      | 2, _ => exact a2
      | 3, _ => exact a3
      | 4, _ => exact a4
    · intro w hw
      have := b w hw
      rw [show 9 + 2 * w + 1 = 10 + 2 * w by omega] at this
      exact this
  · rintro ⟨a, b, c⟩
    refine ⟨fun h hh => ⟨a h hh 0 (by decide), a h hh 1 (by decide), a h hh 2 (by decide), a h hh 3 (by decide), a h hh 4 (by decide)⟩, ?_, c⟩
    intro w hw
    rw [show 9 + 2 * w + 1 = 10 + 2 * w by omega]
    exact b w hw
/-- a new number at a place j: the bounds stay, if it keeps its own -/
theorem LB_up {hc wc j : Nat} {v : Int32} (a : 21 ≤ j → j < 21 + 5 * hc → sg_in v 0 (bd ((j - 21) % 5))) (b : ∀ w, w < wc → (j = 9 + 2 * w → sg_in v 0 29) ∧ (j = 10 + 2 * w → sg_in v 1 99)) (c : (j = 3 → sg_in v 0 29) ∧ (j = 4 → sg_in v 50 200) ∧ (j = 2 → sg_in v 0 9999)) (q : sg_LB N hc wc) : sg_LB (upN N j v) hc wc := by
  rw [LB_iff] at q ⊢
  obtain ⟨q0, q1, q2, q3, q4⟩ := q
  have e : ∀ (k : Nat) (x y : Int), (k = j → sg_in v x y) → sg_in (N k) x y → sg_in (upN N j v k) x y := by
    intro k x y h1 h2
    by_cases h : k = j
    · subst h; rw [upN_eq]; exact h1 rfl
    · rw [upN_ne h]; exact h2
  refine ⟨?_, ?_, ?_, ?_, ?_⟩
  · intro h hh k hk
    refine e _ _ _ (fun h1 => ?_) (q0 h hh k hk)
    have := a (by omega) (by omega)
    rw [show (j - 21) % 5 = k by omega] at this
    exact this
  · intro w hw
    exact ⟨e _ _ _ (fun h => (b w hw).1 h.symm) (q1 w hw).1, e _ _ _ (fun h => (b w hw).2 h.symm) (q1 w hw).2⟩
  · exact e _ _ _ (fun h => c.1 h.symm) q2
  · exact e _ _ _ (fun h => c.2.1 h.symm) q3
  · exact e _ _ _ (fun h => c.2.2 h.symm) q4
theorem LB_more {hc wc : Nat} {v : Int32} (j : Nat) (hj : j = 0 ∨ j = 1 ∨ j = 5 ∨ j = 6 ∨ j = 7 ∨ j = 8) (q : sg_LB N hc wc) : sg_LB (upN N j v) hc wc := LB_up (by omega) (by omega) (by omega) q
end T33
