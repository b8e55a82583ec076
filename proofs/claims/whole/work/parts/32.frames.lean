/-! what of the memory the relation speaks of, and that the rest may change -/
section T32
def rv (r k : Nat) : Prop := r < 37 ∨ (53 ≤ r ∧ r < 69) ∨ (r = 72 ∧ k = 1) ∨ r = 73 ∨ r = 77 ∨ (79 ≤ r ∧ r < 107) ∨ (r = 107 ∧ (k = 3 ∨ k = 11 ∨ k = 37)) ∨ r = 108 ∨ r = 109 ∨ (117 ≤ r ∧ r < 120) ∨ (125 ≤ r ∧ r < 132) ∨ r = 133 ∨ (134 ≤ r ∧ r % 3 ≠ 1)
variable {kt : Nat → Nat × Nat} {I I' S S' : Nat → Nat → Int32} {J J' : Nat → Nat → Int64} {T : Nat → Nat → Nat} {n : Nat} {N N' : Nat → Int32} {L : Nat} {xs : Nat → Int32}
theorem Txt_cg {r t : Nat} (h : ∀ r k, 134 ≤ r → r % 3 ≠ 1 → I' r k = I r k) (hN : N' (76 + 2 * t) = N (76 + 2 * t) ∧ N' (77 + 2 * t) = N (77 + 2 * t) ∧ ∀ k, k < 96 → N' (104 + 96 * t + k) = N (104 + 96 * t + k)) (q : sg_Txt kt I T n r t N) : sg_Txt kt I' T n r t N' := by
  obtain ⟨key, len, cs, h0, h1, h2, h3, h4, h5, h6, h7, h8, h9, h10, h11, h12, h13, h14, h15, h16⟩ := q
  refine ⟨key, len, cs, h0, h1, h2, h3, h4, h5, h6, h7, h8, h9, h10, ?_, ?_, ?_, ?_, h15, h16⟩
  · rw [h r 0 h0 (by omega)]; exact h11
  · rw [h r 1 h0 (by omega), hN.2.1]; exact h12
  · rw [hN.1]; exact h13
  · intro k hk
    rw [h (r + 1) k (by omega) (by omega), hN.2.2 k (by omega)]
    exact h14 k hk
theorem cnt_cg {key : Nat} : ∀ {t : Nat}, (∀ i, i < t → N' (76 + 2 * i) = N (76 + 2 * i)) → sg_cnt N' key t = sg_cnt N key t
  | 0, _ => rfl
  | t + 1, h => by
    show (if N' (76 + 2 * t) / 1000 = nI key then nI t else sg_cnt N' key t) = (if N (76 + 2 * t) / 1000 = nI key then nI t else sg_cnt N key t)
    rw [h t (by omega), cnt_cg (t := t) fun i hi => h i (by omega)]
theorem LR_cg {b hc wc tc : Nat} (h : ∀ r k, (b ≤ r ∧ r < b + 16) ∨ (134 ≤ r ∧ r % 3 ≠ 1) → I' r k = I r k) (q : sg_LR kt I T n b N hc wc tc) : sg_LR kt I' T n b N hc wc tc := by
  obtain ⟨h0, h1, h2, h3, h4, h5, h6, h7, h8, h9, h10, h11, h12, h13, h14, h15, h16, h17, h18⟩ := q
  have e : ∀ j k, j < 16 → I' (b + j) k = I (b + j) k := fun j k hj => h _ _ (.inl ⟨by omega, by omega⟩)
  have e0 : ∀ k, I' b k = I b k := fun k => e 0 k (by decide)
  refine ⟨h0, h1, h2, h3, h4, h5, ?_, ?_, ?_, ?_, ?_, ?_, ?_, ?_, ?_, ?_, ?_, ?_, ?_⟩
  · rw [e0]; exact h6
  · rw [e0]; exact h7
  · rw [e0]; exact h8
  · intro i hi k hk
    rw [show b + 6 + i = b + (6 + i) by omega, e _ _ (by omega), ← show b + 6 + i = b + (6 + i) by omega]
    exact h9 i hi k hk
  · intro w hw
    rw [e 2 _ (by decide), e 3 _ (by decide)]
    exact h10 w hw
  · rw [e0]; exact h11
  · rw [e0]; exact h12
  · rw [e0]; exact h13
  · rw [e0]; exact h14
  · rw [e0]; exact h15
  · rw [e0]; exact h16
  · intro t ht
    exact Txt_cg (fun r k h1 h2 => h r k (.inr ⟨h1, h2⟩)) ⟨rfl, rfl, fun _ _ => rfl⟩ (h17 t ht)
  · intro key hk
    rw [e 5 _ (by decide)]
    exact h18 key hk
theorem Land_cg {b : Nat} (h : ∀ r k, (b ≤ r ∧ r < b + 16) ∨ (134 ≤ r ∧ r % 3 ≠ 1) → I' r k = I r k) (q : sg_Land kt I T n b N) : sg_Land kt I' T n b N := by
  obtain ⟨hc, wc, tc, h1, h2⟩ := q
  exact ⟨hc, wc, tc, LR_cg h h1, h2⟩
theorem Tape_cg (h : I' 72 1 = I 72 1) (h1 : I' 73 = I 73) (h2 : S' 107 11 = S 107 11) (h3 : S' 117 = S 117) (q : sg_Tape I S) : sg_Tape I' S' := by
  obtain ⟨len, a, b, c, d⟩ := q
  exact ⟨len, a, by rw [h]; exact b, by rw [h2]; exact c, by rw [h1, h3]; exact d⟩
theorem Sheet_cg {q : Nat} (h : I' (79 + 2 * q) = I (79 + 2 * q)) (h1 : I' (80 + 2 * q) = I (80 + 2 * q)) (h2 : S' 125 = S 125) (h3 : S' 126 = S 126) (h4 : S' 127 = S 127) (a : sg_Sheet I S q) : sg_Sheet I' S' q := by
  unfold sg_Sheet at a ⊢
  rw [h, h1, h2, h3, h4]; exact a
theorem Slot_cg {q : Nat} (h : I' (87 + 4 * q) = I (87 + 4 * q)) (h1 : I' (88 + 4 * q) = I (88 + 4 * q)) (h2 : I' (89 + 4 * q) = I (89 + 4 * q)) (h3 : I' (90 + 4 * q) = I (90 + 4 * q)) (h4 : S' 128 = S 128) (h5 : S' 129 = S 129) (h6 : S' 130 = S 130) (h7 : S' 131 = S 131) (a : sg_Slot I S q) : sg_Slot I' S' q := by
  unfold sg_Slot at a ⊢
  rw [h, h1, h2, h3, h4, h5, h6, h7]; exact a
theorem Wait_cg (h : I' 20 9 = I 20 9) (h1 : I' 77 = I 77) (h2 : S' 107 37 = S 107 37) (h3 : S' 133 = S 133) (q : sg_Wait I S) : sg_Wait I' S' := by
  unfold sg_Wait at q ⊢
  rw [h, h1, h2, h3]; exact q
/-- all but the land now -/
theorem sim_land (h : ∀ r k, rv r k → ¬ (21 ≤ r ∧ r < 37) → r ≠ 108 → I' r k = I r k) (hJ : ∀ r, r < 20 → J' r = J r) (hL : sg_Land kt I' T n 21 (I' 108)) (q : sg_Sim L xs kt I J T n) : sg_Sim L xs kt I' J' T n := by
  have e : ∀ r, (∀ k, rv r k) → ¬ (21 ≤ r ∧ r < 37) → r ≠ 108 → I' r = I r := fun r a b c => funext fun k => h r k (a k) b c
  obtain ⟨⟨f0, f1, f2, f3, f4, f5, f6⟩, -, ⟨k0, k1, k2⟩, t, sh, sl, w⟩ := q
  refine ⟨⟨f0, f1, f2, f3, ?_, ?_, ?_⟩, hL, ⟨?_, ?_, ?_⟩, ?_, ?_, ?_, ?_⟩
  · intro r hr
    rw [e r (fun k => by unfold rv; omega) (by omega) (by omega), hJ r hr]
    exact f4 r hr
  · rw [e 118 (fun k => by unfold rv; omega) (by omega) (by omega)]; exact f5
  · rw [e 119 (fun k => by unfold rv; omega) (by omega) (by omega)]; exact f6
  · rw [e 20 (fun k => by unfold rv; omega) (by omega) (by omega), h 107 3 (by unfold rv; omega) (by omega) (by omega)]; exact k0
  · rw [h 107 3 (by unfold rv; omega) (by omega) (by omega)]; exact k1
  · rw [h 107 3 (by unfold rv; omega) (by omega) (by omega), e 109 (fun k => by unfold rv; omega) (by omega) (by omega)]
    intro hk
    exact Land_cg (fun r k hr => h r k (by unfold rv; omega) (by omega) (by omega)) (k2 hk)
  · exact Tape_cg (h _ _ (by unfold rv; omega) (by omega) (by omega)) (e _ (fun k => by unfold rv; omega) (by omega) (by omega)) (h _ _ (by unfold rv; omega) (by omega) (by omega)) (e _ (fun k => by unfold rv; omega) (by omega) (by omega)) t
  · intro q hq
    exact Sheet_cg (e _ (fun k => by unfold rv; omega) (by omega) (by omega)) (e _ (fun k => by unfold rv; omega) (by omega) (by omega)) (e _ (fun k => by unfold rv; omega) (by omega) (by omega)) (e _ (fun k => by unfold rv; omega) (by omega) (by omega)) (e _ (fun k => by unfold rv; omega) (by omega) (by omega)) (sh q hq)
  · intro q hq
    exact Slot_cg (e _ (fun k => by unfold rv; omega) (by omega) (by omega)) (e _ (fun k => by unfold rv; omega) (by omega) (by omega)) (e _ (fun k => by unfold rv; omega) (by omega) (by omega)) (e _ (fun k => by unfold rv; omega) (by omega) (by omega)) (e _ (fun k => by unfold rv; omega) (by omega) (by omega)) (e _ (fun k => by unfold rv; omega) (by omega) (by omega)) (e _ (fun k => by unfold rv; omega) (by omega) (by omega)) (e _ (fun k => by unfold rv; omega) (by omega) (by omega)) (sl q hq)
  · exact Wait_cg (h _ _ (by unfold rv; omega) (by omega) (by omega)) (e _ (fun k => by unfold rv; omega) (by omega) (by omega)) (h _ _ (by unfold rv; omega) (by omega) (by omega)) (e _ (fun k => by unfold rv; omega) (by omega) (by omega)) w
theorem sim_eq (h : ∀ r k, rv r k → I' r k = I r k) (hJ : ∀ r, r < 20 → J' r = J r) (q : sg_Sim L xs kt I J T n) : sg_Sim L xs kt I' J' T n := by
  refine sim_land (fun r k a _ _ => h r k a) hJ ?_ q
  rw [show I' 108 = I 108 from funext fun k => h 108 k (by unfold rv; omega)]
  exact Land_cg (fun r k hr => h r k (by unfold rv; omega)) q.2.1
end T32
