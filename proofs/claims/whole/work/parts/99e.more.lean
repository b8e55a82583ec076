/-! the relation, with a text more -/
section T99e
variable {kt kt' : Nat → Nat × Nat} {I I' : Nat → Nat → Int32} {J J' : Nat → Nat → Int64} {T T' : Nat → Nat → Nat} {n n' : Nat} {L : Nat} {xs : Nat → Int32} {N N' : Nat → Int32} {hc wc tc : Nat}
theorem Txt_gr {r t : Nat} (hn : n ≤ n') (hk : ∀ r, r < n → kt' r = kt r) (hT : ∀ r, 134 ≤ r → r < n → T' r = T r) (hI : ∀ r, 134 ≤ r → r < n → r % 3 ≠ 1 → I' r = I r) (q : sg_Txt kt I T n r t N) : sg_Txt kt' I' T' n' r t N := by
  obtain ⟨key, len, cs, h0, h1, h2, h3, h4, h5, h6, h7, h8, h9, h10, h11, h12, h13, h14, h15, h16⟩ := q
  refine ⟨key, len, cs, h0, h1, by omega, ?_, ?_, ?_, ?_, ?_, h8, h9, h10, ?_, ?_, h13, ?_, h15, h16⟩
  · rw [hk r (by omega)]; exact h3
  · rw [hk (r + 1) (by omega)]; exact h4
  · rw [hk (r + 2) (by omega)]; exact h5
  · rw [hT r h0 (by omega)]; exact h6
  · rw [hT r h0 (by omega)]; exact h7
  · rw [hI r h0 (by omega) (by omega)]; exact h11
  · rw [hI r h0 (by omega) (by omega)]; exact h12
  · intro k hk2
    rw [hI (r + 1) (by omega) (by omega) (by omega)]
    exact h14 k hk2
theorem LR_gr {b : Nat} (hn : n ≤ n') (hk : ∀ r, r < n → kt' r = kt r) (hT : ∀ r, 134 ≤ r → r < n → T' r = T r) (hTb : ∀ k, k < tc → T' (b + 4) k = T (b + 4) k) (hI : ∀ r, 134 ≤ r → r < n → r % 3 ≠ 1 → I' r = I r) (hb : ∀ r, b ≤ r → r < b + 16 → I' r = I r) (q : sg_LR kt I T n b N hc wc tc) : sg_LR kt' I' T' n' b N hc wc tc := by
  obtain ⟨h0, h1, h2, h3, h4, h5, h6, h7, h8, h9, h10, h11, h12, h13, h14, h15, h16, h17, h18⟩ := q
  have eb := hb b (by omega) (by omega)
  refine ⟨h0, h1, h2, h3, h4, h5, ?_, ?_, ?_, ?_, ?_, ?_, ?_, ?_, ?_, ?_, ?_, ?_, ?_⟩
  · rw [eb]; exact h6
  · rw [eb]; exact h7
  · rw [eb]; exact h8
  · intro i hi k hk
    rw [hb (b + 6 + i) (by omega) (by omega)]
    exact h9 i hi k hk
  · intro w hw
    rw [hb (b + 2) (by omega) (by omega), hb (b + 3) (by omega) (by omega)]
    exact h10 w hw
  · rw [eb]; exact h11
  · rw [eb]; exact h12
  · rw [eb]; exact h13
  · rw [eb]; exact h14
  · rw [eb]; exact h15
  · rw [eb]; exact h16
  · intro t ht
    rw [hTb t ht]
    exact Txt_gr hn hk hT hI (h17 t ht)
  · intro key hkey
    rw [hb (b + 5) (by omega) (by omega)]
    exact h18 key hkey
/-- the whole relation, the tape empty, the land now anew -/
theorem sim_text (hn : n' = n ∨ n' = n + 3) (hk : ∀ r, r < n → kt' r = kt r) (hk9 : ∀ r, n' ≤ r → kt' r = (99, 0)) (hI : ∀ r, 134 ≤ r → r < n → r % 3 ≠ 1 → I' r = I r) (hT : ∀ r, r < n → r ≠ 25 → T' r = T r) (hrow : ∀ r, (r ≤ 20 ∨ (53 ≤ r ∧ r < 69) ∨ r = 77 ∨ (79 ≤ r ∧ r < 107) ∨ r = 109 ∨ r = 118 ∨ r = 119 ∨ (125 ≤ r ∧ r < 132) ∨ r = 133) → I' r = I r) (h3 : I' 107 3 = I 107 3) (h37 : I' 107 37 = I 107 37) (h72 : I' 72 1 = 0) (h11 : I' 107 11 = 0) (hJ : ∀ r, r < 20 → J' r = J r) (hL : sg_Land kt' I' T' n' 21 (I' 108)) (q : sg_Sim L xs kt I J T n) : sg_Sim L xs kt' I' J' T' n' := by
  obtain ⟨⟨f0, f1, f2, f3, f4, f5, f6⟩, l, ⟨k0, k1, k2⟩, t, sh, sl, w⟩ := q
  refine ⟨⟨by omega, by omega, hk9, ?_, ?_, ?_, ?_⟩, hL, ⟨?_, ?_, ?_⟩, ?_, ?_, ?_, ?_⟩
  · rw [hk 13 (by omega)]; exact f3
  · intro r hr
    rw [hrow r (by omega), hJ r hr]
    exact f4 r hr
  · rw [hrow 118 (by omega)]; exact f5
  · rw [hrow 119 (by omega)]; exact f6
  · rw [hrow 20 (by omega), h3]; exact k0
  · rw [h3]; exact k1
  · rw [h3]
    intro u
    obtain ⟨hc, wc, tc, a, b⟩ := k2 u
    rw [hrow 109 (by omega)]
    exact ⟨hc, wc, tc, LR_gr (by omega) hk (fun r _ h2 => hT r h2 (by omega)) (fun k _ => by rw [hT 57 (by omega) (by omega)]) hI (fun r h1 h2 => hrow r (by omega)) a, b⟩
  · exact ⟨0, by omega, h72, h11, fun i hi => absurd hi (Nat.not_lt_zero i)⟩
  · intro q hq
    exact Sheet_cg (hrow _ (by omega)) (hrow _ (by omega)) (hrow _ (by omega)) (hrow _ (by omega)) (hrow _ (by omega)) (sh q hq)
  · intro q hq
    exact Slot_cg (hrow _ (by omega)) (hrow _ (by omega)) (hrow _ (by omega)) (hrow _ (by omega)) (hrow _ (by omega)) (hrow _ (by omega)) (hrow _ (by omega)) (hrow _ (by omega)) (sl q hq)
  · exact Wait_cg (by rw [hrow 20 (by omega)]) (hrow _ (by omega)) h37 (hrow _ (by omega)) w
/-- the row with a text more -/
def txN (N : Nat → Int32) (tc key : Nat) (p : Int32) (cs : List Int32) : Nat → Int32 := fun j => if j = 8 then nI (tc + 1) else if j = 76 + 2 * tc then nI (1000 * key + cs.length) else if j = 77 + 2 * tc then p else if 104 + 96 * tc ≤ j ∧ j < 104 + 96 * tc + cs.length then sg_tr (cs.getD (j - (104 + 96 * tc)) 0) else N j
theorem txN_off {key j : Nat} {p : Int32} {cs : List Int32} (h : j ≠ 8 ∧ j ≠ 76 + 2 * tc ∧ j ≠ 77 + 2 * tc ∧ ¬ (104 + 96 * tc ≤ j ∧ j < 104 + 96 * tc + cs.length)) : txN N tc key p cs j = N j := by
  unfold txN
  rw [if_neg h.1, if_neg h.2.1, if_neg h.2.2.1, if_neg h.2.2.2]
theorem cnt_new {key : Nat} {p : Int32} {cs : List Int32} (ht : tc ≤ 13) (hcs : cs.length ≤ 95) (hkey : key < 3) : ∀ k, k < 3 → sg_cnt (txN N tc key p cs) k (tc + 1) = if k = key then nI tc else sg_cnt N k tc := fun k hk => by
  have e : txN N tc key p cs (76 + 2 * tc) = nI (1000 * key + cs.length) := by
    unfold txN
    rw [if_neg (by omega), if_pos rfl]
  have ed : txN N tc key p cs (76 + 2 * tc) / 1000 = nI key := by
    rw [e, show (1000 : Int32) = nI 1000 from rfl, pk_div (by omega) (by decide) (by decide), show (1000 * key + cs.length) / 1000 = key by omega]
  show (if txN N tc key p cs (76 + 2 * tc) / 1000 = nI k then nI tc else sg_cnt (txN N tc key p cs) k tc) = _
  rw [ed]
  by_cases q : k = key
  · rw [if_pos (by rw [q]), if_pos q]
  · rw [if_neg (fun z => q ((nI_eq (by omega) (by omega)).mp z).symm), if_neg q]
    exact cnt_cg fun i hi => txN_off (by omega)
/-- a land with a text more -/
theorem LR_text {key : Nat} {p : Int32} {cs : List Int32} (hn : n' = n + 3) (hn0 : 134 ≤ n) (hn3 : n % 3 = 2) (ht : tc ≤ 13) (hkey : key < 3) (hcs : cs.length ≤ 95) (hk : ∀ r, r < n → kt' r = kt r) (hkn : kt' n = (6, 4) ∧ kt' (n + 1) = (20, cs.length) ∧ kt' (n + 2) = (20, cs.length)) (hT : ∀ r, 134 ≤ r → r < n → T' r = T r) (hTb : ∀ k, k < tc → T' 25 k = T 25 k) (hTn : T' 25 tc = n) (hTn2 : T' n 2 = n + 1) (hTn3 : T' n 3 = n + 2) (hI : ∀ r, 134 ≤ r → r < n → r % 3 ≠ 1 → I' r = I r) (hb : ∀ r, 21 ≤ r → r < 37 → r ≠ 26 → (∀ k, (r = 21 → k ≠ 6) → I' r k = I r k)) (h216 : I' 21 6 = nI (tc + 1)) (h26 : ∀ k, k < 3 → I' 26 k = if k = key then nI tc else I 26 k) (hn0' : I' n 0 = nI key) (hn1 : I' n 1 = p) (hcod : ∀ k, k < cs.length → I' (n + 1) k = cs.getD k 0) (hdp : sg_dp cs 0 = some 1) (hok : ∀ x, x ∈ cs → okC key x) (q : sg_LR kt I T n 21 N hc wc tc) : sg_LR kt' I' T' n' 21 (txN N tc key p cs) hc wc (tc + 1) := by
  obtain ⟨h0, h1, h2, h3, h4, h5, h6, h7, h8, h9, h10, h11, h12, h13, h14, h15, h16, h17, h18⟩ := q
  have z : ∀ j, j < 76 → j ≠ 8 → txN N tc key p cs j = N j := fun j hj h8 => txN_off (by omega)
  have e21 : ∀ k, k ≠ 6 → I' 21 k = I 21 k := fun k hk => hb 21 (by omega) (by omega) (by omega) k (fun _ => hk)
  refine ⟨h0, h1, by omega, ?_, ?_, ?_, ?_, ?_, h216, ?_, ?_, ?_, ?_, ?_, ?_, ?_, ?_, ?_, ?_⟩
  · rw [z 1 (by omega) (by omega)]; exact h3
  · rw [z 7 (by omega) (by omega)]; exact h4
  · unfold txN; rw [if_pos rfl]
  · rw [e21 1 (by omega)]; exact h6
  · rw [e21 4 (by omega)]; exact h7
  · intro i hi k hk
    rw [z _ (by omega) (by omega), hb (21 + 6 + i) (by omega) (by omega) (by omega) k (fun u => by omega)]
    exact h9 i hi k hk
  · intro w hw
    rw [z _ (by omega) (by omega), z _ (by omega) (by omega), hb (21 + 2) (by omega) (by omega) (by omega) w (fun u => by omega), hb (21 + 3) (by omega) (by omega) (by omega) w (fun u => by omega)]
    exact h10 w hw
  · rw [e21 8 (by omega), z 3 (by omega) (by omega)]; exact h11
  · rw [e21 9 (by omega), z 4 (by omega) (by omega)]; exact h12
  · rw [e21 10 (by omega), z 2 (by omega) (by omega)]; exact h13
  · rw [e21 11 (by omega), z 5 (by omega) (by omega)]; exact h14
  · rw [e21 12 (by omega), z 6 (by omega) (by omega)]; exact h15
  · rw [e21 13 (by omega), z 0 (by omega) (by omega)]; exact h16
  · intro t ht2
    by_cases e : t = tc
    · subst e
      show sg_Txt kt' I' T' n' (T' 25 t) t _
      rw [hTn]
      refine ⟨key, cs.length, cs, hn0, hn3, by omega, hkn.1, hkn.2.1, hkn.2.2, hTn2, hTn3, by omega, hcs, rfl, hn0', ?_, ?_, fun k hk2 => ⟨hcod k hk2, ?_⟩, hdp, fun k hk2 => ?_⟩
      · rw [hn1]
        unfold txN
        rw [if_neg (by omega), if_neg (by omega), if_pos rfl]
      · unfold txN
        rw [if_neg (by omega), if_pos rfl]
      · unfold txN
        rw [if_neg (by omega), if_neg (by omega), if_neg (by omega), if_pos (by omega), Nat.add_sub_cancel_left]
      · refine hok _ ?_
        rw [List.getD_eq_getElem?_getD, List.getElem?_eq_getElem hk2]
        exact List.getElem_mem hk2
    · show sg_Txt kt' I' T' n' (T' 25 t) t _
      rw [hTb t (by omega)]
      have q := Txt_gr (n' := n') (by omega) hk hT hI (h17 t (by omega))
      exact Txt_cg (fun _ _ _ _ => rfl) ⟨txN_off (by omega), txN_off (by omega), fun k hk2 => txN_off (by omega)⟩ q
  · intro k hk2
    show I' 26 k = _
    rw [h26 k hk2, cnt_new ht hcs hkey k hk2]
    by_cases e : k = key
    · rw [if_pos e, if_pos e]
    · rw [if_neg e, if_neg e]
      exact h18 k hk2
end T99e
