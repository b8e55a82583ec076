/-! frees -/
section T57
variable {kt : Nat → Nat × Nat} {I I' : Nat → Nat → Int32} {J J' : Nat → Nat → Int64} {T : Nat → Nat → Nat} {n s : Nat} {L : Nat} {xs : Nat → Int32} {K : Option Value → am_M → Prop} {N N' : Nat → Int32} {hc wc tc h w : Nat} {noH noW but : Int32}
/-- a hole's five numbers in the row -/
def layI (I : Nat → Nat → Int32) (h : Nat) (a b c d : Int32) : Nat → Nat → Int32 := am_up (am_up (am_up (am_up (am_up I 108 (21 + 5 * h + 0) a) 108 (21 + 5 * h + 1) b) 108 (21 + 5 * h + 2) c) 108 (21 + 5 * h + 3) d) 108 (21 + 5 * h + 4) 0
def layN (N : Nat → Int32) (h : Nat) (a b c d : Int32) : Nat → Int32 := upN (upN (upN (upN (upN N (21 + 5 * h + 0) a) (21 + 5 * h + 1) b) (21 + 5 * h + 2) c) (21 + 5 * h + 3) d) (21 + 5 * h + 4) 0
theorem layI_row (I : Nat → Nat → Int32) (h : Nat) (a b c d : Int32) : layI I h a b c d 108 = layN (I 108) h a b c d := by
  unfold layI layN
  rw [up_row, up_row, up_row, up_row, up_row]
theorem layI_ch {h : Nat} {a b c d : Int32} : ch (fun r => r = 108) I (layI I h a b c d) := fun r hr => by
  unfold layI
  rw [up_off hr, up_off hr, up_off hr, up_off hr, up_off hr]
theorem m_lays {h : Nat} {x a b c d : Int32} (hx : x = nI h) (hh : h ≤ 10) (hK : K none (am_mk kt (layI I h a b c d) J T n s)) : am_T am_C (124, 1, 0, [.ref 107, .int x, .int a, .int b, .int c, .int d], []) (am_mk kt I J T n s) K := by
  refine am_wq_T (cut := fun _ _ => false) (inl := fun z => !(Nat.beq z 122)) 120 _ _ _ ?_
  refine And.intro rfl (m_put (h := h) (w := 0) hx rfl hh (by decide) ?_)
  refine And.intro rfl (m_put (h := h) (w := 1) hx rfl hh (by decide) ?_)
  refine And.intro rfl (m_put (h := h) (w := 2) hx rfl hh (by decide) ?_)
  refine And.intro rfl (m_put (h := h) (w := 3) hx rfl hh (by decide) ?_)
  refine And.intro rfl (m_put (h := h) (w := 4) hx rfl hh (by decide) ?_)
  exact hK
theorem m_comes {h : Nat} {a b c d : Int32} (hN : I 108 1 = nI h) (hh : h ≤ 10) (hK : K (some (.int (nI h))) (am_mk kt (am_up (layI I h a b c d) 108 1 (nI (h + 1))) J T n s)) : am_T am_C (125, 2, 0, [.ref 107, .int a, .int b, .int c, .int d], []) (am_mk kt I J T n s) K := by
  have e : layI I h a b c d 108 1 = nI h := by
    unfold layI
    rw [up_ne (by omega), up_ne (by omega), up_ne (by omega), up_ne (by omega), up_ne (by omega)]; exact hN
  have e2 : am_up (layI I h a b c d) 108 1 (layI I h a b c d 108 1 + 1) 108 1 - 1 = nI h := by rw [up_eq, e, nI_1, nI_p1]
  rw [nI_succ, ← e] at hK
  rw [show layI I h a b c d 108 1 = nI h from e] at hK
  have hK2 : K (some (.int (am_up (layI I h a b c d) 108 1 (layI I h a b c d 108 1 + 1) 108 1 - 1))) (am_mk kt (am_up (layI I h a b c d) 108 1 (layI I h a b c d 108 1 + 1)) J T n s) := by rw [e2, e]; exact hK
  refine am_wq_T (cut := fun _ _ => false) (inl := fun z => !(Nat.beq z 124)) 120 _ _ _ ?_
  refine And.intro rfl (And.intro ⟨rfl, vp1N⟩ (And.intro rfl (m_lays (h := h) hN hh ?_)))
  exact And.intro rfl (And.intro ⟨rfl, vp1N⟩ (And.intro ⟨rfl, vp1N⟩ (And.intro rfl (And.intro ⟨rfl, vp1N⟩ hK2))))
/-- all but the places of the hole behind the last one -/
def QN (N N' : Nat → Int32) (hc : Nat) : Prop := ∀ j, ¬ (21 + 5 * hc ≤ j ∧ j < 26 + 5 * hc) → N' j = N j
theorem cnt_76 {key : Nat} (h : ∀ j, 76 ≤ j → N' j = N j) (t : Nat) : sg_cnt N' key t = sg_cnt N key t := cnt_cg fun i _ => h _ (by omega)
theorem csN_76 (h : ∀ j, 76 ≤ j → N' j = N j) (t : Nat) : csN N' t = csN N t := by
  unfold csN
  rw [h _ (by omega)]
  congr 1
  funext k
  rw [h _ (by omega)]
theorem lwv_76 (h : ∀ j, 76 ≤ j → N' j = N j) {d o : Int32} : lwv N' tc d o = lwv N tc d o := by
  unfold lwv tvN
  rw [cnt_76 h, csN_76 h]
theorem TX_76 (h : ∀ j, 76 ≤ j → N' j = N j) {t key len : Nat} {cs : List Int32} (q : TX N t key len cs) : TX N' t key len cs := by
  obtain ⟨h1, h2, h3, h4, h5, h6, h7⟩ := q
  exact ⟨h1, h2, h3, by rw [h _ (by omega)]; exact h4, fun k hk => by rw [h _ (by omega)]; exact h5 k hk, h6, h7⟩
theorem TK_cg (h76 : ∀ j, 76 ≤ j → N' j = N j) (h3 : N' 3 = N 3) (hf : ∀ k, k < 5 → N' (21 + 5 * h + k) = N (21 + 5 * h + k)) {e p : Int32} : TK N' tc h e p = TK N tc h e p := by
  unfold TK
  rw [hf 0 (by decide), hf 1 (by decide), hf 2 (by decide), hf 3 (by decide), hf 4 (by decide), lwv_76 h76, h3]
/-- a row with one hole more -/
theorem lay_facts (hq : QN N N' hc) (h10 : hc ≤ 10) {p sp : Int32} : (∀ j, 76 ≤ j → upN (layN N' hc 0 p sp 0) 1 (nI (hc + 1)) j = N j) ∧ (∀ j, j < 21 → j ≠ 1 → upN (layN N' hc 0 p sp 0) 1 (nI (hc + 1)) j = N j) ∧ (∀ h k, h < hc → k < 5 → upN (layN N' hc 0 p sp 0) 1 (nI (hc + 1)) (21 + 5 * h + k) = N (21 + 5 * h + k)) ∧ upN (layN N' hc 0 p sp 0) 1 (nI (hc + 1)) 1 = nI (hc + 1) ∧
    upN (layN N' hc 0 p sp 0) 1 (nI (hc + 1)) (21 + 5 * hc + 0) = 0 ∧ upN (layN N' hc 0 p sp 0) 1 (nI (hc + 1)) (21 + 5 * hc + 1) = p ∧ upN (layN N' hc 0 p sp 0) 1 (nI (hc + 1)) (21 + 5 * hc + 2) = sp ∧ upN (layN N' hc 0 p sp 0) 1 (nI (hc + 1)) (21 + 5 * hc + 3) = 0 ∧ upN (layN N' hc 0 p sp 0) 1 (nI (hc + 1)) (21 + 5 * hc + 4) = 0 := by
  have off : ∀ j, j ≠ 1 → ¬ (21 + 5 * hc ≤ j ∧ j < 26 + 5 * hc) → upN (layN N' hc 0 p sp 0) 1 (nI (hc + 1)) j = N j := fun j h1 h2 => by
    unfold layN
    rw [upN_ne h1, upN_ne (by omega), upN_ne (by omega), upN_ne (by omega), upN_ne (by omega), upN_ne (by omega)]
    exact hq j h2
  refine ⟨fun j hj => off j (by omega) (by omega), fun j hj h1 => off j h1 (by omega), fun h k hh hk => off _ (by omega) (by omega), upN_eq _ _ _, ?_, ?_, ?_, ?_, ?_⟩
  · unfold layN; rw [upN_ne (by omega), upN_ne (by omega), upN_ne (by omega), upN_ne (by omega), upN_ne (by omega), upN_eq]
  · unfold layN; rw [upN_ne (by omega), upN_ne (by omega), upN_ne (by omega), upN_ne (by omega), upN_eq]
  · unfold layN; rw [upN_ne (by omega), upN_ne (by omega), upN_ne (by omega), upN_eq]
  · unfold layN; rw [upN_ne (by omega), upN_ne (by omega), upN_eq]
  · unfold layN; rw [upN_ne (by omega), upN_eq]
def eaN (N : Nat → Int32) (w : Nat) : Int32 := N (10 + 2 * w) * N 4 / 100
noncomputable def nwN (N : Nat → Int32) (p : Int32) (sp w : Nat) : Bool := @decide (¬ nI sp < eaN N w ∧ ¬ N 3 < apt p (N (9 + 2 * w))) (Classical.propDecidable _)
theorem nwN_t {p : Int32} {sp : Nat} : nwN N p sp w = true ↔ ¬ nI sp < eaN N w ∧ ¬ N 3 < apt p (N (9 + 2 * w)) := @decide_eq_true_iff _ (Classical.propDecidable _)
theorem lay_tk (hq : QN N N' hc) (h10 : hc ≤ 10) (hw6 : wc ≤ 6) {p : Int32} {sp : Nat} (hw : w < wc) : tkN (upN (layN N' hc 0 p (nI sp) 0) 1 (nI (hc + 1))) (hc + 1) tc (-1) w h = if h = hc then nwN N p sp w else tkN N hc tc (-1) w h := by
  obtain ⟨f76, f21, fh, f1, g0, g1, g2, g3, g4⟩ := lay_facts (N := N) (N' := N') (p := p) (sp := nI sp) hq h10
  have bool : ∀ a b : Bool, (a = true ↔ b = true) → a = b := fun a b q => by cases a <;> cases b <;> simp_all
  apply bool
  rw [tkN_t]
  unfold MT
  rw [f21 (10 + 2 * w) (by omega) (by omega), f21 4 (by omega) (by omega), f21 (9 + 2 * w) (by omega) (by omega)]
  by_cases e : h = hc
  · subst e
    rw [if_pos rfl, nwN_t]
    unfold TK
    rw [g0, g1, g2, TKv_0, f21 3 (by omega) (by omega)]
    exact ⟨fun q => q.2.2, fun q => ⟨by omega, nI_nm1 (by omega), q⟩⟩
  · rw [if_neg e, tkN_t]
    unfold MT
    constructor
    · rintro ⟨a, b, c⟩
      rw [TK_cg f76 (f21 3 (by omega) (by omega)) (fun k hk => fh h k (by omega) hk)] at c
      exact ⟨by omega, b, c⟩
    · rintro ⟨a, b, c⟩
      rw [TK_cg f76 (f21 3 (by omega) (by omega)) (fun k hk => fh h k a hk)]
      exact ⟨by omega, b, c⟩
theorem lay_RO (hr : RB N hc wc tc) (hq : QN N N' hc) {p : Int32} {sp : Nat} : RO (upN (layN N' hc 0 p (nI sp) 0) 1 (nI (hc + 1))) (hc + 1) wc tc := by
  obtain ⟨f76, f21, fh, f1, -⟩ := lay_facts (N := N) (N' := N') (p := p) (sp := nI sp) hq hr.2.2.2
  obtain ⟨o1, o2, o3, o4, o5, o6, o7⟩ := hr.1
  refine ⟨by have := hr.2.2.2; omega, o2, o3, f1, by rw [f21 7 (by omega) (by omega)]; exact o5, by rw [f21 8 (by omega) (by omega)]; exact o6, fun t ht => ?_⟩
  obtain ⟨key, len, cs, q⟩ := o7 t ht
  exact ⟨key, len, cs, TX_76 f76 q⟩
theorem lay_HB (hr : RB N hc wc tc) (hq : QN N N' hc) {p : Int32} {sp : Nat} (hp : sg_in p 0 29) (hs : sp ≤ 99) : HB (upN (layN N' hc 0 p (nI sp) 0) 1 (nI (hc + 1))) (hc + 1) := by
  obtain ⟨f76, f21, fh, f1, g0, g1, g2, g3, g4⟩ := lay_facts (N := N) (N' := N') (p := p) (sp := nI sp) hq hr.2.2.2
  intro h hh
  by_cases e : h = hc
  · subst e
    rw [g1, g2, g3, g4, show 21 + 5 * h = 21 + 5 * h + 0 from rfl, g0]
    exact ⟨by unfold sg_in; decide, hp, sgin_nI (m := 99) hs (by decide), by unfold sg_in; decide, by unfold sg_in; decide⟩
  · have b := hr.2.1 h (by omega)
    rw [show 21 + 5 * h = 21 + 5 * h + 0 from rfl, fh h 0 (by omega) (by decide), show 21 + 5 * h + 0 + 1 = 21 + 5 * h + 1 from rfl, fh h 1 (by omega) (by decide), show 21 + 5 * h + 0 + 2 = 21 + 5 * h + 2 from rfl, fh h 2 (by omega) (by decide), show 21 + 5 * h + 0 + 3 = 21 + 5 * h + 3 from rfl, fh h 3 (by omega) (by decide), show 21 + 5 * h + 0 + 4 = 21 + 5 * h + 4 from rfl, fh h 4 (by omega) (by decide)]
    exact b
/-- whether so many spades free one more want -/
def FS1 (N : Nat → Int32) (hc wc tc m : Nat) (p : Int32) (sp : Nat) : Prop := ∃ w, w < wc ∧ nwN N p sp w = true ∧ IsMax (fun w' h => tkN N hc tc (-1) w' h && w' != w) wc m
theorem frees_step (hr : RB N hc wc tc) (hq : QN N N' hc) {m m2 sp : Nat} {p : Int32} (h1 : IsMax (tkN N hc tc (-1)) wc m) (h2 : IsMax (tkN (upN (layN N' hc 0 p (nI sp) 0) 1 (nI (hc + 1))) (hc + 1) tc (-1)) wc m2) : m < m2 ↔ FS1 N hc wc tc m p sp := by
  have hw6 := hr.1.2.1
  have h10 := hr.2.2.2
  have h2' := IsMax_cg (fun w h hw => lay_tk (tc := tc) (h := h) (p := p) (sp := sp) hq h10 hw6 hw) h2
  have := frees_iff (H := hc) (by omega) (fun w h q => (tkN_t.mp q).1) h1 h2'
  unfold FS1
  rw [← this]
  omega
theorem vp1448 {k : Nat} (h : k < 1448) : vp_in (nI k) 1448 := vpl h (by decide)
/-- the reference's loop: from 99 spades down -/
theorem m_frees_l (hr : RB N hc wc tc) {m : Nat} {p : Int32} (hp : sg_in p 0 29) (hm : IsMax (tkN N hc tc (-1)) wc m) {I0 : Nat → Nat → Int32} : ∀ (j : Nat) (I : Nat → Nat → Int32) (f : Nat) (v5 : Value), j ≤ 99 → ch (fun r => r = 108 ∨ PM r) I0 I → QN N (I 108) hc → (f ≤ 99 → FS1 N hc wc tc m p f) → (∀ x, j < x → x ≤ 99 → FS1 N hc wc tc m p x → f ≤ x) → (f ≤ 99 → j < f) →
    (∀ I' (f : Nat), ch (fun r => r = 108 ∨ PM r) I0 I' → QN N (I' 108) hc → (f ≤ 99 → 0 < f ∧ FS1 N hc wc tc m p f) → (∀ x, 0 < x → x ≤ 99 → FS1 N hc wc tc m p x → f ≤ x) → K (some (.int (if f ≤ 99 then nI f else -1000000005))) (am_mk kt I' J T n s)) → am_T am_C (154, 26, 23, [.ref 107, .int p, .int (nI m), .int (if f ≤ 99 then nI f else -1000000005), .int (nI j), v5], []) (am_mk kt I J T n s) K
  | 0, I, f, v5, hj, hI, hq, h1, h2, h3, hK => by
    have c1 : nI 0 ≤ 0 := by decide
    have key := hK I f hI hq (fun q => ⟨h3 q, h1 q⟩) h2
    refine am_wq_T (cut := fun z pc => (Nat.beq z 154 && Nat.beq pc 23)) (inl := fun _ => false) 120 _ _ _ ?_
    exact And.intro (fun _ => key) (fun q => absurd c1 q)
  | k + 1, I, f, v5, hj, hI, hq, h1, h2, h3, hK => by
    have h10 := hr.2.2.2
    have c1 : ¬ nI (k + 1) ≤ 0 := nI_nle (by omega) (by omega)
    have hN1 : I 108 1 = nI hc := by rw [hq 1 (by omega)]; exact hr.1.2.2.2.1
    refine am_wq_T (cut := fun z pc => (Nat.beq z 154 && Nat.beq pc 23)) (inl := fun z => !((Nat.beq z 125 || Nat.beq z 149))) 120 _ _ _ ?_
    refine And.intro (fun q => absurd q c1) (fun _ => And.intro rfl (m_comes hN1 h10 (And.intro rfl ?_)))
    have e108 : am_up (layI I hc 0 p (nI (k + 1)) 0) 108 1 (nI (hc + 1)) 108 = upN (layN (I 108) hc 0 p (nI (k + 1)) 0) 1 (nI (hc + 1)) := by rw [up_row, layI_row]
    refine m_met (N := upN (layN (I 108) hc 0 p (nI (k + 1)) 0) 1 (nI (hc + 1))) e108 (lay_RO hr hq) (lay_HB hr hq hp hj) (fun I2 m2 c2 x2 b2 => ?_)
    have fs := frees_step hr hq hm x2
    have hN2 : I2 108 = upN (layN (I 108) hc 0 p (nI (k + 1)) 0) 1 (nI (hc + 1)) := by rw [c2 108 (by unfold PM PF; omega)]; exact e108
    have hw6 := hr.1.2.1
    have mb : m ≤ 6 := by
      obtain ⟨⟨a, a1, a2⟩, -⟩ := hm
      have : metc wc a ≤ wc := by
        have := sm_le (f := fun i => i1 (a i != 99)) (g := fun _ => 1) wc fun i _ => (i1_01 _).2
        have e : ∀ k : Nat, sm (fun _ => 1) k = k := fun k => by
          induction k with
          | zero => rfl
          | succ k ih => rw [sm_s, ih]; omega
        rw [e] at this; exact this
      omega
    have e21 : I2 108 1 - 1 = nI hc := by rw [hN2, upN_eq, nI_p1]
    have d2 : ch (fun r => r = 108 ∨ PM r) I0 (am_up I2 108 1 (nI hc)) := ch_tr (ch_tr (S := fun r => r = 108 ∨ PM r) hI (ch_tr (S := fun r => r = 108 ∨ PM r) (ch_tr (S := fun r => r = 108 ∨ PM r) (layI_ch (h := hc) (a := 0) (b := p) (c := nI (k + 1)) (d := 0)) (ch_up (P := fun r => r = 108 ∨ PM r) (a := 108) (k := 1) (v := nI (hc + 1)) (.inl rfl)) fun r q => q.elim .inl id) c2 fun r q => q.elim id .inr) fun r q => q.elim id id) (ch_up (P := fun r => r = 108 ∨ PM r) (.inl rfl)) fun r q => q.elim id id
    have q2 : QN N (am_up I2 108 1 (nI hc) 108) hc := fun j hj => by
      rw [up_row, hN2]
      by_cases e : j = 1
      · subst e; rw [upN_eq]; exact hr.1.2.2.2.1.symm
      · rw [upN_ne e, upN_ne e]
        unfold layN
        rw [upN_ne (by omega), upN_ne (by omega), upN_ne (by omega), upN_ne (by omega), upN_ne (by omega)]
        exact hq j hj
    by_cases cm : m < m2
    · have n0 : ¬ nI m2 ≤ nI m := nI_ge cm (by omega)
      have ih := m_frees_l hr hp hm k (am_up I2 108 1 (nI hc)) (k + 1) (.int (nI hc)) (by omega) d2 q2 (fun _ => fs.mp cm) (fun x a b c => by omega) (fun _ => by omega) hK
      rw [if_pos hj, ← e21] at ih
      rw [show nI k = nI (k + 1) + -1 from (nI_m1 k).symm] at ih
      rw [e21] at ih
      have ih : am_T am_C (154, 26, 23, [.ref 107, .int p, .int (nI m), .int (nI (k + 1)), .int (nI (k + 1) + -1), .int (nI hc)], []) (am_mk kt (am_up I2 108 1 (I2 108 1 - 1)) J T n s) K := by rw [e21]; exact ih
      exact And.intro (fun q => absurd q n0) (fun _ => And.intro rfl (And.intro ⟨rfl, vp1N⟩ (And.intro ⟨rfl, vp1N⟩ ih)))
    · have n0 : nI m2 ≤ nI m := nI_le (by omega) (by omega)
      have ih := m_frees_l hr hp hm k (am_up I2 108 1 (nI hc)) f (.int (nI hc)) (by omega) d2 q2 h1 (fun x a b c => by
        by_cases e : x = k + 1
        · subst e; exact absurd (fs.mpr c) cm
        · exact h2 x (by omega) b c) (fun q => by have := h3 q; omega) hK
      rw [show nI k = nI (k + 1) + -1 from (nI_m1 k).symm] at ih
      have ih : am_T am_C (154, 26, 23, [.ref 107, .int p, .int (nI m), .int (if f ≤ 99 then nI f else -1000000005), .int (nI (k + 1) + -1), .int (nI hc)], []) (am_mk kt (am_up I2 108 1 (I2 108 1 - 1)) J T n s) K := by rw [e21]; exact ih
      exact And.intro (fun _ => And.intro rfl (And.intro ⟨rfl, vp1N⟩ (And.intro ⟨rfl, vp1N⟩ ih))) (fun q => absurd n0 q)
end T57
