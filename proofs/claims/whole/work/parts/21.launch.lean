/-! the start: what the Statement gives, as a memory of the abstract machine; the law out of one run of it -/
section AM16
def R_law : String := "DigFillLaw"
def lw_P (b : Addr) (xs : List Int32) (args : Array Value) (s : State) : Prop := args = #[.ref b] ∧ s.IntsAt b xs ∧ xs.length ≤ 3072 ∧ (Jvm.Cond.and given_1 narrow_1).before args s = true
def lw_Q (_ : Array Value) (s : State) (o : Outcome) (t : State) : Prop := o = .returned (some (.int 1)) ∧ Framed s o t [] 600000 7302250
def lw_Z (below : List Frame) (a : Array Value) (s : State) : State → Prop := fun t => ∃ o, t.status = .running ∧ Ended t below o ∧ lw_Q a s o t
/-- the law's own end, with 1 on the stack, nothing written that was there before, its room as the claim has it -/
theorem lw_ret {p : Program} {l : Launch} {e : Env} {s : State} {m : MethodId} {below : List Frame} {meth : Method} {c : Code} {b : Nat} (hx : p.tables.exec = Jvm.exec) (hb : c.code = code) (hr : meth.sig.returnType = ret) (hlocks : meth.locks = false) {pc : Nat} {H : Heap} {ls : Array Slot} (hdg : decode code pc = .ok (.ireturn, 1)) : W p l e room_1 s m #[Value.ref b] below meth c H [] 600000 7302250 (lw_Z below #[Value.ref b] s) (F0 m pc ls [.int 1]) := by
  intro T hT X
  obtain ⟨fs, hret, hrun, hended, hW, hframe⟩ := X.leave (v := some (.int 1)) (hlocks := hlocks) (fun h => by rw [hr] at h; cases h)
  have hmeth' : T.vm.method? m = some meth := X.method'
  refine ⟨T.setFrames fs, ?_, .returned (some (.int 1)), hrun, hended, rfl, ⟨_, rfl⟩, hW, hframe⟩
  jvm_step X.here [X.here.top, hx, hb, hdg, hmeth', hr, ret, narrow_b1]
  (try refine ⟨rfl, ?_⟩); (try refine ⟨rfl, ?_⟩)
  first | (intro acts; rw [hret _ acts rfl rfl rfl]) | rw [hret _ _ rfl rfl rfl]
  exact Steps.refl _
/-- what holds at the law's entry: the machine, the code, the tables' words (any of lw_tbl by 'hts w (by decide +kernel)'), the script of L ints xs at the cell b, what the Statement gives of the start (any of its parts by flat_of_before) -/
def lw_At (p : Program) (s : State) (m : MethodId) (meth : Method) (c : Code) (b L : Nat) (xs : Nat → Int32) : Prop :=
  p.tables.exec = Jvm.exec ∧ c.code = code ∧ meth.sig.returnType = ret ∧ c.maxLocals = 4 ∧ s.vm.findClass R_law = some m.cls ∧ (∀ w ∈ lw_tbl, w.before #[Value.ref b] s = true) ∧ va_X b L xs s s.heap ∧ b < s.heap.size ∧ meth.locks = false ∧ (Jvm.Cond.and given_1 narrow_1).before #[Value.ref b] s = true
def am_M0 (L : Nat) (xs : Nat → Int32) : am_M := (am_fK L, am_fI xs, am_fJ, fun _ _ => 0, 20, 0)
theorem am_M0_wf (L : Nat) (xs : Nat → Int32) : am_Wf L xs (am_M0 L xs) := by
  refine ⟨Nat.le_refl _, fun r hr => ?_, fun r _ => ⟨rfl, rfl, rfl⟩, fun r h1 h2 => absurd (show r < 20 from h2) (by omega), fun _ _ => Or.inl rfl⟩
  have hr : 20 ≤ r := hr
  show am_fK L r = (99, 0)
  unfold am_fK
  rw [if_neg (by omega), if_neg (by omega), if_neg (by omega), if_neg (by omega), if_neg (by omega)]
theorem am_nw_at {s : State} {args : Array Value} (hts : ∀ w ∈ lw_tbl, w.before args s = true) : ∀ w ∈ am_nw, va_Nw w s := by
  intro w hw
  obtain ⟨h1, h2⟩ := List.mem_filter.mp hw
  have h3 := hts w h1
  cases w with
  | fieldLinkNest a i b n d k => exact va_Nw.of rfl h3
  | methodLinkNest a i x k => exact va_Nw.of rfl h3
  | arrayOver t => cases t with
    | object C => exact va_AO.of h3
    | _ => exact absurd h2 (by simp [am_isNw])
  | _ => exact absurd h2 (by simp [am_isNw])
abbrev am_tm (i : Nat) : Term := .string "DigFill$Tape" (am_six i)
abbrev am_gv : List Cond := flatC (Jvm.Cond.and given_1 narrow_1)
theorem am_s1 : ∀ i, i < 6 → am_lens.getD i 0 < 2 ^ 31 ∧ Cond.exactly (am_tm i) "java/lang/String" ∈ am_gv ∧ Cond.eq (.field (am_tm i) "java/lang/String" "coder" "B") (.int 0) ∈ am_gv ∧ Cond.arrayOf (.field (am_tm i) "java/lang/String" "value" "[B") .byte ∈ am_gv ∧ Cond.eq (.length (.field (am_tm i) "java/lang/String" "value" "[B")) (.int (Int32.ofNat (am_lens.getD i 0))) ∈ am_gv ∧ Cond.stringRef RX5 (am_six i) (am_txt i) ∈ tables_1 := by decide +kernel
theorem am_s2 : ∀ i, i < 6 → ∀ j, j < am_lens.getD i 0 → Cond.eq (.elem (.field (am_tm i) "java/lang/String" "value" "[B") (.int (Int32.ofNat j))) (.int ((am_byts.getD i []).getD j 0)) ∈ am_gv := by decide +kernel
theorem am_s3 : ∀ i, i < 6 → ∀ j, j < 6 → i ≠ j → Cond.not (Cond.eq (am_tm i) (am_tm j)) ∈ am_gv ∨ Cond.not (Cond.eq (am_tm j) (am_tm i)) ∈ am_gv := by decide +kernel
theorem am_s4 : ∀ j, j < 6 → Cond.eq (.elem (.static "DigFill" "ABOVE" "[I") (.int (Int32.ofNat j))) (.int (am_above j)) ∈ am_gv := by decide +kernel
theorem am_s5 : ∀ j, j < 6 → Cond.eq (.elem (.static "DigFill$Dealer" "DIGITS" "[J") (.int (Int32.ofNat j))) (.long (am_digits j)) ∈ am_gv := by decide +kernel
theorem am_Fo_start {args : Array Value} {s : State} {b L : Nat} {xs : Nat → Int32} {A : Nat → Prop} (hts : ∀ w ∈ lw_tbl, w.before args s = true) (hgv : (Jvm.Cond.and given_1 narrow_1).before args s = true) (hX : va_X b L xs s s.heap) (hA : ∀ a : Nat, a < s.heap.size → ¬ A a) : ∃ γ : Nat → Value, am_Fo L xs γ A s s.heap ∧ γ 13 = .ref b ∧ ∀ r, 20 ≤ r → γ r = .ref 0 := by
  have hs := flat_of_before _ hgv
  have htb : ∀ w ∈ tables_1, w.before args s = true := fun w hw => hts w (List.mem_append_right _ hw)
  obtain ⟨adK, adV, hS, hE⟩ := vk_Sof (args := args) (s := s) (N := 6) (tm := am_tm) (len := am_lens) (byt := am_byts) (A := A) (fun i hi => (am_s1 i hi).1) (fun i hi => hs _ (am_s1 i hi).2.1) (fun i hi => hs _ (am_s1 i hi).2.2.1) (fun i hi => hs _ (am_s1 i hi).2.2.2.1) (fun i hi => hs _ (am_s1 i hi).2.2.2.2.1) (fun i hi j hj => hs _ (am_s2 i hi j hj)) (fun i j hi hj hij => (am_s3 i hi j hj hij).imp (hs _) (hs _)) hA
  obtain ⟨tA, eA, hTA⟩ := va_Tof (args := args) (s := s) (tm := .static "DigFill" "ABOVE" "[I") (ty := .int) (N := 6) (f := fun j => .int (am_above j)) (A := A) (by decide) (hs _ (by decide +kernel)) (va_eqt (z := 6) (hs _ (by decide +kernel))) (fun j hj => va_eqt (hs _ (am_s4 j hj))) hA
  obtain ⟨tD, eD, hTD⟩ := va_Tof (args := args) (s := s) (tm := .static "DigFill$Dealer" "DIGITS" "[J") (ty := .long) (N := 6) (f := fun j => .long (am_digits j)) (A := A) (by decide) (hs _ (by decide +kernel)) (va_eqt (z := 6) (hs _ (by decide +kernel))) (fun j hj => va_eqtl (hs _ (am_s5 j hj))) hA
  have zA := va_Zof (A := A) (htb (.laysStatic "DigFill" "ABOVE" "[I") (by decide +kernel)) (htb (.initialized "DigFill") (by decide +kernel)) eA hA
  have zD := va_Zof (A := A) (htb (.laysStatic "DigFill$Dealer" "DIGITS" "[J") (by decide +kernel)) (htb (.initialized "DigFill$Dealer") (by decide +kernel)) eD hA
  have zC := va_Zof (A := A) (htb (.laysStatic "java/lang/String" "COMPACT_STRINGS" "Z") (by decide +kernel)) (htb (.initialized "java/lang/String") (by decide +kernel)) (va_eqi (hs (Cond.eq (.static "java/lang/String" "COMPACT_STRINGS" "Z") (.int 1)) (by decide +kernel))) hA
  have zS := va_Zqof (A := A) (htb (.laysStatic "jdk/internal/util/Preconditions" "SIOOBE_FORMATTER" "Ljava/util/function/BiFunction;") (by decide +kernel)) (htb (.initialized "jdk/internal/util/Preconditions") (by decide +kernel)) (hs _ (by decide +kernel)) hA
  obtain ⟨v16, hv16, zS⟩ : ∃ v : Value, (v = .null ∨ ∃ a, v = .ref a) ∧ va_Z "jdk/internal/util/Preconditions" "SIOOBE_FORMATTER" "Ljava/util/function/BiFunction;" v A s s.heap := by
    rcases zS with h | ⟨t, h⟩
    · exact ⟨.null, Or.inl rfl, h⟩
    · exact ⟨.ref t, Or.inr ⟨t, rfl⟩, h⟩
  obtain ⟨scr, x1, x2, x3, x4, x5⟩ := hX
  have hTS : va_T .int b L (fun j => .int (xs j)) A s s.heap := ⟨scr, x1, x2, x3, Nat.le_of_eq x4.symm, by rw [x4], x5, hA b (Array.getElem?_eq_some_iff.mp x1).1⟩
  refine ⟨fun r => if r = 0 then .null else if r ≤ 6 then .ref (adK (r - 1)) else if r ≤ 12 then .ref (adV (r - 7)) else if r = 13 then .ref b else if r = 14 then .ref tA else if r = 15 then .ref tD else if r = 16 then v16 else .ref 0,
    ⟨adK, adV, b, tA, tD, hS, fun i hi => ⟨?_, ?_, vk_R.of (htb _ (am_s1 i hi).2.2.2.2.2) (hE i hi)⟩, ⟨rfl, hTS⟩, ⟨rfl, hTA, zA⟩, ⟨rfl, hTD, zD⟩, zC, zS, rfl, fun r hr => ?_, am_nw_at hts, fun r hr h0 h16 => ?_⟩, rfl, fun r hr => ?_⟩
  · show (if 1 + i = 0 then _ else _) = _
    rw [if_neg (by omega), if_pos (by omega), show 1 + i - 1 = i by omega]
  · show (if 7 + i = 0 then _ else _) = _
    rw [if_neg (by omega), if_neg (by omega), if_pos (by omega), show 7 + i - 7 = i by omega]
  · show (if r = 0 then _ else _) = _ ∨ ∃ a, (if r = 0 then _ else _) = _
    by_cases e0 : r = 0
    · exact Or.inl (if_pos e0)
    · rw [if_neg e0]
      by_cases e1 : r ≤ 6
      · rw [if_pos e1]; exact Or.inr ⟨_, rfl⟩
      · rw [if_neg e1]
        by_cases e2 : r ≤ 12
        · rw [if_pos e2]; exact Or.inr ⟨_, rfl⟩
        · rw [if_neg e2]
          by_cases e3 : r = 13
          · rw [if_pos e3]; exact Or.inr ⟨_, rfl⟩
          · rw [if_neg e3]
            by_cases e4 : r = 14
            · rw [if_pos e4]; exact Or.inr ⟨_, rfl⟩
            · rw [if_neg e4]
              by_cases e5 : r = 15
              · rw [if_pos e5]; exact Or.inr ⟨_, rfl⟩
              · rw [if_neg e5]
                by_cases e6 : r = 16
                · rw [if_pos e6]; exact hv16
                · rw [if_neg e6]; exact Or.inr ⟨_, rfl⟩
  · show ∃ a, (if r = 0 then _ else _) = _
    rw [if_neg h0]
    by_cases e1 : r ≤ 6
    · rw [if_pos e1]; exact ⟨_, rfl⟩
    · rw [if_neg e1]
      by_cases e2 : r ≤ 12
      · rw [if_pos e2]; exact ⟨_, rfl⟩
      · rw [if_neg e2]
        by_cases e3 : r = 13
        · rw [if_pos e3]; exact ⟨_, rfl⟩
        · rw [if_neg e3]
          by_cases e4 : r = 14
          · rw [if_pos e4]; exact ⟨_, rfl⟩
          · rw [if_neg e4]
            by_cases e5 : r = 15
            · rw [if_pos e5]; exact ⟨_, rfl⟩
            · rw [if_neg e5, if_neg h16]; exact ⟨_, rfl⟩
  · show (if r = 0 then _ else _) = _
    rw [if_neg (by omega), if_neg (by omega), if_neg (by omega), if_neg (by omega), if_neg (by omega), if_neg (by omega), if_neg (by omega)]
set_option maxRecDepth 20000 in
theorem am_law_ret {pc : Nat} {rt : Option FieldType} {x : Int32} (h : am_rd code rt pc (some (.int x))) : decode code pc = .ok (.ireturn, 1) := by
  obtain ⟨_, _, _, h⟩ := h
  exact h
/-- the frame of the law at its start -/
abbrev am_law0 : am_F := (220, 203, 0, [.ref 13, .null, .null, .null], [])
theorem am_whole {p : Program} {e : Env} {s : State} {m : MethodId} {below : List Frame} {meth : Method} {c : Code} (l : Launch) {b L : Nat} {xs : Nat → Int32} (C0 : lw_At p s m meth c b L xs)
    (hrun : ∃ (n : Nat) (M' : am_M), am_run am_C n am_law0 (am_M0 L xs) = some (some (.int 1), M') ∧ am_n M' ≤ 600020 ∧ am_s M' ≤ 7302250) : W p l e room_1 s m #[Value.ref b] below meth c s.heap [] 0 0 (lw_Z below #[Value.ref b] s) (entryFrame m ([Value.ref b] : List Value).toArray 4) := by
  obtain ⟨hx, hb, hr, hml, hown, hts, hX, hbl, hlocks, hgv⟩ := id C0
  obtain ⟨n, M', hrn, hn1, hs1⟩ := hrun
  have hA : ∀ a : Nat, a < s.heap.size → ¬ (fun q : Nat => s.heap.size ≤ q) a := fun a h => Nat.not_le.mpr h
  obtain ⟨γ, hFo, hγ13, hγ20⟩ := am_Fo_start (A := fun q : Nat => s.heap.size ≤ q) hts hgv hX hA
  have hkn : ∀ (k : Nat), ∃ (cC : ClassId) (iS : Nat → Nat), ∀ q : vw_C, am_cl[k]? = some q → u_Kn s q.1 q.2.1 q.2.2 cC iS := by
    intro k
    have go : ∀ {C : String} {T : u_T} {N : Nat}, am_cl[k]? = some (C, T, N) → (∀ w ∈ u_ws C T N, w ∈ lw_tbl) → (Cond.instantiable C N ∈ tables_1) → ∃ (cC : ClassId) (iS : Nat → Nat), ∀ q : vw_C, am_cl[k]? = some q → u_Kn s q.1 q.2.1 q.2.2 cC iS := by
      intro C T N hk h1 h2
      obtain ⟨cC, iS, h⟩ := u_known (C := C) (T := T) (N := N) (n := N) hts h1 (hts _ (List.mem_append_right _ h2))
      exact ⟨cC, iS, fun q hq => by rw [hk] at hq; cases hq; exact h⟩
    match k with
    | 0 => exact go rfl inX0 (by decide +kernel)
    | 1 => exact go rfl inX1 (by decide +kernel)
    | 2 => exact go rfl inX2 (by decide +kernel)
    | 3 => exact go rfl inX3 (by decide +kernel)
    | 4 => exact go rfl inX4 (by decide +kernel)
    | 5 => exact go rfl inX5 (by decide +kernel)
    | 6 => exact go rfl inX6 (by decide +kernel)
    | 7 => exact go rfl inX7 (by decide +kernel)
    | 8 => exact go rfl inX8 (by decide +kernel)
    | k + 9 => exact ⟨0, fun _ => 0, fun q hq => by simp [am_cl] at hq⟩
  obtain ⟨dC, hdC⟩ := Classical.axiomOfChoice hkn
  obtain ⟨dI, hdI⟩ := Classical.axiomOfChoice hdC
  have hws : am_ws (fun _ => 0) (fun _ => 0) (am_M0 L xs) = [] := rfl
  have hRel : am_Rel L xs (dC, dI) γ (fun _ => 0) (fun _ => 0) [] (fun q : Nat => s.heap.size ≤ q) s.heap [] s (am_M0 L xs) := by
    refine ⟨⟨fun k q hq => hdI k q hq, fun k q h => by simp at h⟩, ?_, ?_, va_S.rf, fun _ h => h, hFo, hγ20, am_M0_wf L xs, fun r h1 h2 => absurd (show r < 20 from h2) (by omega)⟩
    · rw [hws]; exact fun k q h => by simp at h
    · rw [hws]; exact ⟨fun i j p q h => by simp at h, fun k q h => by simp at h⟩
  have hl := lv_entry ([.ref b]) (n := 4) (Nat.le_of_ble_eq_true rfl)
  rw [lg_entry_eq]
  generalize (lg_sl ([.ref b]) ++ List.replicate (4 - (lg_sl ([.ref b])).length) Slot.unset).toArray = ls at hl ⊢
  have hmono := am_run_mo (fun z pc => (am_C_ok z pc).2) n _ _ _ hrn
  have key := am_sim (tb := am_tb0) (C := am_C) (fun z pc => (am_C_ok z pc).1) (fun z pc => (am_C_ok z pc).2) am_plain am_inis n _ _ _ hrn
    (p, l, e, room_1, s, m, #[Value.ref b], below, meth, c, lw_Z below #[Value.ref b] s, L, xs, (dC, dI), (fun q : Nat => s.heap.size ≤ q), 20, 0, γ, am_n M', am_s M')
    ⟨hx, hb, hml, hown, fun w hw => hts w (List.mem_filter.mp hw).1, hlocks, (fun h => by cases h), (by show am_n M' - 20 ≤ 600000; omega), (by show am_s M' - 0 ≤ 7302250; omega)⟩ (Nat.le_refl _) (Nat.le_refl _)
    (by
      intro γ' g cA tys H locs ls pc hR hγ hvo hrd
      refine va_forget (fun q hq => hR.2.2.2.1.2.2 q hq) (W.widen (k := 600000) (n := 7302250) (by show am_n M' - 20 ≤ 600000; omega) (by show am_s M' - 0 ≤ 7302250; omega) ?_)
      exact lw_ret hx hb hr hlocks (am_law_ret hrd))
  have k9 := key γ (fun _ => 0) (fun _ => 0) [] s.heap [] ls hRel ⟨hl.1.trans hml.symm, hl.2.1, hml.symm, fun i hi => by
      match i, hi with
      | 0, _ => rw [show am_cv γ (am_lg [.ref 13, .null, .null, .null] 0) = .ref b from hγ13]; exact hl.2.2 (0, .ref b) List.mem_cons_self
      | 1, hi => exact absurd rfl hi
      | 2, hi => exact absurd rfl hi
      | 3, hi => exact absurd rfl hi
      | i + 4, hi => exact absurd rfl hi⟩ ⟨am_cn1 (show 13 < 20 ∧ 13 ≠ 16 from ⟨by decide, by decide⟩) (am_cn1 trivial (am_cn1 trivial (am_cn1 trivial (fun _ h => by cases h)))), fun _ h => by cases h⟩ (fun _ _ => rfl) (Nat.le_refl _) (Nat.le_refl _) hmono.1 hmono.2 (by decide) (by decide)
  exact k9
end AM16
