/-! THE MEMORY of the abstract machine, in the heap of the machine -/
section AM3
def am_cl : List vw_C := [(RX0, TX0, 4), (RX1, TX1, 5), (RX2, TX2, 14), (RX3, TX3, 3), (RX4, TX4, 4), (RX5, TX5, 11), (RX6, TX6, 4), (RX7, TX7, 11), (RX8, TX8, 38)]
def am_ty (c : Nat) : Nat → FieldType := match c with
  | 0 => tyX0
  | 1 => tyX1
  | 2 => tyX2
  | 3 => tyX3
  | 4 => tyX4
  | 5 => tyX5
  | 6 => tyX6
  | 7 => tyX7
  | _ => tyX8
def am_cn (c : Nat) : String := match c with
  | 0 => RX0
  | 1 => RX1
  | 2 => RX2
  | 3 => RX3
  | 4 => RX4
  | 5 => RX5
  | 6 => RX6
  | 7 => RX7
  | _ => RX8
/-- an array's kind: of what -/
def am_et (t : Nat) : FieldType := match t with
  | 20 => .int
  | 21 => .boolean
  | 22 => .byte
  | 23 => .char
  | 24 => .long
  | t => .object (am_cn (t - 30))
def am_opt (g : Nat → Nat) (v : Nat) : Option Nat := if v = 0 then none else some (g v)
def am_fv (g : Nat → Nat) (M : am_M) (c r k : Nat) : Value := match am_ty c k with
  | .long => .long (am_J M r k)
  | .object _ => va_rf (am_opt g (am_R M r k))
  | .array _ => va_rf (am_opt g (am_R M r k))
  | _ => .int (am_I M r k)
def am_fs (g : Nat → Nat) (M : am_M) (c N r : Nat) : List Value := (List.range N).map (am_fv g M c r)
def am_e (g : Nat → Nat) (cA : Nat → ClassId) (M : am_M) (r : Nat) : va_E :=
  if (am_K M r).1 < 20 then .inr ((am_K M r).1, am_fs g M (am_K M r).1 (am_K M r).2 r)
  else if (am_K M r).1 = 24 then .inl (cA r, (am_K M r).2, .inr (.inl (am_J M r)))
  else if (am_K M r).1 < 30 then .inl (cA r, (am_K M r).2, .inl (am_I M r))
  else .inl (cA r, (am_K M r).2, .inr (.inr (.inr (.inr (fun j => am_opt g (am_R M r j))))))
def am_ws (g : Nat → Nat) (cA : Nat → ClassId) (M : am_M) : va_W := (List.range (am_n M - 20)).map (fun i => (g (i + 20), am_e g cA M (i + 20)))
theorem am_ws_get {g : Nat → Nat} {cA : Nat → ClassId} {M : am_M} {r : Nat} (h1 : 20 ≤ r) (h2 : r < am_n M) : (am_ws g cA M)[r - 20]? = some (g r, am_e g cA M r) := by
  unfold am_ws
  rw [List.getElem?_map, List.getElem?_range (by omega)]
  simp only [Option.map_some]
  rw [show r - 20 + 20 = r by omega]
theorem am_ws_set {g : Nat → Nat} {cA : Nat → ClassId} {M M' : am_M} {r : Nat} (h1 : 20 ≤ r) (hn : am_n M' = am_n M) (he : ∀ q, 20 ≤ q → q < am_n M → q ≠ r → am_e g cA M' q = am_e g cA M q) : am_ws g cA M' = (am_ws g cA M).set (r - 20) (g r, am_e g cA M' r) := by
  apply List.ext_getElem?
  intro i
  rw [List.getElem?_set]
  unfold am_ws
  rw [hn]
  simp only [List.getElem?_map, List.length_map, List.length_range]
  by_cases hi : i < am_n M - 20
  · rw [List.getElem?_range hi]
    by_cases hr : r - 20 = i
    · subst hr
      rw [if_pos rfl, if_pos hi]
      simp only [Option.map_some]
      rw [show r - 20 + 20 = r by omega]
    · rw [if_neg hr]
      simp only [Option.map_some]
      rw [he (i + 20) (by omega) (by omega) (by omega)]
  · rw [List.getElem?_eq_none (by rw [List.length_range]; omega)]
    by_cases hr : r - 20 = i
    · rw [if_pos hr, if_neg (by omega)]; rfl
    · rw [if_neg hr]; rfl
theorem am_ws_new {g g' : Nat → Nat} {cA cA' : Nat → ClassId} {M M' : am_M} (h20 : 20 ≤ am_n M) (hn : am_n M' = am_n M + 1) (he : ∀ q, 20 ≤ q → q < am_n M → g' q = g q ∧ am_e g' cA' M' q = am_e g cA M q) : am_ws g' cA' M' = am_ws g cA M ++ [(g' (am_n M), am_e g' cA' M' (am_n M))] := by
  unfold am_ws
  rw [hn, show am_n M + 1 - 20 = (am_n M - 20) + 1 by omega, List.range_succ, List.map_append]
  congr 1
  · apply List.map_congr_left
    intro i hi
    have hi := List.mem_range.mp hi
    obtain ⟨e1, e2⟩ := he (i + 20) (by omega) (by omega)
    rw [e1, e2]
  · simp only [List.map_cons, List.map_nil]
    rw [show am_n M - 20 + 20 = am_n M by omega]
/-- what the cells that no run changes hold: texts, the script, tables -/
def am_lens : List Nat := [3, 6, 4, 2, 3, 2]
def am_byts : List (List Int32) := [[108, 97, 119], [115, 101, 116, 116, 108, 101], [102, 105, 110, 101], [100, 111], [120, 100, 97], [101, 108]]
def am_txt (i : Nat) : String := ["law", "settle", "fine", "do", "xda", "el"].getD i ""
def am_six (i : Nat) : Nat := [72, 78, 80, 123, 125, 127].getD i 0
def am_above (j : Nat) : Int32 := [-1, 0, 0, 1, 2, 0].getD j 0
def am_digits (j : Nat) : Int64 := [161051, 14641, 1331, 121, 11, 1].getD j 0
def am_fK (L r : Nat) : Nat × Nat := if 1 ≤ r ∧ r ≤ 6 then (40, 0) else if 7 ≤ r ∧ r ≤ 12 then (52, am_lens.getD (r - 7) 0) else if r = 13 then (50, L) else if r = 14 then (50, 6) else if r = 15 then (54, 6) else (99, 0)
def am_fI (xs : Nat → Int32) (r j : Nat) : Int32 := if 7 ≤ r ∧ r ≤ 12 then (am_byts.getD (r - 7) []).getD j 0 else if r = 13 then xs j else if r = 14 then am_above j else 0
def am_fJ (r j : Nat) : Int64 := if r = 15 then am_digits j else 0
/-- words that stay, but not by the kit's general row -/
def am_isNw : Cond → Bool
  | .fieldLinkNest .. => true
  | .methodLinkNest .. => true
  | .arrayOver (.object _) => true
  | _ => false
def am_nw : List Cond := lw_tbl.filter am_isNw
theorem am_inN (i : Nat) {w : Cond} (h : tables_1[i]? = some w) (g : am_isNw w = true) : w ∈ am_nw := List.mem_filter.mpr ⟨List.mem_append_right _ (List.mem_of_getElem? h), g⟩
theorem am_nw_warm {s U : State} (hW : s.WarmedH U.vm) {w : Cond} (hw : w ∈ am_nw) (h : va_Nw w s) : va_Nw w U := by
  have h1 := (List.mem_filter.mp hw).2
  cases w with
  | fieldLinkNest a i b n d k => exact va_Nw.warmF hW h
  | methodLinkNest a i x k => exact va_Nw.warmM hW h
  | arrayOver t => cases t with
    | object C => exact va_AO.moved hW.alike h
    | _ => exact absurd h1 (by simp [am_isNw])
  | _ => exact absurd h1 (by simp [am_isNw])
def am_Fo (L : Nat) (xs : Nat → Int32) (γ : Nat → Value) (A : Nat → Prop) (U : State) (H : Heap) : Prop :=
  ∃ (adK adV : Nat → Nat) (tS tA tD : Nat),
    vk_S 6 am_lens am_byts adK adV A U H ∧ (∀ i, i < 6 → γ (1 + i) = .ref (adK i) ∧ γ (7 + i) = .ref (adV i) ∧ vk_R RX5 (am_six i) (am_txt i) (adK i) U) ∧
    (γ 13 = .ref tS ∧ va_T .int tS L (fun j => .int (xs j)) A U H) ∧
    (γ 14 = .ref tA ∧ va_T .int tA 6 (fun j => .int (am_above j)) A U H ∧ va_Z "DigFill" "ABOVE" "[I" (.ref tA) A U H) ∧
    (γ 15 = .ref tD ∧ va_T .long tD 6 (fun j => .long (am_digits j)) A U H ∧ va_Z "DigFill$Dealer" "DIGITS" "[J" (.ref tD) A U H) ∧
    va_Z "java/lang/String" "COMPACT_STRINGS" "Z" (.int 1) A U H ∧ va_Z "jdk/internal/util/Preconditions" "SIOOBE_FORMATTER" "Ljava/util/function/BiFunction;" (γ 16) A U H ∧
    γ 0 = .null ∧ (∀ r, r < 20 → γ r = .null ∨ ∃ a, γ r = .ref a) ∧ (∀ w ∈ am_nw, va_Nw w U) ∧ ∀ r, r < 20 → ¬ r = 0 → ¬ r = 16 → ∃ a, γ r = .ref a
/-- to a call, and back at a start -/
theorem am_Fo.goes {L : Nat} {xs : Nat → Int32} {γ : Nat → Value} {A B : Nat → Prop} {s U : State} {H H1 : Heap} (h : am_Fo L xs γ A s H) (hW : s.WarmedH U.vm) (hq : ∀ a : Nat, a < H.size → ¬ A a → H1[a]? = H[a]?) (hAB : ∀ q, B q → A q) : am_Fo L xs γ B U H1 := by
  obtain ⟨adK, adV, tS, tA, tD, h1, h2, h3, h4, h5, h6, h7, h8, h9, h10, h11⟩ := h
  have al := hW.alike
  exact ⟨adK, adV, tS, tA, tD, ((h1.kept hq).moved al).narrow hAB, fun i hi => ⟨(h2 i hi).1, (h2 i hi).2.1, (h2 i hi).2.2.warm hW⟩, ⟨h3.1, ((h3.2.kept hq).moved al).narrow hAB⟩, ⟨h4.1, ((h4.2.1.kept hq).moved al).narrow hAB, ((h4.2.2.kept hq).moved al).narrow hAB⟩, ⟨h5.1, ((h5.2.1.kept hq).moved al).narrow hAB, ((h5.2.2.kept hq).moved al).narrow hAB⟩, ((h6.kept hq).moved al).narrow hAB, ((h7.kept hq).moved al).narrow hAB, h8, h9, fun w hw => am_nw_warm hW hw (h10 w hw), h11⟩
theorem am_Fo.eqγ {L : Nat} {xs : Nat → Int32} {γ γ' : Nat → Value} {A : Nat → Prop} {s : State} {H : Heap} (h : am_Fo L xs γ A s H) (e : ∀ r, r < 20 → γ' r = γ r) : am_Fo L xs γ' A s H := by
  obtain ⟨adK, adV, tS, tA, tD, h1, h2, h3, h4, h5, h6, h7, h8, h9, h10, h11⟩ := h
  exact ⟨adK, adV, tS, tA, tD, h1, fun i hi => ⟨by rw [e _ (by omega)]; exact (h2 i hi).1, by rw [e _ (by omega)]; exact (h2 i hi).2.1, (h2 i hi).2.2⟩, ⟨by rw [e _ (by omega)]; exact h3.1, h3.2⟩, ⟨by rw [e _ (by omega)]; exact h4.1, h4.2⟩, ⟨by rw [e _ (by omega)]; exact h5.1, h5.2⟩, h6, by rw [e _ (by omega)]; exact h7, by rw [e _ (by omega)]; exact h8, fun r hr => by rw [e r hr]; exact h9 r hr, h10, fun r hr h0 h16 => by rw [e r hr]; exact h11 r hr h0 h16⟩
/-- a memory that is one -/
def am_Wf (L : Nat) (xs : Nat → Int32) (M : am_M) : Prop :=
  20 ≤ am_n M ∧ (∀ r, am_n M ≤ r → am_K M r = (99, 0)) ∧ (∀ r, r < 20 → am_K M r = am_fK L r ∧ am_I M r = am_fI xs r ∧ am_J M r = am_fJ r) ∧
  (∀ r, 20 ≤ r → r < am_n M → (∃ q, am_cl[(am_K M r).1]? = some q ∧ q.2.2 = (am_K M r).2) ∨ (20 ≤ (am_K M r).1 ∧ (am_K M r).1 ≤ 24) ∨ (30 ≤ (am_K M r).1 ∧ (am_K M r).1 < 39)) ∧
  (∀ a k, am_R M a k = 0 ∨ (20 ≤ am_R M a k ∧ am_R M a k < am_n M))
def am_tyOk (cA : Nat → ClassId) (tys : List (ClassId × FieldType)) (M : am_M) : Prop := ∀ r, 20 ≤ r → r < am_n M → 20 ≤ (am_K M r).1 → ∃ t0 : Nat, tys[t0]? = some (cA r, am_et (am_K M r).1)
def am_Rel (L : Nat) (xs : Nat → Int32) (D : va_G) (γ : Nat → Value) (g : Nat → Nat) (cA : Nat → ClassId) (tys : List (ClassId × FieldType)) (A : Nat → Prop) (H : Heap) (locs : List Loc) (s : State) (M : am_M) : Prop :=
  va_K D am_cl tys s ∧ va_P D am_cl (am_ws g cA M) H ∧ va_D A (am_ws g cA M) ∧ va_S A s.heap H locs ∧ (∀ q, s.heap.size ≤ q → A q) ∧ am_Fo L xs γ A s s.heap ∧ (∀ r, 20 ≤ r → γ r = .ref (g r)) ∧ am_Wf L xs M ∧ am_tyOk cA tys M
def am_cv (γ : Nat → Value) : Value → Value
  | .ref r => γ r
  | .retAddr _ => γ 16
  | v => v
def am_vo (n : Nat) : Value → Prop
  | .ref r => r < n ∧ r ≠ 16
  | .retAddr _ => 16 < n
  | _ => True
def am_lr (γ : Nat → Value) (nL : Nat) (l : List Value) (ls : Array Slot) : Prop := ls.size = nL ∧ lv_wf ls ∧ l.length = nL ∧ ∀ i, am_lg l i ≠ .null → ls[i]? = some (.val (am_cv γ (am_lg l i)))
def am_cf (n : Nat) (f : am_F) : Prop := (∀ v ∈ f.2.2.2.1, am_vo n v) ∧ ∀ v ∈ f.2.2.2.2, am_vo n v
def am_words : List Cond := lw_tbl.filter goodWord
theorem am_in (i : Nat) {w : Cond} (h : tables_1[i]? = some w) (g : goodWord w = true) : w ∈ am_words := List.mem_filter.mpr ⟨List.mem_append_right _ (List.mem_of_getElem? h), g⟩
theorem am_inP (i : Nat) {w : Cond} (h : (k2_sels lw_privs)[i]? = some w) (g : goodWord w = true) : w ∈ am_words := List.mem_filter.mpr ⟨List.mem_append_left _ (List.mem_of_getElem? h), g⟩
end AM3
