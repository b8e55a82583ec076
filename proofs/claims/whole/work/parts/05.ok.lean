/-! WHAT IT IS THAT AN INSTRUCTION OF THE ABSTRACT MACHINE IS ONE OF THE MACHINE; the instructions that touch no cell -/
section AM4
abbrev am_Cx : Type := Program × Launch × Env × Room × State × MethodId × Array Value × List Frame × Method × Code × (State → Prop) × Nat × (Nat → Int32) × va_G × (Nat → Prop) × Nat × Nat × (Nat → Value) × Nat × Nat
/-- from a frame and a memory the machine comes to its Q -/
def am_Go : am_Cx → am_F → am_M → Prop
  | (p, l, e, R, s, m, args, below, meth, c, Q, L, xs, D, A, n0, s0, γ0, N, S), f, M =>
    ∀ γ g cA tys H locs ls, am_Rel L xs D γ g cA tys A H locs s M → am_lr γ c.maxLocals f.2.2.2.1 ls → am_cf (am_n M) f → (∀ r, r < n0 → γ r = γ0 r) → n0 ≤ am_n M → s0 ≤ am_s M → am_n M ≤ N → am_s M ≤ S → f.2.1 + 1 ≤ R.frames → 60 * (f.2.1 + 1) ≤ R.locals →
      W p l e R s m args below meth c H locs (am_n M - n0) (am_s M - s0) Q (F0 m f.2.2.1 ls (f.2.2.2.2.map (am_cv γ)))
def am_rd (cc : ByteArray) (rt : Option FieldType) (pc : Nat) : Option Value → Prop
  | none => rt = none ∧ decode cc pc = .ok (.return_, 1)
  | some (.int x) => ∃ ty, rt = some ty ∧ narrow ty (.int x) = .int x ∧ decode cc pc = .ok (.ireturn, 1)
  | some (.long _) => rt = some .long ∧ decode cc pc = .ok (.lreturn, 1)
  | some (.ref _) => ∃ ty, rt = some ty ∧ ((∃ n, ty = .object n) ∨ ∃ t, ty = .array t) ∧ decode cc pc = .ok (.areturn, 1)
  | _ => False
def am_En : am_Cx → ByteArray → Option FieldType → Option Value → am_M → Prop
  | (p, l, e, R, s, m, args, below, meth, c, Q, L, xs, D, A, n0, s0, γ0, _, _), cc, rt, v, M =>
    ∀ γ g cA tys H locs ls pc, am_Rel L xs D γ g cA tys A H locs s M → (∀ r, r < n0 → γ r = γ0 r) → (∀ w, v = some w → am_vo (am_n M) w) → am_rd cc rt pc v →
      W p l e R s m args below meth c H locs (am_n M - n0) (am_s M - s0) Q (F0 m pc ls (v.toList.map (am_cv γ)))
def am_Fx : am_Cx → ByteArray → String → Nat → Bool → Prop
  | (p, _, _, R, s, m, args, _, meth, c, _, _, _, _, _, n0, s0, _, N, S), cc, own, mL, ini =>
    p.tables.exec = Jvm.exec ∧ c.code = cc ∧ c.maxLocals = mL ∧ s.vm.findClass own = some m.cls ∧ (∀ w ∈ am_words, w.before args s = true) ∧ meth.locks = false ∧ (ini = true → meth.name = "<init>") ∧ N - n0 ≤ R.cells ∧ S - s0 ≤ R.slots
def am_Pc (L : Nat) (xs : Nat → Int32) (D : va_G) (γ : Nat → Value) (g : Nat → Nat) (cA : Nat → ClassId) (tys : List (ClassId × FieldType)) (sz : Nat) (as : List Value) (M : am_M) : Array Value → State → Prop :=
  va_Pc (as.map (am_cv γ)) (fun U => U.heap.size = sz ∧ am_Rel L xs D γ g cA tys (va_A (am_ws g cA M) sz) U.heap [] U M ∧ ∀ v ∈ as, am_vo (am_n M) v)
def am_Qc (L : Nat) (xs : Nat → Int32) (D : va_G) (γ : Nat → Value) (A : Nat → Prop) (n : Nat) (v : Option Value) (M' : am_M) : Array Value → State → Outcome → State → Prop := fun _ st oc t =>
  (∃ (γ' : Nat → Value) (g' : Nat → Nat) (cA' : Nat → ClassId) (tys' : List (ClassId × FieldType)), oc = .returned (v.map (am_cv γ')) ∧ (∀ r, r < n → γ' r = γ r) ∧ va_K D am_cl tys' t ∧ va_P D am_cl (am_ws g' cA' M') t.heap ∧ va_D A (am_ws g' cA' M') ∧ (∀ r, 20 ≤ r → γ' r = .ref (g' r)) ∧ am_Wf L xs M' ∧ am_tyOk cA' tys' M' ∧ ∀ w, v = some w → am_vo (am_n M') w) ∧ va_F A st t
/-- a run of a method, as its contract -/
def am_Mt (l : Launch) (L : Nat) (xs : Nat → Int32) (D : va_G) (y : MethodName) (ws : List Cond) (b : Nat) (as : List Value) (M : am_M) (v : Option Value) (M' : am_M) : Prop :=
  ∀ γ g cA tys sz, Met l y ws { frames := b + 1, cells := am_n M' - am_n M, slots := am_s M' - am_s M, locals := 60 * (b + 1) } (am_Pc L xs D γ g cA tys sz as M) (am_Qc L xs D γ (va_A (am_ws g cA M) sz) (am_n M) v M') (am_n M' - am_n M) (am_s M' - am_s M) (va_A (am_ws g cA M) sz)
/-- the methods: names, codes, locals, answers, constructors -/
abbrev am_Tb : Type := (Nat → MethodName) × (Nat → ByteArray) × (Nat → Nat) × (Nat → Option FieldType) × (Nat → Bool)
def am_wz (tb : am_Tb) (z : Nat) : List Cond := .code (tb.1 z) (tb.2.1 z) (tb.2.2.1 z) (tb.2.2.2.1 z) :: am_words
def am_mN : am_Cx → Nat
  | (_, _, _, _, _, _, _, _, _, _, _, _, _, _, _, _, _, _, N, _) => N
def am_mS : am_Cx → Nat
  | (_, _, _, _, _, _, _, _, _, _, _, _, _, _, _, _, _, _, _, S) => S
def am_mM : am_Cx → MethodName → List Cond → Nat → List Value → am_M → Option Value → am_M → Prop
  | (_, l, _, _, _, _, _, _, _, _, _, L, xs, D, _, _, _, _, _, _) => am_Mt l L xs D
def am_okR (tb : am_Tb) (X : am_Cx) (cc : ByteArray) (rt : Option FieldType) (f : am_F) (M : am_M) : am_Rs → Prop
  | .inl (p, f', M') => am_n M ≤ am_n M' ∧ am_s M ≤ am_s M' ∧ (am_sp p → am_n M' ≤ am_mN X → am_s M' ≤ am_mS X → am_Go X f' M' → am_Go X f M)
  | .inr (.inl (p, c, f1, f2)) => am_sp p → (c → am_Go X f1 M) → (¬ c → am_Go X f2 M) → am_Go X f M
  | .inr (.inr (.inl (x, cs, d))) => am_Go X (am_swf x cs d) M → am_Go X f M
  | .inr (.inr (.inr (.inl (p, as, f0, f')))) => f0 = (f0.1, f0.2.1, 0, am_pad (tb.2.2.1 f0.1) (am_ar as), []) ∧ (am_ar as).length ≤ tb.2.2.1 f0.1 ∧
      (am_sp p → ∀ (v : Option Value) (M' : am_M), am_mM X (tb.1 f0.1) (am_wz tb f0.1) f0.2.1 as M v M' → am_n M' ≤ am_mN X → am_s M' ≤ am_mS X → am_n M ≤ am_n M' → am_s M ≤ am_s M' → am_Go X (am_push v f') M' → am_Go X f M)
  | .inr (.inr (.inr (.inr (.inl (p, v))))) => am_sp p → am_En X cc rt v M → am_Go X f M
  | .inr (.inr (.inr (.inr (.inr _)))) => True
def am_ok (tb : am_Tb) (cc : ByteArray) (own : String) (mL : Nat) (rt : Option FieldType) (ini : Bool) (pc : Nat) (op : am_Op) : Prop :=
  ∀ (X : am_Cx) (f : am_F) (M : am_M), am_Fx X cc own mL ini → f.2.2.1 = pc → am_okR tb X cc rt f M (op f M)
theorem am_tl {n : Nat} {a : Value} {r : List Value} (h : ∀ v ∈ a :: r, am_vo n v) : ∀ v ∈ r, am_vo n v := (List.forall_mem_cons.mp h).2
theorem am_hd {n : Nat} {a : Value} {r : List Value} (h : ∀ v ∈ a :: r, am_vo n v) : am_vo n a := (List.forall_mem_cons.mp h).1
theorem am_cn1 {n : Nat} {a : Value} {r : List Value} (h : am_vo n a) (hr : ∀ v ∈ r, am_vo n v) : ∀ v ∈ a :: r, am_vo n v := List.forall_mem_cons.mpr ⟨h, hr⟩
theorem am_lg_vo {n : Nat} : ∀ (l : List Value) (i : Nat), (∀ v ∈ l, am_vo n v) → am_vo n (am_lg l i)
  | [], _, _ => trivial
  | _ :: _, 0, h => am_hd h
  | _ :: r, i + 1, h => am_lg_vo r i (am_tl h)
theorem am_lr.int {γ : Nat → Value} {nL : Nat} {l : List Value} {ls : Array Slot} (h : am_lr γ nL l ls) {i : Nat} {x : Int32} (e : am_lg l i = .int x) : ls[i]? = some (.val (.int x)) := by
  have h1 := h.2.2.2 i (by rw [e]; exact fun z => by cases z)
  rw [e] at h1
  exact h1
theorem am_lr.long {γ : Nat → Value} {nL : Nat} {l : List Value} {ls : Array Slot} (h : am_lr γ nL l ls) {i : Nat} {x : Int64} (e : am_lg l i = .long x) : ls[i]? = some (.val (.long x)) := by
  have h1 := h.2.2.2 i (by rw [e]; exact fun z => by cases z)
  rw [e] at h1
  exact h1
theorem am_lr.rf {γ : Nat → Value} {nL : Nat} {l : List Value} {ls : Array Slot} (h : am_lr γ nL l ls) {i : Nat} {x : Nat} (e : am_lg l i = .ref x) : ls[i]? = some (.val (γ x)) := by
  have h1 := h.2.2.2 i (by rw [e]; exact fun z => by cases z)
  rw [e] at h1
  exact h1
/-- a reference in the machine: null, or a cell -/
theorem am_γrf {L : Nat} {xs : Nat → Int32} {γ : Nat → Value} {g : Nat → Nat} {A : Nat → Prop} {s : State} {H : Heap} (h : am_Fo L xs γ A s H) (hg : ∀ r, 20 ≤ r → γ r = .ref (g r)) (r : Nat) : γ r = .null ∨ ∃ a, γ r = .ref a := by
  obtain ⟨_, _, _, _, _, _, _, _, _, _, _, _, _, h8, _⟩ := h
  rcases Nat.lt_or_ge r 20 with q | q
  · exact h8 r q
  · exact Or.inr ⟨_, hg r q⟩
theorem am_Fo.nw {L : Nat} {xs : Nat → Int32} {γ : Nat → Value} {A : Nat → Prop} {s : State} {H : Heap} (h : am_Fo L xs γ A s H) {w : Cond} (hw : w ∈ am_nw) : va_Nw w s := by
  obtain ⟨_, _, _, _, _, _, _, _, _, _, _, _, _, _, h9, _⟩ := h
  exact h9 w hw
theorem am_cv_cat {γ : Nat → Value} (h : ∀ r, γ r = .null ∨ ∃ a, γ r = .ref a) (v : Value) : (am_cv γ v).category = v.category := by
  cases v with
  | ref r => rcases h r with e | ⟨a, e⟩ <;> (show (γ r).category = _; rw [e]; rfl)
  | retAddr r => rcases h 16 with e | ⟨a, e⟩ <;> (show (γ 16).category = _; rw [e]; rfl)
  | _ => rfl
theorem am_l1_len : ∀ (l : List Value) (i : Nat) (w : Value), (am_l1 l i w).length = l.length
  | [], _, _ => rfl
  | _ :: _, 0, _ => rfl
  | _ :: r, 1, w => by simp [am_l1, am_l1_len r 0 w]
  | _ :: r, n + 2, w => by simp [am_l1, am_l1_len r (n + 1) w]
theorem am_l1_lg : ∀ (l : List Value) (i : Nat) (w : Value) (j : Nat), i < l.length → am_lg (am_l1 l i w) j = if j = i then w else if j + 1 = i then am_nl (am_lg l j) else am_lg l j
  | [], i, _, _, h => absurd h (Nat.not_lt_zero i)
  | v :: r, 0, w, 0, _ => by simp [am_l1, am_lg]
  | v :: r, 0, w, j + 1, _ => by simp [am_l1, am_lg]
  | v :: r, 1, w, 0, _ => by simp [am_l1, am_lg]
  | v :: r, 1, w, j + 1, h => by
    simp only [am_l1, am_lg, am_l1_lg r 0 w j (by simpa using h)]
    by_cases hj : j = 0
    · simp [hj]
    · simp [hj]
  | v :: r, i + 2, w, 0, _ => by simp [am_l1, am_lg]
  | v :: r, i + 2, w, j + 1, h => by
    simp only [am_l1, am_lg, am_l1_lg r (i + 1) w j (by simp only [List.length_cons] at h; omega)]
    by_cases hj : j = i + 1
    · simp [hj]
    · by_cases hj2 : j = i
      · simp [hj2]
      · simp [hj, hj2]
theorem am_nh_len (l : List Value) : (am_nh l).length = l.length := by cases l <;> rfl
theorem am_nh_lg (l : List Value) (j : Nat) : am_lg (am_nh l) j = if j = 0 then .null else am_lg l j := by
  cases l with
  | nil => cases j <;> rfl
  | cons v r => cases j <;> simp [am_nh, am_lg]
theorem am_l2_len : ∀ (l : List Value) (i : Nat) (w : Value), (am_l2 l i w).length = l.length
  | [], _, _ => rfl
  | _ :: r, 0, _ => by simp [am_l2, am_nh_len]
  | _ :: r, 1, w => by simp [am_l2, am_l2_len r 0 w]
  | _ :: r, n + 2, w => by simp [am_l2, am_l2_len r (n + 1) w]
theorem am_l2_lg : ∀ (l : List Value) (i : Nat) (w : Value) (j : Nat), i + 1 < l.length → am_lg (am_l2 l i w) j = if j = i then w else if j = i + 1 then .null else if j + 1 = i then am_nl (am_lg l j) else am_lg l j
  | [], i, _, _, h => absurd h (Nat.not_lt_zero _)
  | v :: r, 0, w, 0, _ => by simp [am_l2, am_lg]
  | v :: r, 0, w, j + 1, _ => by simp [am_l2, am_lg, am_nh_lg]
  | v :: r, 1, w, 0, _ => by simp [am_l2, am_lg]
  | v :: r, 1, w, j + 1, h => by
    simp only [am_l2, am_lg, am_l2_lg r 0 w j (by simp only [List.length_cons] at h; omega)]
    by_cases hj : j = 0
    · simp [hj]
    · simp [hj]
  | v :: r, i + 2, w, 0, _ => by simp [am_l2, am_lg]
  | v :: r, i + 2, w, j + 1, h => by
    simp only [am_l2, am_lg, am_l2_lg r (i + 1) w j (by simp only [List.length_cons] at h; omega)]
    by_cases hj : j = i + 1
    · simp [hj]
    · by_cases hj2 : j = i
      · simp [hj2]; intro h9; omega
      · simp [hj, hj2]
theorem am_lg_lt : ∀ (l : List Value) (i : Nat), am_lg l i ≠ .null → i < l.length
  | [], _, h => absurd rfl h
  | _ :: _, 0, _ => by simp
  | _ :: r, i + 1, h => by
    have := am_lg_lt r i h
    simp; omega
/-- the locals as the kit lists them -/
def am_asc (γ : Nat → Value) (l : List Value) : List (Nat × Value) := (List.range l.length).filterMap (fun i => if am_lg l i = .null then none else some (i, am_cv γ (am_lg l i)))
theorem am_asc_mem {γ : Nat → Value} {l : List Value} {i : Nat} (h : am_lg l i ≠ .null) : (i, am_cv γ (am_lg l i)) ∈ am_asc γ l :=
  List.mem_filterMap.mpr ⟨i, List.mem_range.mpr (am_lg_lt l i h), by rw [if_neg h]⟩
theorem am_lr.has {γ : Nat → Value} {nL : Nat} {l : List Value} {ls : Array Slot} (h : am_lr γ nL l ls) : lv_has ls nL (am_asc γ l) := by
  refine ⟨h.1, h.2.1, fun q hq => ?_⟩
  obtain ⟨i, -, hi⟩ := List.mem_filterMap.mp hq
  by_cases hn : am_lg l i = .null
  · rw [if_pos hn] at hi; cases hi
  · rw [if_neg hn] at hi; cases hi
    exact h.2.2.2 i hn
theorem am_lr.s1 {γ : Nat → Value} {nL : Nat} {l : List Value} {ls : Array Slot} (hg : ∀ r, γ r = .null ∨ ∃ a, γ r = .ref a) (hl0 : am_lr γ nL l ls) {i : Nat} (hi : i < nL) {w w' : Value} (hw : am_cv γ w = w') (hc : w'.category = 1) {ls' : Array Slot}
    (h : lv_has ls' nL ((i, w') :: (am_asc γ l).filter (fun q => !(q.1 == i) && !(q.1 + 1 == i && q.2.category == 2)))) : am_lr γ nL (am_l1 l i w) ls' := by
  refine ⟨h.1, h.2.1, by rw [am_l1_len]; exact hl0.2.2.1, fun j hj => ?_⟩
  have hil : i < l.length := by rw [hl0.2.2.1]; exact hi
  rw [am_l1_lg l i w j hil] at hj ⊢
  by_cases e : j = i
  · rw [if_pos e, hw, e]
    exact h.2.2 _ List.mem_cons_self
  · rw [if_neg e] at hj ⊢
    by_cases e2 : j + 1 = i
    · rw [if_pos e2] at hj ⊢
      have hn : am_lg l j ≠ .null := by
        intro z; rw [z] at hj; exact hj rfl
      have hc2 : (am_lg l j).category ≠ 2 ∧ am_nl (am_lg l j) = am_lg l j := by
        generalize am_lg l j = u at hj hn
        cases u with
        | long x => exact absurd rfl hj
        | double x => exact absurd rfl hj
        | _ => exact ⟨by simp [Value.category], rfl⟩
      rw [hc2.2]
      refine h.2.2 (j, am_cv γ (am_lg l j)) (List.mem_cons_of_mem _ (List.mem_filter.mpr ⟨am_asc_mem hn, ?_⟩))
      have h3 : (am_cv γ (am_lg l j)).category ≠ 2 := by rw [am_cv_cat hg]; exact hc2.1
      simp [e, h3]
    · rw [if_neg e2] at hj ⊢
      refine h.2.2 (j, am_cv γ (am_lg l j)) (List.mem_cons_of_mem _ (List.mem_filter.mpr ⟨am_asc_mem hj, ?_⟩))
      simp [e, e2]
theorem am_lr.s2 {γ : Nat → Value} {nL : Nat} {l : List Value} {ls : Array Slot} (hg : ∀ r, γ r = .null ∨ ∃ a, γ r = .ref a) (hl0 : am_lr γ nL l ls) {i : Nat} (hi : i + 1 < nL) {x : Int64} {ls' : Array Slot}
    (h : lv_has ls' nL ((i, Value.long x) :: (am_asc γ l).filter (fun q => !(q.1 == i) && (!(q.1 == i + 1) && !(q.1 + 1 == i && q.2.category == 2))))) : am_lr γ nL (am_l2 l i (.long x)) ls' := by
  refine ⟨h.1, h.2.1, by rw [am_l2_len]; exact hl0.2.2.1, fun j hj => ?_⟩
  have hil : i + 1 < l.length := by rw [hl0.2.2.1]; exact hi
  rw [am_l2_lg l i _ j hil] at hj ⊢
  by_cases e : j = i
  · rw [if_pos e, e]
    exact h.2.2 _ List.mem_cons_self
  · rw [if_neg e] at hj ⊢
    by_cases e1 : j = i + 1
    · rw [if_pos e1] at hj; exact absurd rfl hj
    · rw [if_neg e1] at hj ⊢
      by_cases e2 : j + 1 = i
      · rw [if_pos e2] at hj ⊢
        have hn : am_lg l j ≠ .null := by
          intro z; rw [z] at hj; exact hj rfl
        have hc2 : (am_lg l j).category ≠ 2 ∧ am_nl (am_lg l j) = am_lg l j := by
          generalize am_lg l j = u at hj hn
          cases u with
          | long x => exact absurd rfl hj
          | double x => exact absurd rfl hj
          | _ => exact ⟨by simp [Value.category], rfl⟩
        rw [hc2.2]
        refine h.2.2 (j, am_cv γ (am_lg l j)) (List.mem_cons_of_mem _ (List.mem_filter.mpr ⟨am_asc_mem hn, ?_⟩))
        have h3 : (am_cv γ (am_lg l j)).category ≠ 2 := by rw [am_cv_cat hg]; exact hc2.1
        simp [e, e1, h3]
      · rw [if_neg e2] at hj ⊢
        refine h.2.2 (j, am_cv γ (am_lg l j)) (List.mem_cons_of_mem _ (List.mem_filter.mpr ⟨am_asc_mem hj, ?_⟩))
        simp [e, e1, e2]
theorem am_l1_vo {n : Nat} {w : Value} (hw : am_vo n w) : ∀ (l : List Value) (i : Nat), (∀ v ∈ l, am_vo n v) → ∀ v ∈ am_l1 l i w, am_vo n v
  | [], _, h => h
  | _ :: _, 0, h => am_cn1 hw (am_tl h)
  | v :: r, 1, h => am_cn1 (by have := am_hd h; revert this; cases v <;> exact fun q => q) (am_l1_vo hw r 0 (am_tl h))
  | _ :: r, i + 2, h => am_cn1 (am_hd h) (am_l1_vo hw r (i + 1) (am_tl h))
theorem am_l2_vo {n : Nat} {w : Value} (hw : am_vo n w) : ∀ (l : List Value) (i : Nat), (∀ v ∈ l, am_vo n v) → ∀ v ∈ am_l2 l i w, am_vo n v
  | [], _, h => h
  | _ :: r, 0, h => am_cn1 hw (by cases r with
    | nil => exact fun _ h => by cases h
    | cons a r => exact am_cn1 trivial (am_tl (am_tl h)))
  | v :: r, 1, h => am_cn1 (by have := am_hd h; revert this; cases v <;> exact fun q => q) (am_l2_vo hw r 0 (am_tl h))
  | _ :: r, i + 2, h => am_cn1 (am_hd h) (am_l2_vo hw r (i + 1) (am_tl h))
end AM4
