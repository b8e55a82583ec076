/-! the world behind a change of a cell, behind a new cell -/
section AM6
theorem am_fK_ge (L r : Nat) : 40 ≤ (am_fK L r).1 := by
  unfold am_fK
  by_cases h1 : 1 ≤ r ∧ r ≤ 6
  · rw [if_pos h1]; decide
  · rw [if_neg h1]
    by_cases h2 : 7 ≤ r ∧ r ≤ 12
    · rw [if_pos h2]; exact Nat.le_of_ble_eq_true rfl
    · rw [if_neg h2]
      by_cases h3 : r = 13
      · rw [if_pos h3]; exact Nat.le_of_ble_eq_true rfl
      · rw [if_neg h3]
        by_cases h4 : r = 14
        · rw [if_pos h4]; exact Nat.le_of_ble_eq_true rfl
        · rw [if_neg h4]
          by_cases h5 : r = 15
          · rw [if_pos h5]; exact Nat.le_of_ble_eq_true rfl
          · rw [if_neg h5]; exact Nat.le_of_ble_eq_true rfl
theorem am_Wf.own {L : Nat} {xs : Nat → Int32} {M : am_M} (h : am_Wf L xs M) {a : Nat} (h1 : (am_K M a).1 < 40) : 20 ≤ a ∧ a < am_n M := by
  obtain ⟨w1, w2, w3, -⟩ := h
  refine ⟨?_, ?_⟩
  · rcases Nat.lt_or_ge a 20 with q | q
    · have := am_fK_ge L a
      rw [← (w3 a q).1] at this
      omega
    · exact q
  · rcases Nat.lt_or_ge a (am_n M) with q | q
    · exact q
    · rw [w2 a q] at h1
      exact absurd h1 (by decide)
theorem am_e_congr {g : Nat → Nat} {cA : Nat → ClassId} {M M' : am_M} {q : Nat} (hK : am_K M' q = am_K M q) (hI : am_I M' q = am_I M q) (hJ : am_J M' q = am_J M q) (hR : am_R M' q = am_R M q) : am_e g cA M' q = am_e g cA M q := by
  unfold am_e am_fs
  have hf : am_fv g M' (am_K M q).1 q = am_fv g M (am_K M q).1 q := by
    funext k
    unfold am_fv
    rw [hI, hJ, hR]
  rw [hK, hI, hJ, hR, hf]
theorem am_e_obj {g : Nat → Nat} {cA : Nat → ClassId} {M : am_M} {a c N : Nat} (h : am_K M a = (c, N)) (hc : c < 20) : am_e g cA M a = .inr (c, am_fs g M c N a) := by
  unfold am_e
  rw [h]
  exact if_pos hc
theorem am_e_int {g : Nat → Nat} {cA : Nat → ClassId} {M : am_M} {a t : Nat} (h : (am_K M a).1 = t) (h1 : 20 ≤ t) (h2 : t < 24) : am_e g cA M a = .inl (cA a, (am_K M a).2, .inl (am_I M a)) := by
  unfold am_e
  rw [h, if_neg (by omega), if_neg (by omega), if_pos (by omega)]
theorem am_e_long {g : Nat → Nat} {cA : Nat → ClassId} {M : am_M} {a : Nat} (h : (am_K M a).1 = 24) : am_e g cA M a = .inl (cA a, (am_K M a).2, .inr (.inl (am_J M a))) := by
  unfold am_e
  rw [h, if_neg (by omega), if_pos rfl]
theorem am_e_ref {g : Nat → Nat} {cA : Nat → ClassId} {M : am_M} {a t : Nat} (h : (am_K M a).1 = t) (h1 : 30 ≤ t) : am_e g cA M a = .inl (cA a, (am_K M a).2, .inr (.inr (.inr (.inr (fun j => am_opt g (am_R M a j)))))) := by
  unfold am_e
  rw [h, if_neg (by omega), if_neg (by omega), if_neg (by omega)]
theorem am_fs_get {g : Nat → Nat} {M : am_M} {c N r k : Nat} (hk : k < N) : (am_fs g M c N r)[k]? = some (am_fv g M c r k) := by
  unfold am_fs
  rw [List.getElem?_map, List.getElem?_range hk]
  rfl
theorem am_fs_set {g : Nat → Nat} {M M' : am_M} {c N r k : Nat} {v : Value} (hv : am_fv g M' c r k = v) (hne : ∀ j, j ≠ k → am_fv g M' c r j = am_fv g M c r j) : am_fs g M' c N r = (am_fs g M c N r).set k v := by
  apply List.ext_getElem?
  intro i
  rw [List.getElem?_set]
  unfold am_fs
  simp only [List.getElem?_map, List.length_map, List.length_range]
  by_cases hi : i < N
  · rw [List.getElem?_range hi]
    by_cases hk : k = i
    · subst hk
      rw [if_pos rfl, if_pos hi, ← hv]
      rfl
    · rw [if_neg hk]
      simp only [Option.map_some]
      rw [hne i (fun q => hk q.symm)]
  · rw [List.getElem?_eq_none (by rw [List.length_range]; omega)]
    by_cases hk : k = i
    · rw [if_pos hk, if_neg (by omega)]; rfl
    · rw [if_neg hk]; rfl
theorem am_Wf.keep {L : Nat} {xs : Nat → Int32} {M M' : am_M} (h : am_Wf L xs M) {a : Nat} (ha : 20 ≤ a) (hK : am_K M' = am_K M) (hn : am_n M' = am_n M) (hI : ∀ q, q ≠ a → am_I M' q = am_I M q) (hJ : ∀ q, q ≠ a → am_J M' q = am_J M q) (hc : ∀ b k, am_R M' b k = 0 ∨ (20 ≤ am_R M' b k ∧ am_R M' b k < am_n M)) : am_Wf L xs M' := by
  obtain ⟨w1, w2, w3, w4, w5⟩ := h
  unfold am_Wf
  rw [hn, hK]
  exact ⟨w1, w2, fun r hr => ⟨(w3 r hr).1, by rw [hI r (by omega)]; exact (w3 r hr).2.1, by rw [hJ r (by omega)]; exact (w3 r hr).2.2⟩, w4, hc⟩
theorem am_Rel.keep {L : Nat} {xs : Nat → Int32} {D : va_G} {γ : Nat → Value} {g : Nat → Nat} {cA : Nat → ClassId} {tys : List (ClassId × FieldType)} {A : Nat → Prop} {H : Heap} {locs : List Loc} {s : State} {M M' : am_M} (hR : am_Rel L xs D γ g cA tys A H locs s M) {a : Nat} (ha : 20 ≤ a) (hK : am_K M' = am_K M) (hn : am_n M' = am_n M)
    (hI : ∀ q, q ≠ a → am_I M' q = am_I M q) (hJ : ∀ q, q ≠ a → am_J M' q = am_J M q) (hRr : ∀ q, q ≠ a → am_R M' q = am_R M q) (hc : ∀ k, am_R M' a k = 0 ∨ (20 ≤ am_R M' a k ∧ am_R M' a k < am_n M)) {e' : va_E} (he : am_e g cA M' a = e') {H1 : Heap} {locs1 : List Loc}
    (hP : va_P D am_cl ((am_ws g cA M).set (a - 20) (g a, e')) H1) (hD : va_D A ((am_ws g cA M).set (a - 20) (g a, e'))) (hS : va_S A s.heap H1 locs1) : am_Rel L xs D γ g cA tys A H1 locs1 s M' := by
  obtain ⟨r1, r2, r3, r4, r5, r6, r7, r8, r9⟩ := hR
  have hw : am_ws g cA M' = (am_ws g cA M).set (a - 20) (g a, e') := by
    rw [← he]
    exact am_ws_set ha hn (fun q _ _ hq => am_e_congr (by rw [hK]) (hI q hq) (hJ q hq) (hRr q hq))
  refine ⟨r1, by rw [hw]; exact hP, by rw [hw]; exact hD, hS, r5, r6, r7, r8.keep ha hK hn hI hJ (fun b k => ?_), ?_⟩
  · by_cases hb : b = a
    · rw [hb]; exact hc k
    · rw [hRr b hb]; exact r8.2.2.2.2 b k
  · unfold am_tyOk
    rw [hn, hK]
    exact r9
theorem am_map_ext {γ γ' : Nat → Value} {n : Nat} {l : List Value} (h : ∀ r, r < n → γ' r = γ r) (hl : ∀ v ∈ l, am_vo n v) : l.map (am_cv γ') = l.map (am_cv γ) := by
  apply List.map_congr_left
  intro v hv
  have hvo := hl v hv
  cases v with
  | ref r => exact h r hvo.1
  | retAddr r => exact h 16 hvo
  | _ => rfl
theorem am_lr.ext {γ γ' : Nat → Value} {n nL : Nat} {l : List Value} {ls : Array Slot} (h : ∀ r, r < n → γ' r = γ r) (hv : ∀ v ∈ l, am_vo n v) (hl : am_lr γ nL l ls) : am_lr γ' nL l ls := by
  refine ⟨hl.1, hl.2.1, hl.2.2.1, fun i hi => ?_⟩
  rw [hl.2.2.2 i hi]
  have hvo := am_lg_vo l i hv
  generalize am_lg l i = v at hvo
  cases v with
  | ref r => rw [show am_cv γ' (.ref r) = am_cv γ (.ref r) from h r hvo.1]
  | retAddr r => rw [show am_cv γ' (.retAddr r) = am_cv γ (.retAddr r) from h 16 hvo]
  | _ => rfl
theorem am_vo_le {n n' : Nat} (h : n ≤ n') {l : List Value} (hl : ∀ v ∈ l, am_vo n v) : ∀ v ∈ l, am_vo n' v := by
  intro v hv
  have hvo := hl v hv
  cases v with
  | ref r => exact ⟨Nat.lt_of_lt_of_le hvo.1 h, hvo.2⟩
  | retAddr r => exact Nat.lt_of_lt_of_le hvo h
  | _ => trivial
theorem am_opt_ext {g g' : Nat → Nat} {n v : Nat} (h : ∀ q, 20 ≤ q → q < n → g' q = g q) (hv : v = 0 ∨ (20 ≤ v ∧ v < n)) : am_opt g' v = am_opt g v := by
  unfold am_opt
  rcases hv with rfl | ⟨h1, h2⟩
  · rfl
  · rw [h v h1 h2]
theorem am_e_grow {g g' : Nat → Nat} {cA cA' : Nat → ClassId} {M M' : am_M} {q : Nat} (hg : ∀ q, 20 ≤ q → q < am_n M → g' q = g q) (hcA : cA' q = cA q) (hc : ∀ b k, am_R M b k = 0 ∨ (20 ≤ am_R M b k ∧ am_R M b k < am_n M)) (hK : am_K M' q = am_K M q) (hI : am_I M' q = am_I M q) (hJ : am_J M' q = am_J M q) (hR : am_R M' q = am_R M q) : am_e g' cA' M' q = am_e g cA M q := by
  unfold am_e am_fs
  have hf : am_fv g' M' (am_K M q).1 q = am_fv g M (am_K M q).1 q := by
    funext k
    unfold am_fv
    rw [hI, hJ, hR, am_opt_ext hg (hc q k)]
  have ho : (fun j => am_opt g' (am_R M q j)) = (fun j => am_opt g (am_R M q j)) := by
    funext j
    exact am_opt_ext hg (hc q j)
  rw [hK, hI, hJ, hR, hf, hcA, ho]
/-- a new cell: at the machine's address q -/
theorem am_Rel.grow {L : Nat} {xs : Nat → Int32} {D : va_G} {γ : Nat → Value} {g : Nat → Nat} {cA : Nat → ClassId} {tys tys' : List (ClassId × FieldType)} {A : Nat → Prop} {H : Heap} {locs : List Loc} {s : State} {M : am_M} (hR : am_Rel L xs D γ g cA tys A H locs s M) {t len q : Nat} {cq : ClassId} {e' : va_E}
    (ht : (∃ q, am_cl[t]? = some q ∧ q.2.2 = len) ∨ (20 ≤ t ∧ t ≤ 24) ∨ (30 ≤ t ∧ t < 39)) (htys : ∀ (k : Nat) (x : ClassId × FieldType), tys[k]? = some x → ∃ k' : Nat, tys'[k']? = some x) (hty2 : 20 ≤ t → ∃ t0 : Nat, tys'[t0]? = some (cq, am_et t))
    (he : am_e (fun r => if r = am_n M then q else g r) (fun r => if r = am_n M then cq else cA r) (am_new M t len) (am_n M) = e') {H1 : Heap}
    (hK : va_K D am_cl tys' s) (hP : va_P D am_cl (am_ws g cA M ++ [(q, e')]) H1) (hD : va_D A (am_ws g cA M ++ [(q, e')])) (hS : va_S A s.heap H1 locs) :
    am_Rel L xs D (fun r => if r = am_n M then .ref q else γ r) (fun r => if r = am_n M then q else g r) (fun r => if r = am_n M then cq else cA r) tys' A H1 locs s (am_new M t len) := by
  obtain ⟨r1, r2, r3, r4, r5, r6, r7, ⟨w1, w2, w3, w4, w5⟩, r9⟩ := hR
  have kK : ∀ q : Nat, q ≠ am_n M → am_K (am_new M t len) q = am_K M q := fun q hq => if_neg hq
  have kI : ∀ q : Nat, q ≠ am_n M → am_I (am_new M t len) q = am_I M q := fun q hq => by funext j; exact if_neg hq
  have kJ : ∀ q : Nat, q ≠ am_n M → am_J (am_new M t len) q = am_J M q := fun q hq => by funext j; exact if_neg hq
  have kR : ∀ q : Nat, q ≠ am_n M → am_R (am_new M t len) q = am_R M q := fun q hq => by funext j; exact if_neg hq
  have kKn : am_K (am_new M t len) (am_n M) = (t, len) := if_pos rfl
  have hw : am_ws (fun r => if r = am_n M then q else g r) (fun r => if r = am_n M then cq else cA r) (am_new M t len) = am_ws g cA M ++ [(q, e')] := by
    rw [am_ws_new (g := g) (cA := cA) (M := M) w1 rfl (fun i h1 h2 => ⟨if_neg (by omega), am_e_grow (fun j _ hj => if_neg (by omega)) (if_neg (by omega)) w5 (kK i (by omega)) (kI i (by omega)) (kJ i (by omega)) (kR i (by omega))⟩), he]
    simp only [if_true]
  refine ⟨hK, by rw [hw]; exact hP, by rw [hw]; exact hD, hS, r5, r6.eqγ (fun r hr => if_neg (by omega)), fun r hr => ?_, ⟨?_, ?_, ?_, ?_, ?_⟩, ?_⟩
  · by_cases e : r = am_n M
    · simp only [if_pos e]
    · simp only [if_neg e]; exact r7 r hr
  · exact Nat.le_succ_of_le w1
  · intro r hr
    have hr : am_n M + 1 ≤ r := hr
    rw [kK r (by omega)]
    exact w2 r (by omega)
  · intro r hr
    rw [kK r (by omega), kI r (by omega), kJ r (by omega)]
    exact w3 r hr
  · intro r h1 h2
    have h2 : r < am_n M + 1 := h2
    by_cases e : r = am_n M
    · rw [e, kKn]; exact ht
    · rw [kK r e]; exact w4 r h1 (by omega)
  · intro b k
    show am_R (am_new M t len) b k = 0 ∨ (20 ≤ am_R (am_new M t len) b k ∧ am_R (am_new M t len) b k < am_n M + 1)
    by_cases e : b = am_n M
    · left; rw [e]; exact if_pos rfl
    · rw [kR b e]
      rcases w5 b k with z | ⟨z1, z2⟩
      · exact Or.inl z
      · exact Or.inr ⟨z1, by omega⟩
  · intro r h1 h2 h3
    have h2 : r < am_n M + 1 := h2
    by_cases e : r = am_n M
    · rw [e, kKn] at h3 ⊢
      simp only [if_true]
      exact hty2 h3
    · rw [kK r e] at h3 ⊢
      simp only [if_neg e]
      obtain ⟨t0, ht0⟩ := r9 r h1 (by omega) h3
      exact htys t0 _ ht0
end AM6
