/-! calls; and the whole: a run of the abstract machine is one of the machine -/
section AM10
theorem am_Rel.same {L : Nat} {xs : Nat → Int32} {D : va_G} {γ : Nat → Value} {g : Nat → Nat} {cA : Nat → ClassId} {tys : List (ClassId × FieldType)} {A : Nat → Prop} {H : Heap} {locs : List Loc} {s U : State} {M : am_M} (h : am_Rel L xs D γ g cA tys A H locs s M) (e1 : U.heap = s.heap) (hW : s.WarmedH U.vm) : am_Rel L xs D γ g cA tys A H locs U M := by
  obtain ⟨r1, r2, r3, r4, r5, r6, r7, r8, r9⟩ := h
  exact ⟨va_K.moved hW.alike r1, r2, r3, by rw [e1]; exact r4, by rw [e1]; exact r5, by rw [e1]; exact r6.goes hW (fun _ _ _ => rfl) (fun _ h => h), r7, r8, r9⟩
theorem am_Pc_blind {L : Nat} {xs : Nat → Int32} {D : va_G} {γ : Nat → Value} {g : Nat → Nat} {cA : Nat → ClassId} {tys : List (ClassId × FieldType)} {sz : Nat} {as : List Value} {M : am_M} : FrameBlind (am_Pc L xs D γ g cA tys sz as M) := by
  intro a U gf mk q
  obtain ⟨q0, q1, q2, q3⟩ := q
  exact ⟨q0, q1, am_Rel.same (U := U.calling gf mk a) q2 rfl (State.WarmedH.refl U), q3⟩
theorem am_freeA {L : Nat} {xs : Nat → Int32} {D : va_G} {γ : Nat → Value} {g : Nat → Nat} {cA : Nat → ClassId} {tys : List (ClassId × FieldType)} {A : Nat → Prop} {H : Heap} {locs : List Loc} {s : State} {M : am_M} (h : am_Rel L xs D γ g cA tys A H locs s M) : ∀ q, va_A (am_ws g cA M) H.size q → A q := by
  obtain ⟨-, -, r3, r4, r5, -⟩ := h
  rintro q (⟨k, e, hk⟩ | hq)
  · exact r3.2 k (q, e) hk
  · exact r5 q (Nat.le_trans r4.1 hq)
/-- what a callee finds -/
theorem am_Pc_at {L : Nat} {xs : Nat → Int32} {D : va_G} {γ : Nat → Value} {g : Nat → Nat} {cA : Nat → ClassId} {tys : List (ClassId × FieldType)} {A : Nat → Prop} {H : Heap} {locs : List Loc} {s : State} {M : am_M} (h : am_Rel L xs D γ g cA tys A H locs s M) {as : List Value} (has : ∀ v ∈ as, am_vo (am_n M) v) : ∀ U : State, U.heap = H → s.WarmedH U.vm → am_Pc L xs D γ g cA tys H.size as M (as.map (am_cv γ)).toArray U := by
  intro U hU hW
  have hf := am_freeA h
  obtain ⟨r1, r2, r3, r4, r5, r6, r7, r8, r9⟩ := h
  refine ⟨rfl, by rw [hU], ⟨va_K.moved hW.alike r1, by rw [hU]; exact r2, r3.self, by rw [hU]; exact va_S.rf, fun q hq => Or.inr (by rw [← hU]; exact hq), ?_, r7, r8, r9⟩, has⟩
  rw [hU]
  exact r6.goes hW r4.2.1 hf
section VC
variable {p : Program} {l : Launch} {e : Env} {R : Room} {s : State} {m : MethodId} {args : Array Value} {below : List Frame} {meth : Method} {c : Code} {H : Heap} {locs : List Loc} {cells slots : Nat} {Q : State → Prop}
variable {pc : Nat} {ls : Array Slot} {rest st0 : List Value} {a : Array Value} {A : Nat → Prop} {mc ms : Nat}
/-- behind a call -/
theorem am_back {L : Nat} {xs : Nat → Int32} {D : va_G} {γ : Nat → Value} {g : Nat → Nat} {cA : Nat → ClassId} {tys : List (ClassId × FieldType)} {M M' : am_M} {v : Option Value} (hR : am_Rel L xs D γ g cA tys A H locs s M)
    (hr : va_Run p l e R s m args below meth c H locs cells slots mc ms (F0 m pc ls st0) rest (am_Qc L xs D γ (va_A (am_ws g cA M) H.size) (am_n M) v M' a) (va_A (am_ws g cA M) H.size))
    (kk : ∀ γ' g' cA' tys' H1 locs1, am_Rel L xs D γ' g' cA' tys' A H1 locs1 s M' → (∀ r, r < am_n M → γ' r = γ r) → (∀ w, v = some w → am_vo (am_n M') w) → W p l e R s m args below meth c H1 locs1 (cells + mc) (slots + ms) Q (F0 m (pc + 3) ls ((v.map (am_cv γ')).toList ++ rest))) : W p l e R s m args below meth c H locs cells slots Q (F0 m pc ls st0) := by
  intro T hT X
  have hf := am_freeA hR
  obtain ⟨r1, r2, r3, r4, r5, r6, r7, r8, r9⟩ := hR
  obtain ⟨v1, st₀, t, T', Lc, h0, X', hL, e1, e2, ⟨⟨γ', g', cA', tys', hv, q1, q2, q3, q4, q5, q6, q7, q8⟩, hz, hk⟩, st⟩ := hr T hT X
  have hv1 : v1 = v.map (am_cv γ') := by injection hv
  subst hv1
  rw [h0] at hz hk
  have hal : s.vm.Alike t.vm := by rw [← e2]; exact X'.warmed.alike
  have hS1 : va_S A s.heap T'.heap (locs ++ Lc) := ⟨Nat.le_trans r4.1 (by rw [e1]; exact hz), fun q h1 h2 => by rw [e1, hk q (Nat.lt_of_lt_of_le h1 r4.1) (fun z => h2 (hf q z))]; exact r4.2.1 q h1 h2, fun q hq => by
      rcases List.mem_append.mp hq with h | h
      · exact r4.2.2 q h
      · exact hf _ (hL q h)⟩
  obtain ⟨t2, a1, b1⟩ := kk γ' g' cA' tys' T'.heap (locs ++ Lc) ⟨va_K.moved hal.symm q2, by rw [e1]; exact q3, q4.weaken (fun _ q _ h => hf q.1 h), hS1, r5, r6.eqγ (fun r hr => q1 r (Nat.lt_of_lt_of_le hr r8.1)), q5, q6, q7⟩ q1 q8 T' rfl X'
  exact ⟨t2, st t2 a1, b1⟩
end VC
theorem am_tk_spec : ∀ (k : Nat) (st acc as r : List Value), am_tk k st acc = some (as, r) → ∃ p : List Value, st = p ++ r ∧ as = p.reverse ++ acc ∧ p.length = k
  | 0, st, acc, as, r, h => by
    cases h
    exact ⟨[], rfl, rfl, rfl⟩
  | k + 1, [], acc, as, r, h => by cases h
  | k + 1, v :: st, acc, as, r, h => by
    obtain ⟨p, h1, h2, h3⟩ := am_tk_spec k st (v :: acc) as r h
    exact ⟨v :: p, by rw [h1]; rfl, by rw [h2]; simp, by simp [h3]⟩
theorem am_gw {w : Cond} (h : w ∈ am_words) : w ∈ am_words ∧ ((w.onTables && w.keeps) = true ∨ ∃ ty, w = .arrayClass ty) := ⟨h, good_of_word (List.mem_filter.mp h).2⟩
theorem am_gz {tb : am_Tb} {z : Nat} (hc : Cond.code (tb.1 z) (tb.2.1 z) (tb.2.2.1 z) (tb.2.2.2.1 z) ∈ am_words) : GoodIn am_words (am_wz tb z) := by
  intro w hw
  rcases List.mem_cons.mp hw with rfl | hw
  · exact am_gw hc
  · exact am_gw hw
variable {tb : am_Tb} {cc : ByteArray} {own : String} {mL : Nat} {rt : Option FieldType} {ini : Bool} {pc : Nat}
theorem am_k40 {L : Nat} {xs : Nat → Int32} {M : am_M} (hw : am_Wf L xs M) {a : Nat} (ha : am_K M a = (40, 0)) : ∃ i : Nat, i < 6 ∧ a = 1 + i := by
  have ha1 : (am_K M a).1 = 40 := by rw [ha]
  have hlt : a < 20 := by
    rcases Nat.lt_or_ge a 20 with q | q
    · exact q
    · rcases Nat.lt_or_ge a (am_n M) with q2 | q2
      · rcases hw.2.2.2.1 a q q2 with ⟨x, hx, -⟩ | z | z
        · have := (List.getElem?_eq_some_iff.mp hx).1
          rw [ha1] at this
          exact absurd this (by decide)
        · omega
        · omega
      · rw [hw.2.1 a q2] at ha; cases ha
  obtain ⟨k1, -⟩ := hw.2.2.1 a hlt
  rw [k1] at ha1
  unfold am_fK at ha1
  by_cases e1 : 1 ≤ a ∧ a ≤ 6
  · exact ⟨a - 1, by omega, by omega⟩
  · rw [if_neg e1] at ha1
    by_cases e2 : 7 ≤ a ∧ a ≤ 12
    · rw [if_pos e2] at ha1; exact absurd (show (52 : Nat) = 40 from ha1) (by decide)
    · rw [if_neg e2] at ha1
      by_cases e3 : a = 13
      · rw [if_pos e3] at ha1; exact absurd (show (50 : Nat) = 40 from ha1) (by decide)
      · rw [if_neg e3] at ha1
        by_cases e4 : a = 14
        · rw [if_pos e4] at ha1; exact absurd (show (50 : Nat) = 40 from ha1) (by decide)
        · rw [if_neg e4] at ha1
          by_cases e5 : a = 15
          · rw [if_pos e5] at ha1; exact absurd (show (54 : Nat) = 40 from ha1) (by decide)
          · rw [if_neg e5] at ha1; exact absurd (show (99 : Nat) = 40 from ha1) (by decide)
theorem ok_cs {z mZ b k np idx : Nat} (hd : decode cc pc = .ok (.invokestatic idx, 3)) (hw1 : Cond.methodLink own idx (tb.1 z) ∈ am_words) (hw2 : Cond.static (tb.1 z) ∈ am_words) (hw3 : Cond.initialized (tb.1 z).cls ∈ am_words) (hw4 : Cond.code (tb.1 z) (tb.2.1 z) (tb.2.2.1 z) (tb.2.2.2.1 z) ∈ am_words) (hmZ : tb.2.2.1 z = mZ) (hm41 : mZ ≤ 41) (hy : (tb.1 z).cls ≠ "java/lang/invoke/MethodHandle" ∧ (tb.1 z).cls ≠ "java/lang/invoke/VarHandle" ∧ (parseMethodDescriptor (tb.1 z).desc).map (fun d => d.parameters.length) = some k) (hn : np = pc + 3) : am_ok tb cc own mL rt ini pc (o_cs z mZ b k np) := by
  intro X f M hF hpc
  obtain ⟨p, l, e, R, s, m, args, below, meth, c, Q, L, xs, D, A, n0, s0, γ0, N', S⟩ := X
  obtain ⟨hx, hb, hml, hown, hts, hlk, hini, hNc, hSc⟩ := hF
  obtain ⟨z0, b0, pc', l', st⟩ := f
  dsimp only at hpc
  subst hpc
  subst hn
  unfold o_cs
  dsimp only
  split
  · rename_i as r heq
    cases hcat : ((Nat.blt b b0 && Nat.ble (am_cats r) 8) && Nat.ble (am_ar as).length mZ) with
    | false => rw [am_bf rfl]; trivial
    | true =>
      rw [am_bt rfl]
      obtain ⟨hcat, hc3⟩ := Bool.and_eq_true_iff.mp hcat
      obtain ⟨hc1, hc2⟩ := Bool.and_eq_true_iff.mp hcat
      have hbl : b < b0 := Nat.le_of_ble_eq_true hc1
      have hle := Nat.le_of_ble_eq_true hc2
      refine ⟨by rw [hmZ], by rw [hmZ]; exact Nat.le_of_ble_eq_true hc3, fun hsp v M' hM hn1 hn2 hn3 hn4 hG γ g cA tys H locs ls hR hl hc hγ h1 h2 h3 h4 h5 h6 => ?_⟩
      obtain ⟨pp, hst, has, hpl⟩ := am_tk_spec k st [] as r heq
      have has : as = pp.reverse := by rw [has, List.append_nil]
      subst hst
      subst has
      have h5 : b0 + 1 ≤ R.frames := h5
      have h6 : 60 * (b0 + 1) ≤ R.locals := h6
      have hn1 : am_n M' ≤ N' := hn1
      have hn2 : am_s M' ≤ S := hn2
      have hca := am_cats_eq (am_γrf hR.2.2.2.2.2.1 hR.2.2.2.2.2.2.1) r
      have hvs : ∀ v ∈ pp.reverse, am_vo (am_n M) v := fun v hv => hc.2 v (List.mem_append_left _ (List.mem_reverse.mp hv))
      have hrv : ∀ v ∈ r, am_vo (am_n M) v := fun v hv => hc.2 v (List.mem_append_right _ hv)
      have hM : Met l (tb.1 z) (am_wz tb z) _ (am_Pc L xs D γ g cA tys H.size pp.reverse M) _ _ _ _ := hM γ g cA tys H.size
      refine am_back (m := m) (st0 := (pp ++ r).map (am_cv γ)) (rest := r.map (am_cv γ)) (cells := am_n M - n0) (slots := am_s M - s0) hR
        (va_runS (S := ⟨hx, hb, rfl, hown, hts⟩) (As := pp.reverse.map (am_cv γ)) (rest := r.map (am_cv γ)) hM (va_cwS (ws' := am_words) k hts (by
          intro w hw
          simp only [va_wsS, List.mem_append, List.mem_cons, List.not_mem_nil, or_false] at hw
          rcases hw with (rfl | rfl | rfl) | hw
          · exact am_gw hw1
          · exact am_gw hw2
          · exact am_gw hw3
          · exact am_gz hw4 w hw) rfl rfl rfl hy ⟨by show b + 1 + 1 ≤ R.frames; omega, by show 8 + (tb.2.2.1 z + 11) + 60 * (b + 1) ≤ R.locals; rw [hmZ]; omega⟩)
          ⟨am_Pc_blind, am_Pc_at hR hvs⟩ rfl (by rw [List.length_map, List.length_reverse, hpl]) hl.1 (by rw [List.map_append, ← List.map_reverse, List.reverse_reverse]) (lv_room (by rw [hca]; exact hle)) hd ⟨by omega, by omega⟩) ?_
      intro γ' g' cA' tys' H1 locs1 hR1 hγ1 hv1
      rw [show am_n M - n0 + (am_n M' - am_n M) = am_n M' - n0 by omega, show am_s M - s0 + (am_s M' - am_s M) = am_s M' - s0 by omega]
      have k9 := hG γ' g' cA' tys' H1 locs1 ls hR1 (hl.ext hγ1 hc.1) ⟨am_vo_le hn3 hc.1, by
        cases v with
        | none => exact am_vo_le hn3 hrv
        | some w => exact am_cn1 (hv1 w rfl) (am_vo_le hn3 hrv)⟩ (fun q hq => (hγ1 q (Nat.lt_of_lt_of_le hq h1)).trans (hγ q hq)) (Nat.le_trans h1 hn3) (Nat.le_trans h2 hn4) hn1 hn2 h5 h6
      rw [← am_map_ext hγ1 hrv]
      cases v with
      | none => exact k9
      | some w => exact k9
  · trivial
theorem ok_csN {z mZ b k np idx : Nat} {host : String} (hd : decode cc pc = .ok (.invokestatic idx, 3)) (hw1 : Cond.methodLinkNest own idx (tb.1 z) host ∈ am_nw) (hw2 : Cond.static (tb.1 z) ∈ am_words) (hw3 : Cond.initialized (tb.1 z).cls ∈ am_words) (hw4 : Cond.code (tb.1 z) (tb.2.1 z) (tb.2.2.1 z) (tb.2.2.2.1 z) ∈ am_words) (hmZ : tb.2.2.1 z = mZ) (hm41 : mZ ≤ 41) (hy : (tb.1 z).cls ≠ "java/lang/invoke/MethodHandle" ∧ (tb.1 z).cls ≠ "java/lang/invoke/VarHandle" ∧ (parseMethodDescriptor (tb.1 z).desc).map (fun d => d.parameters.length) = some k) (hn : np = pc + 3) : am_ok tb cc own mL rt ini pc (o_cs z mZ b k np) := by
  intro X f M hF hpc
  obtain ⟨p, l, e, R, s, m, args, below, meth, c, Q, L, xs, D, A, n0, s0, γ0, N', S⟩ := X
  obtain ⟨hx, hb, hml, hown, hts, hlk, hini, hNc, hSc⟩ := hF
  obtain ⟨z0, b0, pc', l', st⟩ := f
  dsimp only at hpc
  subst hpc
  subst hn
  unfold o_cs
  dsimp only
  split
  · rename_i as r heq
    cases hcat : ((Nat.blt b b0 && Nat.ble (am_cats r) 8) && Nat.ble (am_ar as).length mZ) with
    | false => rw [am_bf rfl]; trivial
    | true =>
      rw [am_bt rfl]
      obtain ⟨hcat, hc3⟩ := Bool.and_eq_true_iff.mp hcat
      obtain ⟨hc1, hc2⟩ := Bool.and_eq_true_iff.mp hcat
      have hbl : b < b0 := Nat.le_of_ble_eq_true hc1
      have hle := Nat.le_of_ble_eq_true hc2
      refine ⟨by rw [hmZ], by rw [hmZ]; exact Nat.le_of_ble_eq_true hc3, fun hsp v M' hM hn1 hn2 hn3 hn4 hG γ g cA tys H locs ls hR hl hc hγ h1 h2 h3 h4 h5 h6 => ?_⟩
      obtain ⟨pp, hst, has, hpl⟩ := am_tk_spec k st [] as r heq
      have has : as = pp.reverse := by rw [has, List.append_nil]
      subst hst
      subst has
      have h5 : b0 + 1 ≤ R.frames := h5
      have h6 : 60 * (b0 + 1) ≤ R.locals := h6
      have hn1 : am_n M' ≤ N' := hn1
      have hn2 : am_s M' ≤ S := hn2
      have hca := am_cats_eq (am_γrf hR.2.2.2.2.2.1 hR.2.2.2.2.2.2.1) r
      have hvs : ∀ v ∈ pp.reverse, am_vo (am_n M) v := fun v hv => hc.2 v (List.mem_append_left _ (List.mem_reverse.mp hv))
      have hrv : ∀ v ∈ r, am_vo (am_n M) v := fun v hv => hc.2 v (List.mem_append_right _ hv)
      have hM : Met l (tb.1 z) (am_wz tb z) _ (am_Pc L xs D γ g cA tys H.size pp.reverse M) _ _ _ _ := hM γ g cA tys H.size
      refine am_back (m := m) (st0 := (pp ++ r).map (am_cv γ)) (rest := r.map (am_cv γ)) (cells := am_n M - n0) (slots := am_s M - s0) hR
        (va_runSN (S := ⟨hx, hb, rfl, hown, hts⟩) (As := pp.reverse.map (am_cv γ)) (rest := r.map (am_cv γ)) hM ⟨va_cnB (ws' := am_words) k hts (am_gz hw4) rfl rfl rfl (hR.2.2.2.2.2.1.nw hw1) (hts _ hw3) hy ⟨by show b + 1 + 1 ≤ R.frames; omega, by show 8 + (tb.2.2.1 z + 11) + 60 * (b + 1) ≤ R.locals; rw [hmZ]; omega⟩, hts _ hw2, trivial⟩
          ⟨am_Pc_blind, am_Pc_at hR hvs⟩ rfl (by rw [List.length_map, List.length_reverse, hpl]) hl.1 (by rw [List.map_append, ← List.map_reverse, List.reverse_reverse]) (lv_room (by rw [hca]; exact hle)) hd ⟨by omega, by omega⟩) ?_
      intro γ' g' cA' tys' H1 locs1 hR1 hγ1 hv1
      rw [show am_n M - n0 + (am_n M' - am_n M) = am_n M' - n0 by omega, show am_s M - s0 + (am_s M' - am_s M) = am_s M' - s0 by omega]
      have k9 := hG γ' g' cA' tys' H1 locs1 ls hR1 (hl.ext hγ1 hc.1) ⟨am_vo_le hn3 hc.1, by
        cases v with
        | none => exact am_vo_le hn3 hrv
        | some w => exact am_cn1 (hv1 w rfl) (am_vo_le hn3 hrv)⟩ (fun q hq => (hγ1 q (Nat.lt_of_lt_of_le hq h1)).trans (hγ q hq)) (Nat.le_trans h1 hn3) (Nat.le_trans h2 hn4) hn1 hn2 h5 h6
      rw [← am_map_ext hγ1 hrv]
      cases v with
      | none => exact k9
      | some w => exact k9
  · trivial
theorem ok_cv {ci N z mZ b k np idx : Nat} {C : String} {T : u_T} (hd : decode cc pc = .ok (.invokevirtual idx, 3)) (hcl : am_cl[ci]? = some (C, T, N)) (hc20 : ci < 20) (hw1 : Cond.methodLink own idx (tb.1 z) ∈ am_words) (hw2 : Cond.instanceMethod (tb.1 z) ∈ am_words) (hw3 : Cond.selects C (tb.1 z) (tb.1 z) ∈ am_words) (hw5 : Cond.initialized C ∈ am_words) (hw4 : Cond.code (tb.1 z) (tb.2.1 z) (tb.2.2.1 z) (tb.2.2.2.1 z) ∈ am_words) (hmZ : tb.2.2.1 z = mZ) (hm41 : mZ ≤ 41) (hy : (tb.1 z).cls = C ∧ (tb.1 z).cls ≠ "java/lang/invoke/MethodHandle" ∧ (tb.1 z).cls ≠ "java/lang/invoke/VarHandle" ∧ (parseMethodDescriptor (tb.1 z).desc).map (fun d => d.parameters.length) = some k) (hn : np = pc + 3) : am_ok tb cc own mL rt ini pc (o_cv ci N z mZ b k np) := by
  intro X f M hF hpc
  obtain ⟨p, l, e, R, s, m, args, below, meth, c, Q, L, xs, D, A, n0, s0, γ0, N', S⟩ := X
  obtain ⟨hx, hb, hml, hown, hts, hlk, hini, hNc, hSc⟩ := hF
  obtain ⟨z0, b0, pc', l', st⟩ := f
  dsimp only at hpc
  subst hpc
  subst hn
  unfold o_cv
  dsimp only
  split
  · rename_i as a r heq
    cases hcat : ((Nat.blt b b0 && Nat.ble (am_cats r) 8) && Nat.ble (am_ar (.ref a :: as)).length mZ) with
    | false => rw [am_bf rfl]; trivial
    | true =>
      rw [am_bt rfl]
      obtain ⟨hcat, hc3⟩ := Bool.and_eq_true_iff.mp hcat
      obtain ⟨hc1, hc2⟩ := Bool.and_eq_true_iff.mp hcat
      have hbl : b < b0 := Nat.le_of_ble_eq_true hc1
      have hle := Nat.le_of_ble_eq_true hc2
      refine ⟨by rw [hmZ], by rw [hmZ]; exact Nat.le_of_ble_eq_true hc3, fun hsp v M' hM hn1 hn2 hn3 hn4 hG γ g cA tys H locs ls hR hl hc hγ h1 h2 h3 h4 h5 h6 => ?_⟩
      obtain ⟨pp, hst, has, hpl⟩ := am_tk_spec k st [] as (.ref a :: r) heq
      have has : as = pp.reverse := by rw [has, List.append_nil]
      subst hst
      subst has
      have h5 : b0 + 1 ≤ R.frames := h5
      have h6 : 60 * (b0 + 1) ≤ R.locals := h6
      have hn1 : am_n M' ≤ N' := hn1
      have hn2 : am_s M' ≤ S := hn2
      have hca := am_cats_eq (am_γrf hR.2.2.2.2.2.1 hR.2.2.2.2.2.2.1) r
      have hvs : ∀ v ∈ pp.reverse, am_vo (am_n M) v := fun v hv => hc.2 v (List.mem_append_left _ (List.mem_reverse.mp hv))
      have hrv : ∀ v ∈ r, am_vo (am_n M) v := fun v hv => hc.2 v (List.mem_append_right _ (List.mem_cons_of_mem _ hv))
      have hva : am_vo (am_n M) (.ref a) := hc.2 _ (List.mem_append_right _ List.mem_cons_self)
      have hM : Met l (tb.1 z) (am_wz tb z) _ (am_Pc L xs D γ g cA tys H.size (.ref a :: pp.reverse) M) _ _ _ _ := hM γ g cA tys H.size
      have hsp : am_K M a = (ci, N) := hsp
      obtain ⟨a1, a2⟩ := hR.2.2.2.2.2.2.2.1.own (a := a) (by rw [hsp]; show ci < 40; omega)
      have hga := hR.2.2.2.2.2.2.1 a a1
      have he := am_ws_get (g := g) (cA := cA) (M := M) a1 a2
      rw [am_e_obj hsp hc20] at he
      have hpcA := am_Pc_at hR (as := .ref a :: pp.reverse) (am_cn1 hva hvs)
      simp only [List.map_cons, am_cv, hga] at hpcA
      have hst9 : ((pp ++ .ref a :: r).map (am_cv γ)) = (pp.reverse.map (am_cv γ)).reverse ++ .ref (g a) :: r.map (am_cv γ) := by rw [List.map_append, ← List.map_reverse, List.reverse_reverse, List.map_cons, show am_cv γ (.ref a) = .ref (g a) from hga]
      refine am_back (m := m) (st0 := (pp ++ .ref a :: r).map (am_cv γ)) (rest := r.map (am_cv γ)) (cells := am_n M - n0) (slots := am_s M - s0) hR
        (va_runV (S := ⟨hx, hb, rfl, hown, hts⟩) (C := C) (As := pp.reverse.map (am_cv γ)) (rest := r.map (am_cv γ)) hM (cwV (ws' := am_words) k hts (by
          intro w hw
          simp only [wsV, List.mem_append, List.mem_cons, List.not_mem_nil, or_false] at hw
          rcases hw with (rfl | rfl | rfl | rfl) | hw
          · exact am_gw hw1
          · exact am_gw hw2
          · exact am_gw hw3
          · exact am_gw hw5
          · exact am_gz hw4 w hw) rfl rfl rfl hy ⟨by show b + 1 + 1 ≤ R.frames; omega, by show 8 + (tb.2.2.1 z + 11) + 60 * (b + 1) ≤ R.locals; rw [hmZ]; omega⟩)
          ⟨am_Pc_blind, va_recv hR.1 hR.2.1 hcl he, hpcA⟩ rfl (by rw [List.length_map, List.length_reverse, hpl]) hl.1 hst9 (lv_room (by rw [hca]; exact hle)) hd ⟨by omega, by omega⟩) ?_
      intro γ' g' cA' tys' H1 locs1 hR1 hγ1 hv1
      rw [show am_n M - n0 + (am_n M' - am_n M) = am_n M' - n0 by omega, show am_s M - s0 + (am_s M' - am_s M) = am_s M' - s0 by omega]
      have k9 := hG γ' g' cA' tys' H1 locs1 ls hR1 (hl.ext hγ1 hc.1) ⟨am_vo_le hn3 hc.1, by
        cases v with
        | none => exact am_vo_le hn3 hrv
        | some w => exact am_cn1 (hv1 w rfl) (am_vo_le hn3 hrv)⟩ (fun q hq => (hγ1 q (Nat.lt_of_lt_of_le hq h1)).trans (hγ q hq)) (Nat.le_trans h1 hn3) (Nat.le_trans h2 hn4) hn1 hn2 h5 h6
      rw [← am_map_ext hγ1 hrv]
      cases v with
      | none => exact k9
      | some w => exact k9
  · trivial
theorem ok_cvp {ci N z mZ b k np idx : Nat} {C : String} {T : u_T} (hd : decode cc pc = .ok (.invokevirtual idx, 3)) (hcl : am_cl[ci]? = some (C, T, N)) (hc20 : ci < 20) (hw1 : Cond.methodLink own idx (tb.1 z) ∈ am_words) (hw2 : Cond.instanceMethod (tb.1 z) ∈ am_words) (hw3 : Cond.selects C (tb.1 z) (tb.1 z) ∈ am_words) (hw5 : Cond.initialized C ∈ am_words) (hw4 : Cond.code (tb.1 z) (tb.2.1 z) (tb.2.2.1 z) (tb.2.2.2.1 z) ∈ am_words) (hmZ : tb.2.2.1 z = mZ) (hm41 : mZ ≤ 41) (hy : (tb.1 z).cls = C ∧ (tb.1 z).cls ≠ "java/lang/invoke/MethodHandle" ∧ (tb.1 z).cls ≠ "java/lang/invoke/VarHandle" ∧ (parseMethodDescriptor (tb.1 z).desc).map (fun d => d.parameters.length) = some k) (hn : np = pc + 3) : am_ok tb cc own mL rt ini pc (o_cvp ci N z mZ b k np) := by
  intro X f M hF hpc
  obtain ⟨p, l, e, R, s, m, args, below, meth, c, Q, L, xs, D, A, n0, s0, γ0, N', S⟩ := X
  obtain ⟨hx, hb, hml, hown, hts, hlk, hini, hNc, hSc⟩ := hF
  obtain ⟨z0, b0, pc', l', st⟩ := f
  dsimp only at hpc
  subst hpc
  subst hn
  unfold o_cvp
  dsimp only
  split
  · rename_i as a r heq
    cases hcat : (Nat.ble (am_cats r) 8 && Nat.ble (am_ar (.ref a :: as)).length mZ) with
    | false => rw [am_bf rfl]; trivial
    | true =>
      rw [am_bt rfl]
      obtain ⟨hcat, hc3⟩ := Bool.and_eq_true_iff.mp hcat
      have hle := Nat.le_of_ble_eq_true hcat
      refine ⟨by rw [hmZ], by rw [hmZ]; exact Nat.le_of_ble_eq_true hc3, fun hsp v M' hM hn1 hn2 hn3 hn4 hG γ g cA tys H locs ls hR hl hc hγ h1 h2 h3 h4 h5 h6 => ?_⟩
      have hbl : b < b0 := hsp.2
      have hsp := hsp.1
      obtain ⟨pp, hst, has, hpl⟩ := am_tk_spec k st [] as (.ref a :: r) heq
      have has : as = pp.reverse := by rw [has, List.append_nil]
      subst hst
      subst has
      have h5 : b0 + 1 ≤ R.frames := h5
      have h6 : 60 * (b0 + 1) ≤ R.locals := h6
      have hn1 : am_n M' ≤ N' := hn1
      have hn2 : am_s M' ≤ S := hn2
      have hca := am_cats_eq (am_γrf hR.2.2.2.2.2.1 hR.2.2.2.2.2.2.1) r
      have hvs : ∀ v ∈ pp.reverse, am_vo (am_n M) v := fun v hv => hc.2 v (List.mem_append_left _ (List.mem_reverse.mp hv))
      have hrv : ∀ v ∈ r, am_vo (am_n M) v := fun v hv => hc.2 v (List.mem_append_right _ (List.mem_cons_of_mem _ hv))
      have hva : am_vo (am_n M) (.ref a) := hc.2 _ (List.mem_append_right _ List.mem_cons_self)
      have hM : Met l (tb.1 z) (am_wz tb z) _ (am_Pc L xs D γ g cA tys H.size (.ref a :: pp.reverse) M) _ _ _ _ := hM γ g cA tys H.size
      have hsp : am_K M a = (ci, N) := hsp
      obtain ⟨a1, a2⟩ := hR.2.2.2.2.2.2.2.1.own (a := a) (by rw [hsp]; show ci < 40; omega)
      have hga := hR.2.2.2.2.2.2.1 a a1
      have he := am_ws_get (g := g) (cA := cA) (M := M) a1 a2
      rw [am_e_obj hsp hc20] at he
      have hpcA := am_Pc_at hR (as := .ref a :: pp.reverse) (am_cn1 hva hvs)
      simp only [List.map_cons, am_cv, hga] at hpcA
      have hst9 : ((pp ++ .ref a :: r).map (am_cv γ)) = (pp.reverse.map (am_cv γ)).reverse ++ .ref (g a) :: r.map (am_cv γ) := by rw [List.map_append, ← List.map_reverse, List.reverse_reverse, List.map_cons, show am_cv γ (.ref a) = .ref (g a) from hga]
      refine am_back (m := m) (st0 := (pp ++ .ref a :: r).map (am_cv γ)) (rest := r.map (am_cv γ)) (cells := am_n M - n0) (slots := am_s M - s0) hR
        (va_runV (S := ⟨hx, hb, rfl, hown, hts⟩) (C := C) (As := pp.reverse.map (am_cv γ)) (rest := r.map (am_cv γ)) hM (cwV (ws' := am_words) k hts (by
          intro w hw
          simp only [wsV, List.mem_append, List.mem_cons, List.not_mem_nil, or_false] at hw
          rcases hw with (rfl | rfl | rfl | rfl) | hw
          · exact am_gw hw1
          · exact am_gw hw2
          · exact am_gw hw3
          · exact am_gw hw5
          · exact am_gz hw4 w hw) rfl rfl rfl hy ⟨by show b + 1 + 1 ≤ R.frames; omega, by show 8 + (tb.2.2.1 z + 11) + 60 * (b + 1) ≤ R.locals; rw [hmZ]; omega⟩)
          ⟨am_Pc_blind, va_recv hR.1 hR.2.1 hcl he, hpcA⟩ rfl (by rw [List.length_map, List.length_reverse, hpl]) hl.1 hst9 (lv_room (by rw [hca]; exact hle)) hd ⟨by omega, by omega⟩) ?_
      intro γ' g' cA' tys' H1 locs1 hR1 hγ1 hv1
      rw [show am_n M - n0 + (am_n M' - am_n M) = am_n M' - n0 by omega, show am_s M - s0 + (am_s M' - am_s M) = am_s M' - s0 by omega]
      have k9 := hG γ' g' cA' tys' H1 locs1 ls hR1 (hl.ext hγ1 hc.1) ⟨am_vo_le hn3 hc.1, by
        cases v with
        | none => exact am_vo_le hn3 hrv
        | some w => exact am_cn1 (hv1 w rfl) (am_vo_le hn3 hrv)⟩ (fun q hq => (hγ1 q (Nat.lt_of_lt_of_le hq h1)).trans (hγ q hq)) (Nat.le_trans h1 hn3) (Nat.le_trans h2 hn4) hn1 hn2 h5 h6
      rw [← am_map_ext hγ1 hrv]
      cases v with
      | none => exact k9
      | some w => exact k9
  · trivial
theorem ok_cvr {ci N z mZ k np idx : Nat} {C : String} {T : u_T} (hd : decode cc pc = .ok (.invokevirtual idx, 3)) (hcl : am_cl[ci]? = some (C, T, N)) (hc20 : ci < 20) (hw1 : Cond.methodLink own idx (tb.1 z) ∈ am_words) (hw2 : Cond.instanceMethod (tb.1 z) ∈ am_words) (hw3 : Cond.selects C (tb.1 z) (tb.1 z) ∈ am_words) (hw5 : Cond.initialized C ∈ am_words) (hw4 : Cond.code (tb.1 z) (tb.2.1 z) (tb.2.2.1 z) (tb.2.2.2.1 z) ∈ am_words) (hmZ : tb.2.2.1 z = mZ) (hm41 : mZ ≤ 41) (hy : (tb.1 z).cls = C ∧ (tb.1 z).cls ≠ "java/lang/invoke/MethodHandle" ∧ (tb.1 z).cls ≠ "java/lang/invoke/VarHandle" ∧ (parseMethodDescriptor (tb.1 z).desc).map (fun d => d.parameters.length) = some k) (hn : np = pc + 3) : am_ok tb cc own mL rt ini pc (o_cvr ci N z mZ k np) := by
  intro X f M hF hpc
  obtain ⟨p, l, e, R, s, m, args, below, meth, c, Q, L, xs, D, A, n0, s0, γ0, N', S⟩ := X
  obtain ⟨hx, hb, hml, hown, hts, hlk, hini, hNc, hSc⟩ := hF
  obtain ⟨z0, b0, pc', l', st⟩ := f
  dsimp only at hpc
  subst hpc
  subst hn
  unfold o_cvr
  dsimp only
  split
  · rename_i as a r heq
    cases hcat : (Nat.ble (am_cats r) 8 && Nat.ble (am_ar (.ref a :: as)).length mZ) with
    | false => rw [am_bf rfl]; trivial
    | true =>
      rw [am_bt rfl]
      obtain ⟨hcat, hc3⟩ := Bool.and_eq_true_iff.mp hcat
      have hle := Nat.le_of_ble_eq_true hcat
      refine ⟨by rw [hmZ], by rw [hmZ]; exact Nat.le_of_ble_eq_true hc3, fun hsp v M' hM hn1 hn2 hn3 hn4 hG γ g cA tys H locs ls hR hl hc hγ h1 h2 h3 h4 h5 h6 => ?_⟩
      have hbl : 0 < b0 := hsp.2
      have hsp := hsp.1
      obtain ⟨pp, hst, has, hpl⟩ := am_tk_spec k st [] as (.ref a :: r) heq
      have has : as = pp.reverse := by rw [has, List.append_nil]
      subst hst
      subst has
      have h5 : b0 + 1 ≤ R.frames := h5
      have h6 : 60 * (b0 + 1) ≤ R.locals := h6
      have hn1 : am_n M' ≤ N' := hn1
      have hn2 : am_s M' ≤ S := hn2
      have hca := am_cats_eq (am_γrf hR.2.2.2.2.2.1 hR.2.2.2.2.2.2.1) r
      have hvs : ∀ v ∈ pp.reverse, am_vo (am_n M) v := fun v hv => hc.2 v (List.mem_append_left _ (List.mem_reverse.mp hv))
      have hrv : ∀ v ∈ r, am_vo (am_n M) v := fun v hv => hc.2 v (List.mem_append_right _ (List.mem_cons_of_mem _ hv))
      have hva : am_vo (am_n M) (.ref a) := hc.2 _ (List.mem_append_right _ List.mem_cons_self)
      have hM : Met l (tb.1 z) (am_wz tb z) _ (am_Pc L xs D γ g cA tys H.size (.ref a :: pp.reverse) M) _ _ _ _ := hM γ g cA tys H.size
      have hsp : am_K M a = (ci, N) := hsp
      obtain ⟨a1, a2⟩ := hR.2.2.2.2.2.2.2.1.own (a := a) (by rw [hsp]; show ci < 40; omega)
      have hga := hR.2.2.2.2.2.2.1 a a1
      have he := am_ws_get (g := g) (cA := cA) (M := M) a1 a2
      rw [am_e_obj hsp hc20] at he
      have hpcA := am_Pc_at hR (as := .ref a :: pp.reverse) (am_cn1 hva hvs)
      simp only [List.map_cons, am_cv, hga] at hpcA
      have hst9 : ((pp ++ .ref a :: r).map (am_cv γ)) = (pp.reverse.map (am_cv γ)).reverse ++ .ref (g a) :: r.map (am_cv γ) := by rw [List.map_append, ← List.map_reverse, List.reverse_reverse, List.map_cons, show am_cv γ (.ref a) = .ref (g a) from hga]
      refine am_back (m := m) (st0 := (pp ++ .ref a :: r).map (am_cv γ)) (rest := r.map (am_cv γ)) (cells := am_n M - n0) (slots := am_s M - s0) hR
        (va_runV (S := ⟨hx, hb, rfl, hown, hts⟩) (C := C) (As := pp.reverse.map (am_cv γ)) (rest := r.map (am_cv γ)) hM (cwV (ws' := am_words) k hts (by
          intro w hw
          simp only [wsV, List.mem_append, List.mem_cons, List.not_mem_nil, or_false] at hw
          rcases hw with (rfl | rfl | rfl | rfl) | hw
          · exact am_gw hw1
          · exact am_gw hw2
          · exact am_gw hw3
          · exact am_gw hw5
          · exact am_gz hw4 w hw) rfl rfl rfl hy ⟨by show (b0 - 1) + 1 + 1 ≤ R.frames; omega, by show 8 + (tb.2.2.1 z + 11) + 60 * ((b0 - 1) + 1) ≤ R.locals; rw [hmZ]; omega⟩)
          ⟨am_Pc_blind, va_recv hR.1 hR.2.1 hcl he, hpcA⟩ rfl (by rw [List.length_map, List.length_reverse, hpl]) hl.1 hst9 (lv_room (by rw [hca]; exact hle)) hd ⟨by omega, by omega⟩) ?_
      intro γ' g' cA' tys' H1 locs1 hR1 hγ1 hv1
      rw [show am_n M - n0 + (am_n M' - am_n M) = am_n M' - n0 by omega, show am_s M - s0 + (am_s M' - am_s M) = am_s M' - s0 by omega]
      have k9 := hG γ' g' cA' tys' H1 locs1 ls hR1 (hl.ext hγ1 hc.1) ⟨am_vo_le hn3 hc.1, by
        cases v with
        | none => exact am_vo_le hn3 hrv
        | some w => exact am_cn1 (hv1 w rfl) (am_vo_le hn3 hrv)⟩ (fun q hq => (hγ1 q (Nat.lt_of_lt_of_le hq h1)).trans (hγ q hq)) (Nat.le_trans h1 hn3) (Nat.le_trans h2 hn4) hn1 hn2 h5 h6
      rw [← am_map_ext hγ1 hrv]
      cases v with
      | none => exact k9
      | some w => exact k9
  · trivial
theorem ok_cvS {z mZ b k np idx : Nat} (hd : decode cc pc = .ok (.invokevirtual idx, 3)) (hw1 : Cond.methodLink own idx (tb.1 z) ∈ am_words) (hw2 : Cond.instanceMethod (tb.1 z) ∈ am_words) (hw3 : Cond.selects "java/lang/String" (tb.1 z) (tb.1 z) ∈ am_words) (hw5 : Cond.initialized "java/lang/String" ∈ am_words) (hw4 : Cond.code (tb.1 z) (tb.2.1 z) (tb.2.2.1 z) (tb.2.2.2.1 z) ∈ am_words) (hmZ : tb.2.2.1 z = mZ) (hm41 : mZ ≤ 41) (hy : (tb.1 z).cls = "java/lang/String" ∧ (tb.1 z).cls ≠ "java/lang/invoke/MethodHandle" ∧ (tb.1 z).cls ≠ "java/lang/invoke/VarHandle" ∧ (parseMethodDescriptor (tb.1 z).desc).map (fun d => d.parameters.length) = some k) (hn : np = pc + 3) : am_ok tb cc own mL rt ini pc (o_cv 40 0 z mZ b k np) := by
  intro X f M hF hpc
  obtain ⟨p, l, e, R, s, m, args, below, meth, c, Q, L, xs, D, A, n0, s0, γ0, N', S⟩ := X
  obtain ⟨hx, hb, hml, hown, hts, hlk, hini, hNc, hSc⟩ := hF
  obtain ⟨z0, b0, pc', l', st⟩ := f
  dsimp only at hpc
  subst hpc
  subst hn
  unfold o_cv
  dsimp only
  split
  · rename_i as a r heq
    cases hcat : ((Nat.blt b b0 && Nat.ble (am_cats r) 8) && Nat.ble (am_ar (.ref a :: as)).length mZ) with
    | false => rw [am_bf rfl]; trivial
    | true =>
      rw [am_bt rfl]
      obtain ⟨hcat, hc3⟩ := Bool.and_eq_true_iff.mp hcat
      obtain ⟨hc1, hc2⟩ := Bool.and_eq_true_iff.mp hcat
      have hbl : b < b0 := Nat.le_of_ble_eq_true hc1
      have hle := Nat.le_of_ble_eq_true hc2
      refine ⟨by rw [hmZ], by rw [hmZ]; exact Nat.le_of_ble_eq_true hc3, fun hsp v M' hM hn1 hn2 hn3 hn4 hG γ g cA tys H locs ls hR hl hc hγ h1 h2 h3 h4 h5 h6 => ?_⟩
      obtain ⟨pp, hst, has, hpl⟩ := am_tk_spec k st [] as (.ref a :: r) heq
      have has : as = pp.reverse := by rw [has, List.append_nil]
      subst hst
      subst has
      have h5 : b0 + 1 ≤ R.frames := h5
      have h6 : 60 * (b0 + 1) ≤ R.locals := h6
      have hn1 : am_n M' ≤ N' := hn1
      have hn2 : am_s M' ≤ S := hn2
      have hca := am_cats_eq (am_γrf hR.2.2.2.2.2.1 hR.2.2.2.2.2.2.1) r
      have hvs : ∀ v ∈ pp.reverse, am_vo (am_n M) v := fun v hv => hc.2 v (List.mem_append_left _ (List.mem_reverse.mp hv))
      have hrv : ∀ v ∈ r, am_vo (am_n M) v := fun v hv => hc.2 v (List.mem_append_right _ (List.mem_cons_of_mem _ hv))
      have hva : am_vo (am_n M) (.ref a) := hc.2 _ (List.mem_append_right _ List.mem_cons_self)
      have hM : Met l (tb.1 z) (am_wz tb z) _ (am_Pc L xs D γ g cA tys H.size (.ref a :: pp.reverse) M) _ _ _ _ := hM γ g cA tys H.size
      have hsp : am_K M a = (40, 0) := hsp
      obtain ⟨i, hi, hai⟩ : ∃ i : Nat, i < 6 ∧ a = 1 + i := am_k40 hR.2.2.2.2.2.2.2.1 hsp
      obtain ⟨adK, adV, tS, tA, tD, f1, f2, fr⟩ := id hR.2.2.2.2.2.1
      have hga : γ a = .ref (adK i) := by rw [hai]; exact (f2 i hi).1
      have hpcA := am_Pc_at hR (as := .ref a :: pp.reverse) (am_cn1 hva hvs)
      simp only [List.map_cons, am_cv, hga] at hpcA
      have hst9 : ((pp ++ .ref a :: r).map (am_cv γ)) = (pp.reverse.map (am_cv γ)).reverse ++ .ref (adK i) :: r.map (am_cv γ) := by rw [List.map_append, ← List.map_reverse, List.reverse_reverse, List.map_cons, show am_cv γ (.ref a) = .ref (adK i) from hga]
      refine am_back (m := m) (st0 := (pp ++ .ref a :: r).map (am_cv γ)) (rest := r.map (am_cv γ)) (cells := am_n M - n0) (slots := am_s M - s0) hR
        (va_runV (S := ⟨hx, hb, rfl, hown, hts⟩) (C := "java/lang/String") (As := pp.reverse.map (am_cv γ)) (rest := r.map (am_cv γ)) hM (cwV (ws' := am_words) k hts (by
          intro w hw
          simp only [wsV, List.mem_append, List.mem_cons, List.not_mem_nil, or_false] at hw
          rcases hw with (rfl | rfl | rfl | rfl) | hw
          · exact am_gw hw1
          · exact am_gw hw2
          · exact am_gw hw3
          · exact am_gw hw5
          · exact am_gz hw4 w hw) rfl rfl rfl hy ⟨by show b + 1 + 1 ≤ R.frames; omega, by show 8 + (tb.2.2.1 z + 11) + 60 * (b + 1) ≤ R.locals; rw [hmZ]; omega⟩)
          ⟨am_Pc_blind, vk_recv f1 hi hR.2.2.2.1, hpcA⟩ rfl (by rw [List.length_map, List.length_reverse, hpl]) hl.1 hst9 (lv_room (by rw [hca]; exact hle)) hd ⟨by omega, by omega⟩) ?_
      intro γ' g' cA' tys' H1 locs1 hR1 hγ1 hv1
      rw [show am_n M - n0 + (am_n M' - am_n M) = am_n M' - n0 by omega, show am_s M - s0 + (am_s M' - am_s M) = am_s M' - s0 by omega]
      have k9 := hG γ' g' cA' tys' H1 locs1 ls hR1 (hl.ext hγ1 hc.1) ⟨am_vo_le hn3 hc.1, by
        cases v with
        | none => exact am_vo_le hn3 hrv
        | some w => exact am_cn1 (hv1 w rfl) (am_vo_le hn3 hrv)⟩ (fun q hq => (hγ1 q (Nat.lt_of_lt_of_le hq h1)).trans (hγ q hq)) (Nat.le_trans h1 hn3) (Nat.le_trans h2 hn4) hn1 hn2 h5 h6
      rw [← am_map_ext hγ1 hrv]
      cases v with
      | none => exact k9
      | some w => exact k9
  · trivial
theorem ok_ci {ci N z mZ b k np idx : Nat} (hd : decode cc pc = .ok (.invokespecial idx, 3)) (hc20 : ci < 20) (hw1 : Cond.methodLink own idx (tb.1 z) ∈ am_words) (hw2 : Cond.instanceMethod (tb.1 z) ∈ am_words) (hw3 : Cond.initialized (tb.1 z).cls ∈ am_words) (hw4 : Cond.code (tb.1 z) (tb.2.1 z) (tb.2.2.1 z) (tb.2.2.2.1 z) ∈ am_words) (hmZ : tb.2.2.1 z = mZ) (hm41 : mZ ≤ 41) (hret : tb.2.2.2.1 z = none) (hin : (tb.1 z).name = "<init>") (hy : (tb.1 z).cls ≠ "java/lang/invoke/MethodHandle" ∧ (tb.1 z).cls ≠ "java/lang/invoke/VarHandle" ∧ (parseMethodDescriptor (tb.1 z).desc).map (fun d => d.parameters.length) = some k) (hn : np = pc + 3) : am_ok tb cc own mL rt ini pc (o_cv ci N z mZ b k np) := by
  intro X f M hF hpc
  obtain ⟨p, l, e, R, s, m, args, below, meth, c, Q, L, xs, D, A, n0, s0, γ0, N', S⟩ := X
  obtain ⟨hx, hb, hml, hown, hts, hlk, hini, hNc, hSc⟩ := hF
  obtain ⟨z0, b0, pc', l', st⟩ := f
  dsimp only at hpc
  subst hpc
  subst hn
  unfold o_cv
  dsimp only
  split
  · rename_i as a r heq
    cases hcat : ((Nat.blt b b0 && Nat.ble (am_cats r) 8) && Nat.ble (am_ar (.ref a :: as)).length mZ) with
    | false => rw [am_bf rfl]; trivial
    | true =>
      rw [am_bt rfl]
      obtain ⟨hcat, hc3⟩ := Bool.and_eq_true_iff.mp hcat
      obtain ⟨hc1, hc2⟩ := Bool.and_eq_true_iff.mp hcat
      have hbl : b < b0 := Nat.le_of_ble_eq_true hc1
      have hle := Nat.le_of_ble_eq_true hc2
      refine ⟨by rw [hmZ], by rw [hmZ]; exact Nat.le_of_ble_eq_true hc3, fun hsp v M' hM hn1 hn2 hn3 hn4 hG γ g cA tys H locs ls hR hl hc hγ h1 h2 h3 h4 h5 h6 => ?_⟩
      obtain ⟨pp, hst, has, hpl⟩ := am_tk_spec k st [] as (.ref a :: r) heq
      have has : as = pp.reverse := by rw [has, List.append_nil]
      subst hst
      subst has
      have h5 : b0 + 1 ≤ R.frames := h5
      have h6 : 60 * (b0 + 1) ≤ R.locals := h6
      have hn1 : am_n M' ≤ N' := hn1
      have hn2 : am_s M' ≤ S := hn2
      have hca := am_cats_eq (am_γrf hR.2.2.2.2.2.1 hR.2.2.2.2.2.2.1) r
      have hvs : ∀ v ∈ pp.reverse, am_vo (am_n M) v := fun v hv => hc.2 v (List.mem_append_left _ (List.mem_reverse.mp hv))
      have hrv : ∀ v ∈ r, am_vo (am_n M) v := fun v hv => hc.2 v (List.mem_append_right _ (List.mem_cons_of_mem _ hv))
      have hva : am_vo (am_n M) (.ref a) := hc.2 _ (List.mem_append_right _ List.mem_cons_self)
      have hM : Met l (tb.1 z) (am_wz tb z) _ (am_Pc L xs D γ g cA tys H.size (.ref a :: pp.reverse) M) _ _ _ _ := hM γ g cA tys H.size
      have hsp : am_K M a = (ci, N) := hsp
      obtain ⟨a1, a2⟩ := hR.2.2.2.2.2.2.2.1.own (a := a) (by rw [hsp]; show ci < 40; omega)
      have hga := hR.2.2.2.2.2.2.1 a a1
      have he := am_ws_get (g := g) (cA := cA) (M := M) a1 a2
      rw [am_e_obj hsp hc20] at he
      have hpcA := am_Pc_at hR (as := .ref a :: pp.reverse) (am_cn1 hva hvs)
      simp only [List.map_cons, am_cv, hga] at hpcA
      have hst9 : ((pp ++ .ref a :: r).map (am_cv γ)) = (pp.reverse.map (am_cv γ)).reverse ++ .ref (g a) :: r.map (am_cv γ) := by rw [List.map_append, ← List.map_reverse, List.reverse_reverse, List.map_cons, show am_cv γ (.ref a) = .ref (g a) from hga]
      refine am_back (m := m) (st0 := (pp ++ .ref a :: r).map (am_cv γ)) (rest := r.map (am_cv γ)) (cells := am_n M - n0) (slots := am_s M - s0) hR
        (va_runI (S := ⟨hx, hb, rfl, hown, hts⟩) (As := pp.reverse.map (am_cv γ)) (rest := r.map (am_cv γ)) hM (cwI (ws' := am_words) k hts (am_gz hw4) (by unfold am_wz; rw [hret]) rfl rfl (hts _ hw3) (hts _ hw1) (hts _ hw2) hin hy ⟨by show b + 1 + 1 ≤ R.frames; omega, by show 8 + (tb.2.2.1 z + 11) + 60 * (b + 1) ≤ R.locals; rw [hmZ]; omega⟩)
          ⟨am_Pc_blind, hpcA⟩ rfl (by rw [List.length_map, List.length_reverse, hpl]) hl.1 hst9 (lv_room (by rw [hca]; exact hle)) hd ⟨by omega, by omega⟩) ?_
      intro γ' g' cA' tys' H1 locs1 hR1 hγ1 hv1
      rw [show am_n M - n0 + (am_n M' - am_n M) = am_n M' - n0 by omega, show am_s M - s0 + (am_s M' - am_s M) = am_s M' - s0 by omega]
      have k9 := hG γ' g' cA' tys' H1 locs1 ls hR1 (hl.ext hγ1 hc.1) ⟨am_vo_le hn3 hc.1, by
        cases v with
        | none => exact am_vo_le hn3 hrv
        | some w => exact am_cn1 (hv1 w rfl) (am_vo_le hn3 hrv)⟩ (fun q hq => (hγ1 q (Nat.lt_of_lt_of_le hq h1)).trans (hγ q hq)) (Nat.le_trans h1 hn3) (Nat.le_trans h2 hn4) hn1 hn2 h5 h6
      rw [← am_map_ext hγ1 hrv]
      cases v with
      | none => exact k9
      | some w => exact k9
  · trivial
theorem ok_ciN {ci N z mZ b k np idx : Nat} {host : String} (hd : decode cc pc = .ok (.invokespecial idx, 3)) (hc20 : ci < 20) (hw1 : Cond.methodLinkNest own idx (tb.1 z) host ∈ am_nw) (hw2 : Cond.instanceMethod (tb.1 z) ∈ am_words) (hw3 : Cond.initialized (tb.1 z).cls ∈ am_words) (hw4 : Cond.code (tb.1 z) (tb.2.1 z) (tb.2.2.1 z) (tb.2.2.2.1 z) ∈ am_words) (hmZ : tb.2.2.1 z = mZ) (hm41 : mZ ≤ 41) (hret : tb.2.2.2.1 z = none) (hin : (tb.1 z).name = "<init>") (hy : (tb.1 z).cls ≠ "java/lang/invoke/MethodHandle" ∧ (tb.1 z).cls ≠ "java/lang/invoke/VarHandle" ∧ (parseMethodDescriptor (tb.1 z).desc).map (fun d => d.parameters.length) = some k) (hn : np = pc + 3) : am_ok tb cc own mL rt ini pc (o_cv ci N z mZ b k np) := by
  intro X f M hF hpc
  obtain ⟨p, l, e, R, s, m, args, below, meth, c, Q, L, xs, D, A, n0, s0, γ0, N', S⟩ := X
  obtain ⟨hx, hb, hml, hown, hts, hlk, hini, hNc, hSc⟩ := hF
  obtain ⟨z0, b0, pc', l', st⟩ := f
  dsimp only at hpc
  subst hpc
  subst hn
  unfold o_cv
  dsimp only
  split
  · rename_i as a r heq
    cases hcat : ((Nat.blt b b0 && Nat.ble (am_cats r) 8) && Nat.ble (am_ar (.ref a :: as)).length mZ) with
    | false => rw [am_bf rfl]; trivial
    | true =>
      rw [am_bt rfl]
      obtain ⟨hcat, hc3⟩ := Bool.and_eq_true_iff.mp hcat
      obtain ⟨hc1, hc2⟩ := Bool.and_eq_true_iff.mp hcat
      have hbl : b < b0 := Nat.le_of_ble_eq_true hc1
      have hle := Nat.le_of_ble_eq_true hc2
      refine ⟨by rw [hmZ], by rw [hmZ]; exact Nat.le_of_ble_eq_true hc3, fun hsp v M' hM hn1 hn2 hn3 hn4 hG γ g cA tys H locs ls hR hl hc hγ h1 h2 h3 h4 h5 h6 => ?_⟩
      obtain ⟨pp, hst, has, hpl⟩ := am_tk_spec k st [] as (.ref a :: r) heq
      have has : as = pp.reverse := by rw [has, List.append_nil]
      subst hst
      subst has
      have h5 : b0 + 1 ≤ R.frames := h5
      have h6 : 60 * (b0 + 1) ≤ R.locals := h6
      have hn1 : am_n M' ≤ N' := hn1
      have hn2 : am_s M' ≤ S := hn2
      have hca := am_cats_eq (am_γrf hR.2.2.2.2.2.1 hR.2.2.2.2.2.2.1) r
      have hvs : ∀ v ∈ pp.reverse, am_vo (am_n M) v := fun v hv => hc.2 v (List.mem_append_left _ (List.mem_reverse.mp hv))
      have hrv : ∀ v ∈ r, am_vo (am_n M) v := fun v hv => hc.2 v (List.mem_append_right _ (List.mem_cons_of_mem _ hv))
      have hva : am_vo (am_n M) (.ref a) := hc.2 _ (List.mem_append_right _ List.mem_cons_self)
      have hM : Met l (tb.1 z) (am_wz tb z) _ (am_Pc L xs D γ g cA tys H.size (.ref a :: pp.reverse) M) _ _ _ _ := hM γ g cA tys H.size
      have hsp : am_K M a = (ci, N) := hsp
      obtain ⟨a1, a2⟩ := hR.2.2.2.2.2.2.2.1.own (a := a) (by rw [hsp]; show ci < 40; omega)
      have hga := hR.2.2.2.2.2.2.1 a a1
      have he := am_ws_get (g := g) (cA := cA) (M := M) a1 a2
      rw [am_e_obj hsp hc20] at he
      have hpcA := am_Pc_at hR (as := .ref a :: pp.reverse) (am_cn1 hva hvs)
      simp only [List.map_cons, am_cv, hga] at hpcA
      have hst9 : ((pp ++ .ref a :: r).map (am_cv γ)) = (pp.reverse.map (am_cv γ)).reverse ++ .ref (g a) :: r.map (am_cv γ) := by rw [List.map_append, ← List.map_reverse, List.reverse_reverse, List.map_cons, show am_cv γ (.ref a) = .ref (g a) from hga]
      refine am_back (m := m) (st0 := (pp ++ .ref a :: r).map (am_cv γ)) (rest := r.map (am_cv γ)) (cells := am_n M - n0) (slots := am_s M - s0) hR
        (va_runIN (S := ⟨hx, hb, rfl, hown, hts⟩) (As := pp.reverse.map (am_cv γ)) (rest := r.map (am_cv γ)) hM ⟨va_cnB (ws' := am_words) k hts (am_gz hw4) (by unfold am_wz; rw [hret]) rfl rfl (hR.2.2.2.2.2.1.nw hw1) (hts _ hw3) hy ⟨by show b + 1 + 1 ≤ R.frames; omega, by show 8 + (tb.2.2.1 z + 11) + 60 * (b + 1) ≤ R.locals; rw [hmZ]; omega⟩, hin, hts _ hw2⟩
          ⟨am_Pc_blind, hpcA⟩ rfl (by rw [List.length_map, List.length_reverse, hpl]) hl.1 hst9 (lv_room (by rw [hca]; exact hle)) hd ⟨by omega, by omega⟩) ?_
      intro γ' g' cA' tys' H1 locs1 hR1 hγ1 hv1
      rw [show am_n M - n0 + (am_n M' - am_n M) = am_n M' - n0 by omega, show am_s M - s0 + (am_s M' - am_s M) = am_s M' - s0 by omega]
      have k9 := hG γ' g' cA' tys' H1 locs1 ls hR1 (hl.ext hγ1 hc.1) ⟨am_vo_le hn3 hc.1, by
        cases v with
        | none => exact am_vo_le hn3 hrv
        | some w => exact am_cn1 (hv1 w rfl) (am_vo_le hn3 hrv)⟩ (fun q hq => (hγ1 q (Nat.lt_of_lt_of_le hq h1)).trans (hγ q hq)) (Nat.le_trans h1 hn3) (Nat.le_trans h2 hn4) hn1 hn2 h5 h6
      rw [← am_map_ext hγ1 hrv]
      cases v with
      | none => exact k9
      | some w => exact k9
  · trivial
end AM10
