/-! the reference reads an expression: parts, signs -/
section T96
variable {kt : Nat → Nat × Nat} {I I' I0 : Nat → Nat → Int32} {J J' : Nat → Nat → Int64} {T T' : Nat → Nat → Nat} {n s : Nat} {K : Option Value → am_M → Prop} {B : Nat → Int32} {len key nn nb : Nat} {p : pSt} {c w : List Int32}
/-- how many nots wait -/
def ctN : List Int32 → Nat
  | [] => 0
  | x :: l => (if x = -10 then 1 else 0) + ctN l
theorem ctN_app : ∀ (a b : List Int32), ctN (a ++ b) = ctN a + ctN b
  | [], b => (Nat.zero_add _).symm
  | x :: a, b => by
    show (if x = -10 then 1 else 0) + ctN (a ++ b) = (if x = -10 then 1 else 0) + ctN a + ctN b
    rw [ctN_app a b, Nat.add_assoc]
theorem ctN_take : ∀ (w : List Int32) (i : Nat), i < w.length → ctN (w.take (i + 1)) = ctN (w.take i) + (if w.getD i 0 = -10 then 1 else 0)
  | [], i, h => absurd h (Nat.not_lt_zero i)
  | x :: l, 0, _ => by
    show (if x = -10 then 1 else 0) + ctN (l.take 0) = 0 + (if x = -10 then 1 else 0)
    rw [List.take_zero]
    show _ + 0 = _
    omega
  | x :: l, i + 1, h => by
    show (if x = -10 then 1 else 0) + ctN (l.take (i + 1)) = (if x = -10 then 1 else 0) + ctN (l.take i) + (if l.getD i 0 = -10 then 1 else 0)
    rw [ctN_take l i (Nat.lt_of_succ_lt_succ h), Nat.add_assoc]
theorem ctN_0 : ∀ (a : List Int32), (∀ x, x ∈ a → x ≠ -10) → ctN a = 0
  | [], _ => rfl
  | x :: a, h => by
    show (if x = -10 then 1 else 0) + ctN a = 0
    rw [if_neg (h x (List.mem_cons_self)), ctN_0 a (fun y hy => h y (List.mem_cons_of_mem x hy))]
theorem m_nots_l (h : mP B I0 I p c w) (hl : w.length ≤ 96) (hK : K (some (.int (nI (ctN w)))) (am_mk kt I J T n s)) : ∀ (j i : Nat), i + j = w.length → am_T am_C (182, 0, 4, [.ref 107, .int (nI (ctN (w.take i))), .int (nI i)], []) (am_mk kt I J T n s) K
  | 0, i, hi => by
    have e24 : I 107 24 = nI w.length := h.2.2.2.2.2.2.2.2.1
    have c1 : I 107 24 ≤ nI i := by rw [e24]; exact nI_le (by omega) (by omega)
    rw [show w.take i = w by rw [show i = w.length by omega]; exact List.take_length]
    refine am_wq_T (cut := fun z pc => (Nat.beq z 182 && Nat.beq pc 4)) (inl := fun _ => false) 120 _ _ _ ?_
    exact And.intro rfl (And.intro (fun _ => hK) (fun z => absurd c1 z))
  | j + 1, i, hi => by
    have e24 : I 107 24 = nI w.length := h.2.2.2.2.2.2.2.2.1
    have c1 : ¬ I 107 24 ≤ nI i := by rw [e24]; exact nI_ge (by omega) (by omega)
    have v1 : vp_in (nI i) 96 := vpl (by omega) (by decide)
    have ex : I 121 (nI i).toNatClampNeg = w.getD i 0 := by rw [nI_clamp (by omega)]; exact h.2.2.2.2.2.2.2.2.2.2 i (by omega)
    have kk := m_nots_l h hl hK j (i + 1) (by omega)
    rw [ctN_take w i (by omega)] at kk
    refine am_wq_T (cut := fun z pc => (Nat.beq z 182 && Nat.beq pc 4)) (inl := fun _ => false) 120 _ _ _ ?_
    refine And.intro rfl (And.intro (fun z => absurd z c1) (fun _ => And.intro rfl (And.intro ⟨rfl, v1⟩ (And.intro (fun z => ?_) (fun z => ?_)))))
    · rw [if_neg (fun y => z (ex.trans y)), nI_succ, Nat.add_zero, ← Int32.add_zero (nI (ctN (w.take i)))] at kk
      exact kk
    · rw [if_pos (ex.symm.trans (Decidable.not_not.mp z)), nI_succ, nI_succ] at kk
      exact kk
theorem m_nots (h : mP B I0 I p c w) (hl : w.length ≤ 96) (hK : K (some (.int (nI (ctN w)))) (am_mk kt I J T n s)) : am_T am_C (182, 0, 0, [.ref 107, .null, .null], []) (am_mk kt I J T n s) K := by
  have kk := m_nots_l h hl hK w.length 0 (by omega)
  rw [List.take_zero] at kk
  refine am_wq_T (cut := fun z pc => (Nat.beq z 182 && Nat.beq pc 4)) (inl := fun _ => false) 120 _ _ _ ?_
  exact kk
theorem m_name {x v : Int32} (hk : key < 3) (hk17 : I 107 17 = nI key) (hv : nmV key x = v) (hK : K (some (.int v)) (am_mk kt I J T n s)) : am_T am_C (176, 0, 0, [.ref 107, .int x], []) (am_mk kt I J T n s) K := by
  subst hv
  unfold nmV at hK
  have : key = 0 ∨ key = 1 ∨ key = 2 := by omega
  rcases this with rfl | rfl | rfl
  · rw [if_pos rfl] at hK
    have d0 : I 107 17 = 0 := hk17
    refine am_wq_T (cut := fun _ _ => false) (inl := fun _ => true) 120 _ _ _ ?_
    refine And.intro rfl (And.intro (fun _ => ?_) (fun z => absurd d0 z))
    refine And.intro (fun z => And.intro (fun y => ?_) (fun y => ?_)) (fun z => ?_)
    · rw [if_neg z, if_neg y] at hK; exact hK
    · rw [if_neg z, if_pos (Decidable.not_not.mp y)] at hK; exact hK
    · rw [if_pos (Decidable.not_not.mp z)] at hK; exact hK
  · rw [if_neg (by decide), if_pos rfl] at hK
    have d1 : I 107 17 = 1 := hk17
    have d0 : ¬ I 107 17 = 0 := by rw [d1]; decide
    refine am_wq_T (cut := fun _ _ => false) (inl := fun _ => true) 120 _ _ _ ?_
    refine And.intro rfl (And.intro (fun z => absurd z d0) (fun _ => And.intro (fun _ => ?_) (fun z => absurd d1 z)))
    refine And.intro (fun z => And.intro (fun y => And.intro (fun x => ?_) (fun x => ?_)) (fun y => ?_)) (fun z => ?_)
    · rw [if_neg z, if_neg y, if_neg x] at hK; exact hK
    · rw [if_neg z, if_neg y, if_pos (Decidable.not_not.mp x)] at hK; exact hK
    · rw [if_neg z, if_pos (Decidable.not_not.mp y)] at hK; exact hK
    · rw [if_pos (Decidable.not_not.mp z)] at hK; exact hK
  · rw [if_neg (by decide), if_neg (by decide)] at hK
    have d2 : I 107 17 = 2 := hk17
    have d0 : ¬ I 107 17 = 0 := by rw [d2]; decide
    have d1 : ¬ I 107 17 = 1 := by rw [d2]; decide
    refine am_wq_T (cut := fun _ _ => false) (inl := fun _ => true) 120 _ _ _ ?_
    refine And.intro rfl (And.intro (fun z => absurd z d0) (fun _ => And.intro (fun z => absurd z d1) (fun _ => ?_)))
    refine And.intro (fun z => And.intro (fun y => ?_) (fun y => ?_)) (fun z => ?_)
    · rw [if_neg z, if_neg y] at hK; exact hK
    · rw [if_neg z, if_pos (Decidable.not_not.mp y)] at hK; exact hK
    · rw [if_pos (Decidable.not_not.mp z)] at hK; exact hK
/-- a sign that joins, in the reference's number -/
def sgV (g : Int32) : Int32 := if g = 38 then -2 else if g = 42 then -8 else if g = 43 then -6 else if g = 45 then -7 else if g = 47 then -9 else if g = 60 then -3 else if g = 61 then -4 else if g = 62 then -5 else if g = 124 then -1 else 0
theorem m_sign {v : Int32} (h : mP B I0 I p c w) (hv : sgV p.2.2.1 = v) (hK : K (some (.int v)) (am_mk kt I J T n s)) : am_T am_C (179, 0, 0, [.ref 107], []) (am_mk kt I J T n s) K := by
  have ht := h.2.2.2.2.1
  obtain ⟨g, hg⟩ : ∃ g, g = p.2.2.1 := ⟨_, rfl⟩
  rw [← hg] at ht hv
  subst hv
  unfold rsT at ht
  obtain ⟨t0, t1, t2, t3, t4⟩ := ht
  have no : ¬ I 107 14 = 3 → sgV g = 0 → am_T am_C (179, 0, 0, [.ref 107], []) (am_mk kt I J T n s) K := fun a b => by
    rw [b] at hK
    refine am_wq_T (cut := fun _ _ => false) (inl := fun _ => true) 120 _ _ _ ?_
    exact And.intro rfl (And.intro (fun z => absurd z a) (fun _ => hK))
  by_cases g0 : g = -1
  · exact no (by rw [t0 g0]; decide) (by rw [g0]; decide)
  by_cases g1 : g = 256
  · exact no (by rw [(t1 g1).1]; decide) (by rw [g1]; decide)
  by_cases g2 : g = 257
  · refine no ?_ (by rw [g2]; decide)
    have q := t2 g2
    by_cases u : p.2.1 - p.1 ≤ 4
    · rw [if_pos u] at q; rw [q.1]; decide
    · rw [if_neg u] at q; rw [q]; decide
  by_cases g3 : g = 258
  · exact no (by rw [t3 g3]; decide) (by rw [g3]; decide)
  obtain ⟨q1, q2⟩ := t4 g0 g1 g2 g3
  unfold sgV at hK
  rw [← q2] at hK
  refine am_wq_T (cut := fun _ _ => false) (inl := fun _ => true) 120 _ _ _ ?_
  refine And.intro rfl (And.intro (fun _ => And.intro rfl ?_) (fun z => absurd q1 z))
  refine And.intro (fun z => ?_) (fun a1 => And.intro (fun z => ?_) (fun a2 => And.intro (fun z => ?_) (fun a3 => And.intro (fun z => ?_) (fun a4 => And.intro (fun z => ?_) (fun a5 => And.intro (fun z => ?_) (fun a6 => And.intro (fun z => ?_) (fun a7 => And.intro (fun z => ?_) (fun a8 => And.intro (fun z => ?_) (fun a9 => ?_)))))))))
  · have z' : I 107 15 = 38 := z
    rw [if_pos z'] at hK
    exact hK
  · have b1 : ¬ I 107 15 = 38 := a1
    have z' : I 107 15 = 42 := z
    rw [if_neg b1, if_pos z'] at hK
    exact hK
  · have b1 : ¬ I 107 15 = 38 := a1
    have b2 : ¬ I 107 15 = 42 := a2
    have z' : I 107 15 = 43 := z
    rw [if_neg b1, if_neg b2, if_pos z'] at hK
    exact hK
  · have b1 : ¬ I 107 15 = 38 := a1
    have b2 : ¬ I 107 15 = 42 := a2
    have b3 : ¬ I 107 15 = 43 := a3
    have z' : I 107 15 = 45 := z
    rw [if_neg b1, if_neg b2, if_neg b3, if_pos z'] at hK
    exact hK
  · have b1 : ¬ I 107 15 = 38 := a1
    have b2 : ¬ I 107 15 = 42 := a2
    have b3 : ¬ I 107 15 = 43 := a3
    have b4 : ¬ I 107 15 = 45 := a4
    have z' : I 107 15 = 47 := z
    rw [if_neg b1, if_neg b2, if_neg b3, if_neg b4, if_pos z'] at hK
    exact hK
  · have b1 : ¬ I 107 15 = 38 := a1
    have b2 : ¬ I 107 15 = 42 := a2
    have b3 : ¬ I 107 15 = 43 := a3
    have b4 : ¬ I 107 15 = 45 := a4
    have b5 : ¬ I 107 15 = 47 := a5
    have z' : I 107 15 = 60 := z
    rw [if_neg b1, if_neg b2, if_neg b3, if_neg b4, if_neg b5, if_pos z'] at hK
    exact hK
  · have b1 : ¬ I 107 15 = 38 := a1
    have b2 : ¬ I 107 15 = 42 := a2
    have b3 : ¬ I 107 15 = 43 := a3
    have b4 : ¬ I 107 15 = 45 := a4
    have b5 : ¬ I 107 15 = 47 := a5
    have b6 : ¬ I 107 15 = 60 := a6
    have z' : I 107 15 = 61 := z
    rw [if_neg b1, if_neg b2, if_neg b3, if_neg b4, if_neg b5, if_neg b6, if_pos z'] at hK
    exact hK
  · have b1 : ¬ I 107 15 = 38 := a1
    have b2 : ¬ I 107 15 = 42 := a2
    have b3 : ¬ I 107 15 = 43 := a3
    have b4 : ¬ I 107 15 = 45 := a4
    have b5 : ¬ I 107 15 = 47 := a5
    have b6 : ¬ I 107 15 = 60 := a6
    have b7 : ¬ I 107 15 = 61 := a7
    have z' : I 107 15 = 62 := z
    rw [if_neg b1, if_neg b2, if_neg b3, if_neg b4, if_neg b5, if_neg b6, if_neg b7, if_pos z'] at hK
    exact hK
  · have b1 : ¬ I 107 15 = 38 := a1
    have b2 : ¬ I 107 15 = 42 := a2
    have b3 : ¬ I 107 15 = 43 := a3
    have b4 : ¬ I 107 15 = 45 := a4
    have b5 : ¬ I 107 15 = 47 := a5
    have b6 : ¬ I 107 15 = 60 := a6
    have b7 : ¬ I 107 15 = 61 := a7
    have b8 : ¬ I 107 15 = 62 := a8
    have z' : I 107 15 = 124 := z
    rw [if_neg b1, if_neg b2, if_neg b3, if_neg b4, if_neg b5, if_neg b6, if_neg b7, if_neg b8, if_pos z'] at hK
    exact hK
  · have b1 : ¬ I 107 15 = 38 := a1
    have b2 : ¬ I 107 15 = 42 := a2
    have b3 : ¬ I 107 15 = 43 := a3
    have b4 : ¬ I 107 15 = 45 := a4
    have b5 : ¬ I 107 15 = 47 := a5
    have b6 : ¬ I 107 15 = 60 := a6
    have b7 : ¬ I 107 15 = 61 := a7
    have b8 : ¬ I 107 15 = 62 := a8
    have b9 : ¬ I 107 15 = 124 := a9
    rw [if_neg b1, if_neg b2, if_neg b3, if_neg b4, if_neg b5, if_neg b6, if_neg b7, if_neg b8, if_neg b9] at hK
    exact hK
theorem jn_s {l : Nat} {g : Int32} (hl : l < 5) (h : jn l g = true) : sgV g = sg_tr (-g) ∧ rkS (sgV g) = nI (l + 1) ∧ sgV g ≠ 0 ∧ sgV g ≠ -10 ∧ sgV g ≠ -11 := by
  have : l = 0 ∨ l = 1 ∨ l = 2 ∨ l = 3 ∨ l = 4 := by omega
  rcases this with rfl | rfl | rfl | rfl | rfl
  · have e : g = 124 := of_decide_eq_true h
    rw [e]; decide
  · have e : g = 38 := of_decide_eq_true h
    rw [e]; decide
  · have e : g = 60 ∨ g = 61 ∨ g = 62 := of_decide_eq_true h
    rcases e with e | e | e
    all_goals rw [e]; decide
  · have e : g = 43 ∨ g = 45 := of_decide_eq_true h
    rcases e with e | e
    all_goals rw [e]; decide
  · have e : g = 42 ∨ g = 47 := of_decide_eq_true h
    rcases e with e | e
    all_goals rw [e]; decide
theorem sgV_0 {g : Int32} (h : ∀ l, l < 5 → ¬ jn l g = true) : sgV g = 0 := by
  unfold sgV
  rw [if_neg (fun z => h 1 (by decide) (by rw [z]; decide)), if_neg (fun z => h 4 (by decide) (by rw [z]; decide)), if_neg (fun z => h 3 (by decide) (by rw [z]; decide)), if_neg (fun z => h 3 (by decide) (by rw [z]; decide)), if_neg (fun z => h 4 (by decide) (by rw [z]; decide)), if_neg (fun z => h 2 (by decide) (by rw [z]; decide)), if_neg (fun z => h 2 (by decide) (by rw [z]; decide)), if_neg (fun z => h 2 (by decide) (by rw [z]; decide)), if_neg (fun z => h 0 (by decide) (by rw [z]; decide))]
theorem m_part_tl {x : Int32} {y : List Int32} {l1 : Value} {k : Nat} (hT : tpS I0 B len) (he : p.2.1 ≤ len) (g1 : p.2.2.1 ≠ -1) (g2 : p.2.2.1 ≠ 258) (hk : k = c.length) (h : mP B I0 I p c (w ++ y.reverse)) (hb : blk w 6) (hy : ∀ x, x ∈ y → x = -10) (hl : c.length + (w ++ y.reverse).length < 96) (hK : ∀ I', mP B I0 I' (nxS B len (atS p)) (c ++ [x] ++ y) w → I' 122 = I 122 → K (some (.int 1)) (am_mk kt I' J T n s)) : am_T am_C (180, 2, 88, [.ref 107, l1], []) (am_mk kt (am_up I 120 k x) J T n s) K := by
  have e21 : I 107 21 = nI c.length := h.2.2.2.2.2.2.1
  have a1 : mP B I0 (am_up (am_up I 120 k x) 107 21 (am_up I 120 k x 107 21 + 1)) p (c ++ [x]) (w ++ y.reverse) := mP_code hk (by rw [up_off (by omega), e21, nI_1]) h
  have a2 := mP_at (v := am_up (am_up I 120 k x) 107 21 (am_up I 120 k x 107 21 + 1) 107 22 + 1) (by rw [a1.2.2.2.2.2.2.2.1, nI_1]) a1
  refine am_wq_T (cut := fun z pc => (Nat.beq z 180 && Nat.beq pc 88)) (inl := fun z => !((Nat.beq z 178 || Nat.beq z 174))) 120 _ _ _ ?_
  refine And.intro rfl (And.intro rfl (And.intro rfl (And.intro rfl (And.intro rfl (m_settle y (c ++ [x]) _ a2 hb (fun z hz => by rw [hy z hz]; decide) (by rw [List.length_append]; show c.length + 1 + _ ≤ 96; omega) fun I1 b1 b2 => ?_)))))
  refine And.intro rfl (m_goP (p := atS p) hT he g1 g2 b1 fun I2 d1 d2 => And.intro rfl (hK I2 d1 ?_))
  rw [d2, b2, up_off (by omega), up_off (by omega), up_off (by omega)]
theorem m_part_f {y : List Int32} (hT : tpS I0 B len) (hw : ws B len p) (g : p.2.2.1 = 257) (h4 : p.2.1 - p.1 ≤ 4) (h : mP B I0 I p c (w ++ y.reverse)) (hb : blk w 6) (hy : ∀ x, x ∈ y → x = -10) (hl : c.length + (w ++ y.reverse).length < 96) (hK : ∀ I', mP B I0 I' (nxS B len (atS p)) (c ++ [nv B p.1 (p.2.1 - p.1)] ++ y) w → I' 122 = I 122 → K (some (.int 1)) (am_mk kt I' J T n s)) : am_T am_C (180, 2, 0, [.ref 107, .null], []) (am_mk kt I J T n s) K := by
  have q := h.2.2.2.2.1.2.2.1 g
  rw [if_pos h4] at q
  have e21 : I 107 21 = nI c.length := h.2.2.2.2.2.2.1
  have c1 : ¬ I 107 14 = 1 := by rw [q.1]; decide
  have c2 : ¬ ¬ I 107 14 = 2 := fun z => z q.1
  have v1 : vp_in (I 107 21) 96 := by rw [e21]; exact vpl (by omega) (by decide)
  have ck : (I 107 21).toNatClampNeg = c.length := by rw [e21, nI_clamp (by omega)]
  have tl := fun l1 => m_part_tl (kt := kt) (J := J) (T := T) (n := n) (s := s) (K := K) (x := nv B p.1 (p.2.1 - p.1)) (l1 := l1) hT hw.2.1 (by rw [g]; decide) (by rw [g]; decide) ck h hb hy hl hK
  rw [← q.2] at tl
  refine am_wq_T (cut := fun z pc => (Nat.beq z 180 && Nat.beq pc 88)) (inl := fun z => !((Nat.beq z 176 || (Nat.beq z 178 || Nat.beq z 174)))) 120 _ _ _ ?_
  exact And.intro rfl (And.intro (fun _ => And.intro rfl (And.intro (fun _ => And.intro rfl (And.intro rfl (And.intro rfl (And.intro (fun z => absurd z c2) (fun _ => And.intro rfl (And.intro ⟨rfl, v1⟩ (tl _))))))) (fun z => absurd q.1 z))) (fun z => absurd c1 z))
theorem m_part_n {y : List Int32} (hT : tpS I0 B len) (hk3 : key < 3) (hk17 : I 107 17 = nI key) (hw : ws B len p) (g : p.2.2.1 = 256) (h4 : p.2.1 - p.1 = 1 ∧ ¬ nmV key (B p.1) < 0) (h : mP B I0 I p c (w ++ y.reverse)) (hb : blk w 6) (hy : ∀ x, x ∈ y → x = -10) (hl : c.length + (w ++ y.reverse).length < 96) (hK : ∀ I', mP B I0 I' (nxS B len (atS p)) (c ++ [10000 + nmV key (B p.1)] ++ y) w → I' 122 = I 122 → K (some (.int 1)) (am_mk kt I' J T n s)) : am_T am_C (180, 2, 0, [.ref 107, .null], []) (am_mk kt I J T n s) K := by
  have q := h.2.2.2.2.1.2.1 g
  have e21 : I 107 21 = nI c.length := h.2.2.2.2.2.2.1
  have c1 : ¬ ¬ I 107 14 = 1 := fun z => z q.1
  have c2 : ¬ I 107 14 = 2 := by rw [q.1]; decide
  have ed : I 107 12 - I 107 13 = 1 := by
    rw [h.2.2.1, h.2.2.2.1, nI_subI hw.1, h4.1]; rfl
  have c3 : ¬ ¬ I 107 12 - I 107 13 = 1 := fun z => z ed
  have v1 : vp_in (I 107 21) 96 := by rw [e21]; exact vpl (by omega) (by decide)
  have ck : (I 107 21).toNatClampNeg = c.length := by rw [e21, nI_clamp (by omega)]
  have en : nmV key (I 107 15) = nmV key (B p.1) := congrArg (nmV key) q.2
  have tl := fun l1 => m_part_tl (kt := kt) (J := J) (T := T) (n := n) (s := s) (K := K) (x := 10000 + nmV key (B p.1)) (l1 := l1) hT hw.2.1 (by rw [g]; decide) (by rw [g]; decide) ck h hb hy hl hK
  refine am_wq_T (cut := fun z pc => (Nat.beq z 180 && Nat.beq pc 88)) (inl := fun z => !((Nat.beq z 176 || (Nat.beq z 178 || Nat.beq z 174)))) 120 _ _ _ ?_
  refine And.intro rfl (And.intro (fun z => absurd z c1) (fun _ => And.intro rfl (And.intro rfl (And.intro (fun z => absurd z c3) (fun _ => And.intro rfl (And.intro rfl (m_name hk3 hk17 en (And.intro (fun z => absurd z h4.2) (fun _ => ?_)))))))))
  exact And.intro rfl (And.intro (fun z => absurd z c2) (fun _ => And.intro (fun _ => And.intro rfl (And.intro rfl (And.intro rfl (And.intro (fun _ => And.intro rfl (And.intro rfl (m_name hk3 hk17 en (And.intro ⟨rfl, v1⟩ (tl _))))) (fun z => absurd c2 z))))) (fun z => absurd m1z z)))
theorem m_part_0 (hk3 : key < 3) (hk17 : I 107 17 = nI key) (hw : ws B len p) (hn1 : ¬ (p.2.2.1 = 257 ∧ p.2.1 - p.1 ≤ 4)) (hn2 : ¬ (p.2.2.1 = 256 ∧ p.2.1 - p.1 = 1 ∧ ¬ nmV key (B p.1) < 0)) (hl : len ≤ 96) (h : mP B I0 I p c w) (hK : K (some (.int 0)) (am_mk kt I J T n s)) : am_T am_C (180, 2, 0, [.ref 107, .null], []) (am_mk kt I J T n s) K := by
  have ht := h.2.2.2.2.1
  unfold rsT at ht
  obtain ⟨t0, t1, t2, t3, t4⟩ := ht
  have n2 : ¬ I 107 14 = 2 := by
    by_cases g0 : p.2.2.1 = -1
    · rw [t0 g0]; decide
    by_cases g1 : p.2.2.1 = 256
    · rw [(t1 g1).1]; decide
    by_cases g2 : p.2.2.1 = 257
    · have q := t2 g2
      rw [if_neg (fun z => hn1 ⟨g2, z⟩)] at q
      rw [q]; decide
    by_cases g3 : p.2.2.1 = 258
    · rw [t3 g3]; decide
    rw [(t4 g0 g1 g2 g3).1]; decide
  by_cases g1 : p.2.2.1 = 256
  · have q := t1 g1
    have c1 : ¬ ¬ I 107 14 = 1 := fun z => z q.1
    have wl := hw.2.1
    have il : I 107 12 - I 107 13 = 1 ↔ p.2.1 - p.1 = 1 := by
      rw [h.2.2.1, h.2.2.2.1, nI_subI hw.1]
      exact nI_eq (b := 1) (by omega) (by decide)
    have en : nmV key (I 107 15) = nmV key (B p.1) := congrArg (nmV key) q.2
    by_cases d : p.2.1 - p.1 = 1
    · have c3 : ¬ ¬ I 107 12 - I 107 13 = 1 := fun z => z (il.mpr d)
      have ng : nmV key (B p.1) < 0 := Classical.not_not.mp fun z => hn2 ⟨g1, d, z⟩
      refine am_wq_T (cut := fun z pc => (Nat.beq z 180 && Nat.beq pc 88)) (inl := fun z => !((Nat.beq z 176 || (Nat.beq z 178 || Nat.beq z 174)))) 120 _ _ _ ?_
      exact And.intro rfl (And.intro (fun z => absurd z c1) (fun _ => And.intro rfl (And.intro rfl (And.intro (fun z => absurd z c3) (fun _ => And.intro rfl (And.intro rfl (m_name hk3 hk17 en (And.intro (fun _ => And.intro rfl (And.intro (fun z => absurd z n2) (fun _ => And.intro (fun z => absurd rfl z) (fun _ => And.intro rfl hK)))) (fun z => absurd ng z)))))))))
    · have c3 : ¬ I 107 12 - I 107 13 = 1 := fun z => d (il.mp z)
      refine am_wq_T (cut := fun z pc => (Nat.beq z 180 && Nat.beq pc 88)) (inl := fun z => !((Nat.beq z 176 || (Nat.beq z 178 || Nat.beq z 174)))) 120 _ _ _ ?_
      exact And.intro rfl (And.intro (fun z => absurd z c1) (fun _ => And.intro rfl (And.intro rfl (And.intro (fun _ => And.intro rfl (And.intro (fun z => absurd z n2) (fun _ => And.intro (fun z => absurd rfl z) (fun _ => And.intro rfl hK)))) (fun z => absurd c3 z)))))
  · have c1 : ¬ I 107 14 = 1 := by
      by_cases g0 : p.2.2.1 = -1
      · rw [t0 g0]; decide
      by_cases g2 : p.2.2.1 = 257
      · have q := t2 g2
        rw [if_neg (fun z => hn1 ⟨g2, z⟩)] at q
        rw [q]; decide
      by_cases g3 : p.2.2.1 = 258
      · rw [t3 g3]; decide
      rw [(t4 g0 g1 g2 g3).1]; decide
    refine am_wq_T (cut := fun z pc => (Nat.beq z 180 && Nat.beq pc 88)) (inl := fun z => !((Nat.beq z 176 || (Nat.beq z 178 || Nat.beq z 174)))) 120 _ _ _ ?_
    exact And.intro rfl (And.intro (fun _ => And.intro rfl (And.intro (fun z => absurd z n2) (fun _ => And.intro (fun z => absurd rfl z) (fun _ => And.intro rfl hK)))) (fun z => absurd c1 z))
end T96
