/-! helpers of calls; adds -/
section T55
variable {kt : Nat → Nat × Nat} {I I' : Nat → Nat → Int32} {J J' : Nat → Nat → Int64} {T : Nat → Nat → Nat} {n s : Nat} {L : Nat} {xs : Nat → Int32} {K : Option Value → am_M → Prop} {N : Nat → Int32} {hc wc tc h w : Nat} {noH noW but : Int32}
theorem m1z : ¬ (1 : Int32) = 0 := by decide
/-- rows that the relation does not speak of -/
def NR (r : Nat) : Prop := (37 ≤ r ∧ r < 53) ∨ (69 ≤ r ∧ r < 72) ∨ r = 78 ∨ (110 ≤ r ∧ r < 117) ∨ (120 ≤ r ∧ r < 125) ∨ r = 132 ∨ CT r
theorem rv_NR {r k : Nat} (h : rv r k) : ¬ NR r := by unfold rv at h; unfold NR CT; omega
theorem PF_NR {r : Nat} (h : PF r) : NR r := by unfold PF at h; unfold NR; omega
theorem PS_NR {r : Nat} (h : PS r) : NR r := by unfold PS at h; unfold NR CT at *; omega
theorem PM_NR {r : Nat} (h : PM r) : NR r := by unfold PM PF at h; unfold NR; omega
theorem PG_NR {r : Nat} (h : PG r) : NR r := by unfold PG PF at h; unfold NR; omega
theorem CT_NR {r : Nat} (h : CT r) : NR r := by unfold NR; exact .inr (.inr (.inr (.inr (.inr (.inr h)))))
theorem ch_nr {I I' I2 : Nat → Nat → Int32} (h : ch NR I I') (h' : ch NR I' I2) : ch NR I I2 := ch_tr h h' fun r q => q.elim id id
theorem chJ_nr {J J' J2 : Nat → Nat → Int64} (h : chJ PJ J J') (h' : chJ PJ J' J2) : chJ PJ J J2 := chJ_tr h h' fun r q => q.elim id id
theorem sim_ch (h : ch NR I I') (hJ : chJ PJ J J') (q : sg_Sim L xs kt I J T n) : sg_Sim L xs kt I' J' T n :=
  sim_eq (fun r k a => by rw [h r (rv_NR a)]) (fun r a => hJ r (by unfold PJ; omega)) q
theorem RB_of (hR : sg_LR kt I T n 21 N hc wc tc) (hB : sg_LB N hc wc) : RB N hc wc tc :=
  ⟨⟨by have := hR.1; omega, hR.2.1, hR.2.2.1, hR.2.2.2.1, hR.2.2.2.2.1, hR.2.2.2.2.2.1, fun t ht => Txt_TX (hR.2.2.2.2.2.2.2.2.2.2.2.2.2.2.2.2.2.1 t ht)⟩, hB.1, hB.2.1, hR.1⟩
theorem J15_of (hS : sg_Sim L xs kt I J T n) : J 15 = am_digits := (hS.1.2.2.2.2.1 15 (by decide)).2
theorem IsMax_cg {tk tk' : Nat → Nat → Bool} {W : Nat} {m : Int} (h : ∀ w h, w < W → tk w h = tk' w h) (q : IsMax tk W m) : IsMax tk' W m := by
  have e : ∀ a, Val tk W a ↔ Val tk' W a := fun a => ⟨fun v => ⟨fun w hw h9 => by rw [← h w _ hw]; exact v.1 w hw h9, v.2⟩, fun v => ⟨fun w hw h9 => by rw [h w _ hw]; exact v.1 w hw h9, v.2⟩⟩
  obtain ⟨⟨a, a1, a2⟩, a3⟩ := q
  exact ⟨⟨a, (e a).mp a1, a2⟩, fun b hb => a3 b ((e b).mpr hb)⟩
theorem tkS_N {m : Int} (hw6 : wc ≤ 6) (q : IsMax (tkS N hc wc tc but (-1)) wc m) : IsMax (tkN N hc tc but) wc m := by
  refine IsMax_cg (fun w h hw => ?_) q
  cases e : tkN N hc tc but w h with
  | true =>
    obtain ⟨a, b, c⟩ := tkN_t.mp e
    exact tkS_t.mpr ⟨a, hw, b, nI_nm1 (by omega), c⟩
  | false =>
    cases e2 : tkS N hc wc tc but (-1) w h with
    | false => rfl
    | true =>
      obtain ⟨a, _, b, _, c⟩ := tkS_t.mp e2
      rw [tkN_t.mpr ⟨a, b, c⟩] at e; cases e
theorem c_find_y (a0 : ¬ nI h < 0) (a1 : ¬ I 21 1 ≤ nI h) (hh : h < 10) (v : vp_in (nI h) 10) (hK : K (some (.ref (27 + h))) (am_mk kt I J T n s)) : am_T am_C (15, 0, 0, [.ref 21, .int (nI h)], []) (am_mk kt I J T n s) K := by
  rw [← rL21 (kt := kt) (I := I) (J := J) (T := T) (n := n) (s := s) hh] at hK
  refine am_wq_T (cut := fun _ _ => false) (inl := fun _ => true) 120 _ _ _ ?_
  exact And.intro (fun q => absurd q a0) (fun _ => And.intro rfl (And.intro (fun q => absurd q a1) (fun _ => And.intro rfl (And.intro ⟨rfl, v⟩ hK))))
theorem c_find_n0 {x : Int32} (a0 : x < 0) (hK : K (some (.ref 0)) (am_mk kt I J T n s)) : am_T am_C (15, 0, 0, [.ref 21, .int x], []) (am_mk kt I J T n s) K := by
  refine am_wq_T (cut := fun _ _ => false) (inl := fun _ => true) 120 _ _ _ ?_
  exact And.intro (fun _ => hK) (fun q => absurd a0 q)
theorem c_find_n1 {x : Int32} (a0 : ¬ x < 0) (a1 : I 21 1 ≤ x) (hK : K (some (.ref 0)) (am_mk kt I J T n s)) : am_T am_C (15, 0, 0, [.ref 21, .int x], []) (am_mk kt I J T n s) K := by
  refine am_wq_T (cut := fun _ _ => false) (inl := fun _ => true) 120 _ _ _ ?_
  exact And.intro (fun q => absurd q a0) (fun _ => And.intro rfl (And.intro (fun _ => hK) (fun q => absurd a1 q)))
theorem m_in_y {x a b : Int32} (h0 : ¬ x < a) (h1 : ¬ b < x) (hK : K (some (.int 1)) (am_mk kt I J T n s)) : am_T am_C (113, 0, 0, [.int x, .int a, .int b], []) (am_mk kt I J T n s) K := by
  refine am_wq_T (cut := fun _ _ => false) (inl := fun _ => true) 120 _ _ _ ?_
  exact And.intro (fun q => absurd q h0) (fun _ => And.intro (fun q => absurd q h1) (fun _ => And.intro rfl hK))
theorem m_in_n0 {x a b : Int32} (h0 : x < a) (hK : K (some (.int 0)) (am_mk kt I J T n s)) : am_T am_C (113, 0, 0, [.int x, .int a, .int b], []) (am_mk kt I J T n s) K := by
  refine am_wq_T (cut := fun _ _ => false) (inl := fun _ => true) 120 _ _ _ ?_
  exact And.intro (fun _ => And.intro rfl hK) (fun q => absurd h0 q)
theorem m_in_n1 {x a b : Int32} (h0 : ¬ x < a) (h1 : b < x) (hK : K (some (.int 0)) (am_mk kt I J T n s)) : am_T am_C (113, 0, 0, [.int x, .int a, .int b], []) (am_mk kt I J T n s) K := by
  refine am_wq_T (cut := fun _ _ => false) (inl := fun _ => true) 120 _ _ _ ?_
  exact And.intro (fun q => absurd q h0) (fun _ => And.intro (fun _ => And.intro rfl hK) (fun q => absurd h1 q))
theorem c_within_y {x b : Int32} (h0 : ¬ x < 0) (h1 : ¬ b < x) (hK : K (some (.int 1)) (am_mk kt I J T n s)) : am_T am_C (105, 0, 0, [.int x, .int b], []) (am_mk kt I J T n s) K := by
  refine am_wq_T (cut := fun _ _ => false) (inl := fun _ => true) 120 _ _ _ ?_
  exact And.intro (fun q => absurd q h0) (fun _ => And.intro (fun q => absurd q h1) (fun _ => And.intro rfl hK))
theorem c_within_n0 {x b : Int32} (h0 : x < 0) (hK : K (some (.int 0)) (am_mk kt I J T n s)) : am_T am_C (105, 0, 0, [.int x, .int b], []) (am_mk kt I J T n s) K := by
  refine am_wq_T (cut := fun _ _ => false) (inl := fun _ => true) 120 _ _ _ ?_
  exact And.intro (fun _ => And.intro rfl hK) (fun q => absurd h0 q)
theorem c_within_n1 {x b : Int32} (h0 : ¬ x < 0) (h1 : b < x) (hK : K (some (.int 0)) (am_mk kt I J T n s)) : am_T am_C (105, 0, 0, [.int x, .int b], []) (am_mk kt I J T n s) K := by
  refine am_wq_T (cut := fun _ _ => false) (inl := fun _ => true) 120 _ _ _ ?_
  exact And.intro (fun q => absurd q h0) (fun _ => And.intro (fun _ => And.intro rfl hK) (fun q => absurd h1 q))
theorem vp1N : vp_in 1 1448 := vpl (k := 1) (by decide) (by decide)
theorem vp7N : vp_in 7 1448 := vpl (k := 7) (by decide) (by decide)
theorem m_isHole_y {x : Int32} (a0 : ¬ x < 0) (a2 : ¬ I 108 1 - 1 < x) (hK : K (some (.int 1)) (am_mk kt I J T n s)) : am_T am_C (117, 1, 0, [.ref 107, .int x], []) (am_mk kt I J T n s) K := by
  refine am_wq_T (cut := fun _ _ => false) (inl := fun z => !(Nat.beq z 113)) 120 _ _ _ ?_
  exact And.intro rfl (And.intro ⟨rfl, vp1N⟩ (m_in_y a0 a2 (And.intro rfl hK)))
theorem m_isHole_n0 {x : Int32} (a0 : x < 0) (hK : K (some (.int 0)) (am_mk kt I J T n s)) : am_T am_C (117, 1, 0, [.ref 107, .int x], []) (am_mk kt I J T n s) K := by
  refine am_wq_T (cut := fun _ _ => false) (inl := fun z => !(Nat.beq z 113)) 120 _ _ _ ?_
  exact And.intro rfl (And.intro ⟨rfl, vp1N⟩ (m_in_n0 a0 (And.intro rfl hK)))
theorem m_isHole_n1 {x : Int32} (a0 : ¬ x < 0) (a2 : I 108 1 - 1 < x) (hK : K (some (.int 0)) (am_mk kt I J T n s)) : am_T am_C (117, 1, 0, [.ref 107, .int x], []) (am_mk kt I J T n s) K := by
  refine am_wq_T (cut := fun _ _ => false) (inl := fun z => !(Nat.beq z 113)) 120 _ _ _ ?_
  exact And.intro rfl (And.intro ⟨rfl, vp1N⟩ (m_in_n1 a0 a2 (And.intro rfl hK)))
theorem L_adds (x : Int32) : sg_Call (76, 6, 0, [.ref 20, .int x], []) (153, 26, 0, [.ref 107, .int x], []) := by
  intro L xs kt I J T n s K hS hK
  have h13 := hS.1.2.2.2.1
  obtain ⟨hc, wc, tc, hR, hB⟩ := hS.2.1
  have hr := RB_of hR hB
  have h15 := J15_of hS
  have hw6 := hR.2.1
  rcases hole_cases hR x with ⟨h, hh, hh10, rfl, a0, a1, a2, hv⟩ | a0 | ⟨a0, a1, a2⟩
  · refine am_wq_T (cut := fun _ _ => false) (inl := fun z => !((Nat.beq z 15 || Nat.beq z 1))) 120 _ _ _ ?_
    refine And.intro rfl (And.intro rfl (c_find_y a0 a1 hh10 hv (And.intro (fun q => absurd q (show ¬ 27 + h = 0 by omega)) (fun _ => And.intro rfl (And.intro rfl (And.intro rfl ?_))))))
    refine c_solve21 (N := I 108) hR hr.2.1 hr.2.2.1 h15 (fun I1 J1 p m1 c1 _ j1 _ _ x1 b1 => ?_)
    have hR1 : sg_LR kt I1 T n 21 (I 108) hc wc tc := LR_cg (fun r k hr => by rw [c1 r (by unfold PS CT; omega)]) hR
    refine And.intro rfl (And.intro rfl (And.intro rfl ?_))
    refine c_solve21 (N := I 108) hR1 hr.2.1 hr.2.2.1 (by rw [j1 15 (by unfold PJ; omega)]; exact h15) (fun I2 J2 p2 m2 c2 _ j2 _ _ x2 b2 => ?_)
    have d2 : ch NR I I2 := ch_nr (ch_w c1 fun r q => PS_NR q) (ch_w c2 fun r q => PS_NR q)
    refine hK _ kt I2 J2 T n s ⟨h13, d2 13 (by unfold NR CT; omega), ?_⟩
    have hN2 : I2 108 = I 108 := d2 108 (by unfold NR CT; omega)
    refine am_wq_T (cut := fun _ _ => false) (inl := fun z => !((Nat.beq z 117 || Nat.beq z 149))) 120 _ _ _ ?_
    refine And.intro rfl (m_isHole_y a0 (by rw [hN2]; exact a2) (And.intro (fun q => absurd q m1z) (fun _ => And.intro rfl ?_)))
    refine m_met (N := I 108) hN2 hr.1 hr.2.1 (fun I3 m3 c3 x3 b3 => ?_)
    refine And.intro rfl ?_
    refine m_met (N := I 108) (by rw [c3 108 (by unfold PM PF; omega)]; exact hN2) hr.1 hr.2.1 (fun I4 m4 c4 x4 b4 => ?_)
    have e1 : m3 = m1 := by have := IsMax_u x3 (tkS_N hw6 x1); omega
    have e2 : m4 = m2 := by have := IsMax_u x4 (tkS_N hw6 x2); omega
    subst e1; subst e2
    exact End_of rfl (sim_ch (ch_nr d2 (ch_nr (ch_w c3 fun r q => PM_NR q) (ch_w c4 fun r q => PM_NR q))) (chJ_nr j1 j2) hS)
  · have hM : sg_Mid L xs I n s (153, 26, 0, [.ref 107, .int x], []) (-1000000001) kt I J T n s := by
      refine ⟨h13, rfl, ?_⟩
      refine am_wq_T (cut := fun _ _ => false) (inl := fun z => !((Nat.beq z 117 || Nat.beq z 149))) 120 _ _ _ ?_
      exact And.intro rfl (m_isHole_n0 a0 (And.intro (fun _ => End_of rfl hS) (fun q => absurd rfl q)))
    refine am_wq_T (cut := fun _ _ => false) (inl := fun z => !((Nat.beq z 15 || Nat.beq z 1))) 120 _ _ _ ?_
    exact And.intro rfl (And.intro rfl (c_find_n0 a0 (And.intro (fun _ => hK _ _ _ _ _ _ _ hM) (fun q => absurd rfl q))))
  · have hM : sg_Mid L xs I n s (153, 26, 0, [.ref 107, .int x], []) (-1000000001) kt I J T n s := by
      refine ⟨h13, rfl, ?_⟩
      refine am_wq_T (cut := fun _ _ => false) (inl := fun z => !((Nat.beq z 117 || Nat.beq z 149))) 120 _ _ _ ?_
      exact And.intro rfl (m_isHole_n1 a0 a2 (And.intro (fun _ => End_of rfl hS) (fun q => absurd rfl q)))
    refine am_wq_T (cut := fun _ _ => false) (inl := fun z => !((Nat.beq z 15 || Nat.beq z 1))) 120 _ _ _ ?_
    exact And.intro rfl (And.intro rfl (c_find_n1 a0 a1 (And.intro (fun _ => hK _ _ _ _ _ _ _ hM) (fun q => absurd rfl q))))
end T55
