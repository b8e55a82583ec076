/-! takes, settles -/
section T65
variable {kt : Nat → Nat × Nat} {I I' : Nat → Nat → Int32} {J J' : Nat → Nat → Int64} {T T' : Nat → Nat → Nat} {n s : Nat} {L : Nat} {xs : Nat → Int32} {K : Option Value → am_M → Prop} {N N' : Nat → Int32} {hc wc tc h w : Nat}
theorem c_isSp_y {x : Int32} (h0 : ¬ x < 1) (h1 : ¬ 99 < x) (hK : K (some (.int 1)) (am_mk kt I J T n s)) : am_T am_C (106, 0, 0, [.int x], []) (am_mk kt I J T n s) K := by
  refine am_wq_T (cut := fun _ _ => false) (inl := fun _ => true) 120 _ _ _ ?_
  exact And.intro (fun q => absurd q h0) (fun _ => And.intro (fun q => absurd q h1) (fun _ => And.intro rfl hK))
theorem c_isSp_n0 {x : Int32} (h0 : x < 1) (hK : K (some (.int 0)) (am_mk kt I J T n s)) : am_T am_C (106, 0, 0, [.int x], []) (am_mk kt I J T n s) K := by
  refine am_wq_T (cut := fun _ _ => false) (inl := fun _ => true) 120 _ _ _ ?_
  exact And.intro (fun _ => And.intro rfl hK) (fun q => absurd h0 q)
theorem c_isSp_n1 {x : Int32} (h0 : ¬ x < 1) (h1 : 99 < x) (hK : K (some (.int 0)) (am_mk kt I J T n s)) : am_T am_C (106, 0, 0, [.int x], []) (am_mk kt I J T n s) K := by
  refine am_wq_T (cut := fun _ _ => false) (inl := fun _ => true) 120 _ _ _ ?_
  exact And.intro (fun q => absurd q h0) (fun _ => And.intro (fun _ => And.intro rfl hK) (fun q => absurd h1 q))
theorem m_isDug_y {x : Int32} (a0 : ¬ x < 1) (a1 : ¬ 99 < x) (hK : K (some (.int 1)) (am_mk kt I J T n s)) : am_T am_C (120, 1, 0, [.int x], []) (am_mk kt I J T n s) K := by
  refine am_wq_T (cut := fun _ _ => false) (inl := fun z => !(Nat.beq z 113)) 120 _ _ _ ?_
  exact m_in_y a0 a1 (And.intro rfl hK)
theorem m_isDug_n0 {x : Int32} (a0 : x < 1) (hK : K (some (.int 0)) (am_mk kt I J T n s)) : am_T am_C (120, 1, 0, [.int x], []) (am_mk kt I J T n s) K := by
  refine am_wq_T (cut := fun _ _ => false) (inl := fun z => !(Nat.beq z 113)) 120 _ _ _ ?_
  exact m_in_n0 a0 (And.intro rfl hK)
theorem m_isDug_n1 {x : Int32} (a0 : ¬ x < 1) (a1 : 99 < x) (hK : K (some (.int 0)) (am_mk kt I J T n s)) : am_T am_C (120, 1, 0, [.int x], []) (am_mk kt I J T n s) K := by
  refine am_wq_T (cut := fun _ _ => false) (inl := fun z => !(Nat.beq z 113)) 120 _ _ _ ?_
  exact m_in_n1 a0 a1 (And.intro rfl hK)
/-- which of the first holes take so much -/
noncomputable def tkm (N : Nat → Int32) (tc : Nat) (e p : Int32) : Nat → Nat
  | 0 => 0
  | h + 1 => @ite Nat (TK N tc h e p) (Classical.propDecidable _) (bor (tkm N tc e p h) h) (tkm N tc e p h)
theorem tkm_t {e p : Int32} (q : TK N tc h e p) : tkm N tc e p (h + 1) = bor (tkm N tc e p h) h := @if_pos _ (Classical.propDecidable _) q _ _ _
theorem tkm_f {e p : Int32} (q : ¬ TK N tc h e p) : tkm N tc e p (h + 1) = tkm N tc e p h := @if_neg _ (Classical.propDecidable _) q _ _ _
theorem c_takes_l {e p sp : Int32} (hB : HB N hc) (hp : sg_in p 0 29) {I0 : Nat → Nat → Int32} (hK : ∀ I', ch CT I0 I' → K (some (.int (nI (tkm N tc e p hc)))) (am_mk kt I' J T n s)) : ∀ (j h : Nat) (I : Nat → Nat → Int32), h + j = hc → ch CT I0 I → sg_LR kt I T n 21 N hc wc tc → am_T am_C (71, 4, 34, [.ref 20, .int p, .int sp, .int e, .int (nI (tkm N tc e p h)), .int (nI h)], []) (am_mk kt I J T n s) K
  | 0, h, I, hh, hI, hR => by
    have h10 := hR.1
    have : h = hc := by omega
    subst this
    have c1 : I 21 1 ≤ nI h := by rw [hR.2.2.2.2.2.2.1]; exact nI_le (Nat.le_refl _) (by omega)
    refine am_wq_T (cut := fun z pc => (Nat.beq z 71 && Nat.beq pc 34)) (inl := fun _ => false) 120 _ _ _ ?_
    exact And.intro rfl (And.intro rfl (And.intro (fun _ => hK I hI) (fun q => absurd c1 q)))
  | j + 1, h, I, hh, hI, hR => by
    have h10 := hR.1
    have c1 : ¬ I 21 1 ≤ nI h := by rw [hR.2.2.2.2.2.2.1]; exact nI_ge (by omega) (by omega)
    have vh : vp_in (nI h) 10 := vpl (by omega) (by decide)
    refine am_wq_T (cut := fun z pc => (Nat.beq z 71 && Nat.beq pc 34)) (inl := fun z => !(Nat.beq z 21)) 120 _ _ _ ?_
    refine And.intro rfl (And.intro rfl (And.intro (fun q => absurd q c1) (fun _ => And.intro rfl (And.intro rfl (And.intro rfl (And.intro ⟨rfl, vh⟩ (And.intro rfl ?_)))))))
    refine c_canFill21 (h := h) hR hB (by omega) (rL21 (by omega)) hp (fun I2 a c => ?_) (fun I2 a c => ?_)
    · have key := c_takes_l (sp := sp) hB hp hK j (h + 1) I2 (by omega) (ch_tr hI a fun r q => q.elim id id) (CT_LR (by decide) a hR)
      rw [nI_succ, tkm_t c, ← or_bor (by omega)] at key
      exact And.intro (fun q => absurd q m1z) (fun _ => key)
    · have key := c_takes_l (sp := sp) hB hp hK j (h + 1) I2 (by omega) (ch_tr hI a fun r q => q.elim id id) (CT_LR (by decide) a hR)
      rw [nI_succ, tkm_f c] at key
      exact And.intro (fun _ => key) (fun q => absurd rfl q)
theorem m_takes_l {e p sp : Int32} (hr : RB N hc wc tc) (he : sp * N 4 / 100 = e) {I0 : Nat → Nat → Int32} (hK : ∀ I', ch PF I0 I' → K (some (.int (nI (tkm N tc e p hc)))) (am_mk kt I' J T n s)) : ∀ (j h : Nat) (I : Nat → Nat → Int32), h + j = hc → ch PF I0 I → I 108 = N → am_T am_C (143, 4, 22, [.ref 107, .int p, .int sp, .int (nI (tkm N tc e p h)), .int (nI h)], []) (am_mk kt I J T n s) K
  | 0, h, I, hh, hI, hN => by
    have h10 := hr.2.2.2
    have : h = hc := by omega
    subst this
    have c1 : I 108 1 ≤ nI h := by rw [hN, hr.1.2.2.2.1]; exact nI_le (Nat.le_refl _) (by omega)
    refine am_wq_T (cut := fun z pc => (Nat.beq z 143 && Nat.beq pc 22)) (inl := fun _ => false) 120 _ _ _ ?_
    exact And.intro rfl (And.intro ⟨rfl, vp1N⟩ (And.intro (fun _ => hK I hI) (fun q => absurd c1 q)))
  | j + 1, h, I, hh, hI, hN => by
    have h10 := hr.2.2.2
    have c1 : ¬ I 108 1 ≤ nI h := by rw [hN, hr.1.2.2.2.1]; exact nI_ge (by omega) (by omega)
    refine am_wq_T (cut := fun z pc => (Nat.beq z 143 && Nat.beq pc 22)) (inl := fun z => !((Nat.beq z 139 || Nat.beq z 142))) 120 _ _ _ ?_
    refine And.intro rfl (And.intro ⟨rfl, vp1N⟩ (And.intro (fun q => absurd q c1) (fun _ => And.intro rfl (m_earth (And.intro rfl ?_)))))
    show am_T am_C (142, 3, 0, [.ref 107, .int (nI h), .int (sp * I 108 4 / 100), .int p, .null, .null], []) (am_mk kt I J T n s) _
    rw [hN, he]
    refine m_doesTake hN hr.1 (by omega) (hr.2.1 h (by omega)).1 (fun I2 a b c => ?_) (fun I2 a b c => ?_)
    · have key := m_takes_l hr he hK j (h + 1) I2 (by omega) (ch_tr hI a fun r q => q.elim id id) b
      rw [nI_succ, tkm_t c, ← or_bor (by omega)] at key
      exact And.intro (fun q => absurd q m1z) (fun _ => key)
    · have key := m_takes_l hr he hK j (h + 1) I2 (by omega) (ch_tr hI a fun r q => q.elim id id) b
      rw [nI_succ, tkm_f c, show nI (tkm N tc e p h) = nI (tkm N tc e p h) ||| 0 by rw [show (0 : Int32) = nI 0 from rfl, nI_or, Nat.or_zero]] at key
      exact And.intro (fun _ => key) (fun q => absurd rfl q)
theorem L_takes (x y : Int32) : sg_Call (71, 4, 0, [.ref 20, .int x, .int y, .null, .null, .null], []) (143, 4, 0, [.ref 107, .int x, .int y, .null, .null], []) := by
  intro L xs kt I J T n s K hS hK
  have h13 := hS.1.2.2.2.1
  obtain ⟨hc, wc, tc, hR, hB⟩ := hS.2.1
  have hr := RB_of hR hB
  rcases rng x 0 29 with ⟨a0, a1⟩ | a0 | ⟨a0, a1⟩
  · rcases rng y 1 99 with ⟨b0, b1⟩ | b0 | ⟨b0, b1⟩
    · have hp : sg_in x 0 29 := by unfold sg_in; clear hK hS hR hB hr; (simp only [Int32.lt_iff_toInt_lt, Int32.le_iff_toInt_le, gt_iff_lt, ge_iff_le, ← Int32.toInt_inj, Int32.reduceToInt, Int32.reduceMul, Int32.reduceAdd, Int32.reduceSub, ne_eq, true_and, and_true, false_and, and_false, not_true_eq_false, not_false_eq_true, true_or, or_true, false_or, or_false] at *; omega)
      have e9 : I 21 9 = I 108 4 := hR.2.2.2.2.2.2.2.2.2.2.2.2.1
      have l100 : ¬ (100 : Int32) = 0 := by decide
      have key := c_takes_l (kt := kt) (J := J) (T := T) (n := n) (s := s) (K := K) (wc := wc) (tc := tc) (N := I 108) (e := y * I 21 9 / 100) (p := x) (sp := y) hr.2.1 hp (I0 := I) (fun I1 a => by
        have d1 : ch NR I I1 := ch_w a fun r q => CT_NR q
        have hN1 : I1 108 = I 108 := d1 108 (by unfold NR CT; omega)
        refine hK _ kt I1 J T n s ⟨h13, d1 13 (by unfold NR CT; omega), ?_⟩
        have k2 := m_takes_l (kt := kt) (J := J) (T := T) (n := n) (s := s) (K := sg_End L xs n s (nI (tkm (I 108) tc (y * I 21 9 / 100) x hc))) (N := I 108) (e := y * I 21 9 / 100) (p := x) (sp := y) hr (by rw [e9]) (I0 := I1) (fun I2 b => End_of rfl (sim_ch (ch_nr d1 (ch_w b fun r q => PF_NR q)) chJ_rfl hS)) hc 0 I1 (by omega) ch_rfl hN1
        refine am_wq_T (cut := fun z pc => (Nat.beq z 143 && Nat.beq pc 22)) (inl := fun z => !((Nat.beq z 118 || Nat.beq z 120))) 120 _ _ _ ?_
        exact m_isPlace_y a0 a1 (And.intro (fun q => absurd q m1z) (fun _ => m_isDug_y b0 b1 (And.intro (fun _ => k2) (fun q => absurd m1z q))))) hc 0 I (by omega) ch_rfl hR
      refine am_wq_T (cut := fun z pc => (Nat.beq z 71 && Nat.beq pc 34)) (inl := fun z => !((Nat.beq z 105 || Nat.beq z 106))) 120 _ _ _ ?_
      exact c_within_y a0 a1 (And.intro (fun q => absurd q m1z) (fun _ => c_isSp_y b0 b1 (And.intro (fun _ => And.intro rfl (And.intro rfl (And.intro rfl (And.intro l100 key)))) (fun q => absurd m1z q))))
    all_goals
      have hM : sg_Mid L xs I n s (143, 4, 0, [.ref 107, .int x, .int y, .null, .null], []) (-1000000001) kt I J T n s := by
        refine ⟨h13, rfl, ?_⟩
        refine am_wq_T (cut := fun _ _ => false) (inl := fun z => !((Nat.beq z 118 || Nat.beq z 120))) 120 _ _ _ ?_
        refine m_isPlace_y a0 a1 (And.intro (fun q => absurd q m1z) (fun _ => ?_))
        first | exact m_isDug_n0 b0 (And.intro (fun q => absurd rfl q) (fun _ => End_of rfl hS)) | exact m_isDug_n1 b0 b1 (And.intro (fun q => absurd rfl q) (fun _ => End_of rfl hS))
      refine am_wq_T (cut := fun _ _ => false) (inl := fun z => !((Nat.beq z 105 || Nat.beq z 106))) 120 _ _ _ ?_
      refine c_within_y a0 a1 (And.intro (fun q => absurd q m1z) (fun _ => ?_))
      first | exact c_isSp_n0 b0 (And.intro (fun q => absurd rfl q) (fun _ => hK _ _ _ _ _ _ _ hM)) | exact c_isSp_n1 b0 b1 (And.intro (fun q => absurd rfl q) (fun _ => hK _ _ _ _ _ _ _ hM))
  all_goals
    have hM : sg_Mid L xs I n s (143, 4, 0, [.ref 107, .int x, .int y, .null, .null], []) (-1000000001) kt I J T n s := by
      refine ⟨h13, rfl, ?_⟩
      refine am_wq_T (cut := fun _ _ => false) (inl := fun z => !((Nat.beq z 118 || Nat.beq z 120))) 120 _ _ _ ?_
      first | exact m_isPlace_n0 a0 (And.intro (fun _ => End_of rfl hS) (fun q => absurd rfl q)) | exact m_isPlace_n1 a0 a1 (And.intro (fun _ => End_of rfl hS) (fun q => absurd rfl q))
    refine am_wq_T (cut := fun _ _ => false) (inl := fun z => !((Nat.beq z 105 || Nat.beq z 106))) 120 _ _ _ ?_
    first | exact c_within_n0 a0 (And.intro (fun _ => hK _ _ _ _ _ _ _ hM) (fun q => absurd rfl q)) | exact c_within_n1 a0 a1 (And.intro (fun _ => hK _ _ _ _ _ _ _ hM) (fun q => absurd rfl q))
theorem L_settles (x y : Int32) : sg_Call (67, 4, 0, [.ref 20, .int x, .int y, .null], []) (134, 3, 0, [.ref 107, .int x, .int y], []) := by
  intro L xs kt I J T n s K hS hK
  have h13 := hS.1.2.2.2.1
  obtain ⟨hc, wc, tc, hR, hB⟩ := hS.2.1
  have hr := RB_of hR hB
  rcases hole_cases hR x with ⟨h, hh, hh10, rfl, a0, a1, a2, hv⟩ | a0 | ⟨a0, a1, a2⟩
  · have hnz : ¬ 27 + h = 0 := by omega
    rcases rng y 0 9 with ⟨b0, b1⟩ | b0 | ⟨b0, b1⟩
    · have hy : sg_in y 0 9 := by unfold sg_in; clear hK hS hR hB hr; (simp only [Int32.lt_iff_toInt_lt, Int32.le_iff_toInt_le, gt_iff_lt, ge_iff_le, ← Int32.toInt_inj, Int32.reduceToInt, Int32.reduceMul, Int32.reduceAdd, Int32.reduceSub, ne_eq, true_and, and_true, false_and, and_false, not_true_eq_false, not_false_eq_true, true_or, or_true, false_or, or_false] at *; omega)
      refine am_wq_T (cut := fun _ _ => false) (inl := fun z => !((Nat.beq z 15 || (Nat.beq z 105 || Nat.beq z 23)))) 120 _ _ _ ?_
      refine And.intro rfl (And.intro rfl (c_find_y a0 a1 hh10 hv (And.intro (fun q => absurd q hnz) (fun _ => c_within_y b0 b1 (And.intro (fun _ => And.intro rfl (And.intro rfl ?_)) (fun q => absurd m1z q))))))
      refine c_sinks21 (N := I 108) (h := h) hR hr.2.1 hh rfl hy (fun I1 a => ?_)
      have d1 : ch NR I I1 := ch_w a fun r q => CT_NR q
      have hN1 : I1 108 = I 108 := d1 108 (by unfold NR CT; omega)
      refine hK _ kt I1 J T n s ⟨h13, d1 13 (by unfold NR CT; omega), ?_⟩
      refine am_wq_T (cut := fun _ _ => false) (inl := fun z => !((Nat.beq z 117 || (Nat.beq z 113 || Nat.beq z 133)))) 120 _ _ _ ?_
      refine And.intro rfl (m_isHole_y a0 (by rw [hN1]; exact a2) (And.intro (fun q => absurd q m1z) (fun _ => m_in_y b0 b1 (And.intro (fun q => absurd q m1z) (fun _ => And.intro rfl ?_)))))
      refine m_settles (N := I 108) hN1 hr.1 (by omega) (hr.2.1 h hh).1 fun I2 b c => ?_
      exact End_of rfl (sim_ch (ch_nr d1 (ch_w b fun r q => PF_NR q)) chJ_rfl hS)
    all_goals
      have hM : sg_Mid L xs I n s (134, 3, 0, [.ref 107, .int (nI h), .int y], []) (-1000000001) kt I J T n s := by
        refine ⟨h13, rfl, ?_⟩
        refine am_wq_T (cut := fun _ _ => false) (inl := fun z => !((Nat.beq z 117 || (Nat.beq z 113 || Nat.beq z 133)))) 120 _ _ _ ?_
        refine And.intro rfl (m_isHole_y a0 a2 (And.intro (fun q => absurd q m1z) (fun _ => ?_)))
        first | exact m_in_n0 b0 (And.intro (fun _ => End_of rfl hS) (fun q => absurd rfl q)) | exact m_in_n1 b0 b1 (And.intro (fun _ => End_of rfl hS) (fun q => absurd rfl q))
      refine am_wq_T (cut := fun _ _ => false) (inl := fun z => !((Nat.beq z 15 || (Nat.beq z 105 || Nat.beq z 23)))) 120 _ _ _ ?_
      refine And.intro rfl (And.intro rfl (c_find_y a0 a1 hh10 hv (And.intro (fun q => absurd q hnz) (fun _ => ?_))))
      first | exact c_within_n0 b0 (And.intro (fun q => absurd rfl q) (fun _ => hK _ _ _ _ _ _ _ hM)) | exact c_within_n1 b0 b1 (And.intro (fun q => absurd rfl q) (fun _ => hK _ _ _ _ _ _ _ hM))
  all_goals
    have hM : sg_Mid L xs I n s (134, 3, 0, [.ref 107, .int x, .int y], []) (-1000000001) kt I J T n s := by
      refine ⟨h13, rfl, ?_⟩
      refine am_wq_T (cut := fun _ _ => false) (inl := fun z => !((Nat.beq z 117 || (Nat.beq z 113 || Nat.beq z 133)))) 120 _ _ _ ?_
      first | exact And.intro rfl (m_isHole_n0 a0 (And.intro (fun _ => End_of rfl hS) (fun q => absurd rfl q))) | exact And.intro rfl (m_isHole_n1 a0 a2 (And.intro (fun _ => End_of rfl hS) (fun q => absurd rfl q)))
    refine am_wq_T (cut := fun _ _ => false) (inl := fun z => !((Nat.beq z 15 || (Nat.beq z 105 || Nat.beq z 23)))) 120 _ _ _ ?_
    first | exact And.intro rfl (And.intro rfl (c_find_n0 a0 (And.intro (fun _ => hK _ _ _ _ _ _ _ hM) (fun q => absurd rfl q)))) | exact And.intro rfl (And.intro rfl (c_find_n1 a0 a1 (And.intro (fun _ => hK _ _ _ _ _ _ _ hM) (fun q => absurd rfl q))))
end T65
