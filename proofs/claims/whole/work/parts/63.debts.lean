/-! owes, debtor, fine -/
section T63
variable {kt : Nat → Nat × Nat} {I I' : Nat → Nat → Int32} {J J' : Nat → Nat → Int64} {T T' : Nat → Nat → Nat} {n s : Nat} {L : Nat} {xs : Nat → Int32} {K : Option Value → am_M → Prop} {N N' : Nat → Int32} {hc wc tc h w : Nat}
theorem m_isOwner_y {x : Int32} (a0 : ¬ x < 0) (a1 : ¬ 7 < x) (hK : K (some (.int 1)) (am_mk kt I J T n s)) : am_T am_C (119, 1, 0, [.int x], []) (am_mk kt I J T n s) K := by
  refine am_wq_T (cut := fun _ _ => false) (inl := fun z => !(Nat.beq z 113)) 120 _ _ _ ?_
  exact m_in_y a0 a1 (And.intro rfl hK)
theorem m_isOwner_n0 {x : Int32} (a0 : x < 0) (hK : K (some (.int 0)) (am_mk kt I J T n s)) : am_T am_C (119, 1, 0, [.int x], []) (am_mk kt I J T n s) K := by
  refine am_wq_T (cut := fun _ _ => false) (inl := fun z => !(Nat.beq z 113)) 120 _ _ _ ?_
  exact m_in_n0 a0 (And.intro rfl hK)
theorem m_isOwner_n1 {x : Int32} (a0 : ¬ x < 0) (a1 : 7 < x) (hK : K (some (.int 0)) (am_mk kt I J T n s)) : am_T am_C (119, 1, 0, [.int x], []) (am_mk kt I J T n s) K := by
  refine am_wq_T (cut := fun _ _ => false) (inl := fun z => !(Nat.beq z 113)) 120 _ _ _ ?_
  exact m_in_n1 a0 a1 (And.intro rfl hK)
theorem c_debt_l (hR : sg_LR kt I T n 21 N hc wc tc) {o : Int32} : ∀ (j i : Nat), i + j = hc → K (some (.int (oz N o hc))) (am_mk kt I J T n s) → am_T am_C (28, 0, 4, [.ref 21, .int o, .int (oz N o i), .int (nI i)], []) (am_mk kt I J T n s) K
  | 0, i, hi, hK => by
    have h10 := hR.1
    have : i = hc := by omega
    subst this
    have c1 : I 21 1 ≤ nI i := by rw [hR.2.2.2.2.2.2.1]; exact nI_le (Nat.le_refl _) (by omega)
    refine am_wq_T (cut := fun z pc => (Nat.beq z 28 && Nat.beq pc 4)) (inl := fun _ => false) 120 _ _ _ ?_
    exact And.intro rfl (And.intro (fun _ => hK) (fun q => absurd c1 q))
  | j + 1, i, hi, hK => by
    have h10 := hR.1
    have c1 : ¬ I 21 1 ≤ nI i := by rw [hR.2.2.2.2.2.2.1]; exact nI_ge (by omega) (by omega)
    have vi : vp_in (nI i) 10 := vpl (by omega) (by decide)
    have e2 : I (27 + i) 2 = N (23 + 5 * i) := by rw [show 23 + 5 * i = 21 + 5 * i + 2 by omega]; exact hR.2.2.2.2.2.2.2.2.2.1 i (by omega) 2 (by decide)
    have e3 : I (27 + i) 3 = N (24 + 5 * i) := by rw [show 24 + 5 * i = 21 + 5 * i + 3 by omega]; exact hR.2.2.2.2.2.2.2.2.2.1 i (by omega) 3 (by decide)
    have key := c_debt_l hR j (i + 1) (by omega) hK
    rw [nI_succ i] at key
    refine am_wq_T (cut := fun z pc => (Nat.beq z 28 && Nat.beq pc 4)) (inl := fun _ => false) 120 _ _ _ ?_
    refine And.intro rfl (And.intro (fun q => absurd q c1) (fun _ => And.intro rfl (And.intro ⟨rfl, vi⟩ ?_)))
    rw [rL21 (by omega)]
    refine And.intro (kL21 (by omega)) (And.intro (fun q => ?_) (fun q => ?_))
    · have q : ¬ I (27 + i) 3 = o := q
      rw [show oz N o (i + 1) = oz N o i from by
        show oz N o i + (if N (24 + 5 * i) = o then N (23 + 5 * i) else 0) = _
        rw [if_neg (by rw [← e3]; exact q)]; exact Int32.add_zero _] at key
      exact key
    · have q : ¬ ¬ I (27 + i) 3 = o := q
      rw [show oz N o (i + 1) = oz N o i + I (27 + i) 2 from by
        show oz N o i + (if N (24 + 5 * i) = o then N (23 + 5 * i) else 0) = _
        rw [if_pos (by rw [← e3]; exact Classical.not_not.mp q), e2]] at key
      refine And.intro rfl (And.intro ⟨rfl, vi⟩ ?_)
      rw [rL21 (by omega)]
      exact And.intro (kL21 (by omega)) key
theorem c_debtV {o v : Int32} (hR : sg_LR kt I T n 21 N hc wc tc) (hv : oz N o hc = v) (hK : K (some (.int v)) (am_mk kt I J T n s)) : am_T am_C (28, 0, 0, [.ref 21, .int o, .null, .null], []) (am_mk kt I J T n s) K := by
  have key := c_debt_l (kt := kt) (J := J) (K := K) (s := s) (o := o) hR hc 0 (by omega) (by rw [hv]; exact hK)
  refine am_wq_T (cut := fun z pc => (Nat.beq z 28 && Nat.beq pc 4)) (inl := fun _ => false) 120 _ _ _ ?_
  exact key
theorem m_owedV {o v : Int32} (hN : I 108 = N) (ho : RO N hc wc tc) (hv : oz N o hc = v) (hK : K (some (.int v)) (am_mk kt I J T n s)) : am_T am_C (165, 1, 0, [.ref 107, .int o, .null, .null], []) (am_mk kt I J T n s) K :=
  m_owed (hc := hc) (by rw [hN]; exact ho.2.2.2.1) ho.1 (by rw [hN, hv]; exact hK)
theorem L_owes (x : Int32) : sg_Call (82, 1, 0, [.ref 20, .int x], []) (166, 2, 0, [.ref 107, .int x], []) := by
  intro L xs kt I J T n s K hS hK
  have h13 := hS.1.2.2.2.1
  obtain ⟨hc, wc, tc, hR, hB⟩ := hS.2.1
  have hr := RB_of hR hB
  rcases rng x 0 7 with ⟨a0, a1⟩ | a0 | ⟨a0, a1⟩
  · have hM : sg_Mid L xs I n s (166, 2, 0, [.ref 107, .int x], []) (oz (I 108) x hc) kt I J T n s := by
      refine ⟨h13, rfl, ?_⟩
      refine am_wq_T (cut := fun _ _ => false) (inl := fun z => !((Nat.beq z 119 || Nat.beq z 165))) 120 _ _ _ ?_
      exact m_isOwner_y a0 a1 (And.intro (fun q => absurd q m1z) (fun _ => And.intro rfl (m_owedV (N := I 108) rfl hr.1 rfl (End_of rfl hS))))
    have key := hK _ _ _ _ _ _ _ hM
    refine am_wq_T (cut := fun _ _ => false) (inl := fun z => !((Nat.beq z 105 || Nat.beq z 28))) 120 _ _ _ ?_
    exact c_within_y a0 a1 (And.intro (fun q => absurd q m1z) (fun _ => And.intro rfl (And.intro rfl (c_debtV hR rfl key))))
  all_goals
    have hM : sg_Mid L xs I n s (166, 2, 0, [.ref 107, .int x], []) (-1000000001) kt I J T n s := by
      refine ⟨h13, rfl, ?_⟩
      refine am_wq_T (cut := fun _ _ => false) (inl := fun z => !((Nat.beq z 119 || Nat.beq z 165))) 120 _ _ _ ?_
      first | exact m_isOwner_n0 a0 (And.intro (fun _ => End_of rfl hS) (fun q => absurd rfl q)) | exact m_isOwner_n1 a0 a1 (And.intro (fun _ => End_of rfl hS) (fun q => absurd rfl q))
    refine am_wq_T (cut := fun _ _ => false) (inl := fun z => !((Nat.beq z 105 || Nat.beq z 28))) 120 _ _ _ ?_
    first | exact c_within_n0 a0 (And.intro (fun _ => hK _ _ _ _ _ _ _ hM) (fun q => absurd rfl q)) | exact c_within_n1 a0 a1 (And.intro (fun _ => hK _ _ _ _ _ _ _ hM) (fun q => absurd rfl q))
/-- who owes most of the first owners -/
def dbt (N : Nat → Int32) (hc : Nat) : Nat → Int32
  | 0 => 0
  | o + 1 => if oz N (nI (o + 1)) hc ≤ oz N (dbt N hc o) hc then dbt N hc o else nI (o + 1)
theorem c_debtor_l (hR : sg_LR kt I T n 21 N hc wc tc) : ∀ (j o : Nat), o + j = 7 → K (some (.int (dbt N hc 7))) (am_mk kt I J T n s) → am_T am_C (83, 1, 4, [.ref 20, .int (dbt N hc o), .int (nI (o + 1))], []) (am_mk kt I J T n s) K
  | 0, o, ho, hK => by
    have : o = 7 := by omega
    subst this
    have c1 : (7 : Int32) < nI (7 + 1) := by decide
    refine am_wq_T (cut := fun z pc => (Nat.beq z 83 && Nat.beq pc 4)) (inl := fun _ => false) 120 _ _ _ ?_
    exact And.intro (fun _ => hK) (fun q => absurd c1 q)
  | j + 1, o, ho, hK => by
    have c1 : ¬ (7 : Int32) < nI (o + 1) := nI_nlt (a := 7) (b := o + 1) (by omega) (by decide)
    have key := c_debtor_l hR j (o + 1) (by omega) hK
    rw [nI_succ (o + 1)] at key
    unfold dbt at key
    refine am_wq_T (cut := fun z pc => (Nat.beq z 83 && Nat.beq pc 4)) (inl := fun z => !(Nat.beq z 28)) 120 _ _ _ ?_
    refine And.intro (fun q => absurd q c1) (fun _ => And.intro rfl (And.intro rfl (c_debtV hR rfl (And.intro rfl (And.intro rfl (c_debtV hR rfl ?_))))))
    refine And.intro (fun q => ?_) (fun q => ?_)
    · have q : oz N (nI (o + 1)) hc ≤ oz N (dbt N hc o) hc := q
      rw [if_pos q] at key
      exact key
    · have q : ¬ oz N (nI (o + 1)) hc ≤ oz N (dbt N hc o) hc := q
      rw [if_neg q] at key
      exact key
theorem m_debtor_l (hN : I 108 = N) (hr : RO N hc wc tc) : ∀ (j o : Nat), o + j = 7 → K (some (.int (dbt N hc 7))) (am_mk kt I J T n s) → am_T am_C (167, 2, 4, [.ref 107, .int (dbt N hc o), .int (nI (o + 1))], []) (am_mk kt I J T n s) K
  | 0, o, ho, hK => by
    have : o = 7 := by omega
    subst this
    have c1 : (8 : Int32) ≤ nI (7 + 1) := by decide
    refine am_wq_T (cut := fun z pc => (Nat.beq z 167 && Nat.beq pc 4)) (inl := fun _ => false) 120 _ _ _ ?_
    exact And.intro (fun _ => hK) (fun q => absurd c1 q)
  | j + 1, o, ho, hK => by
    have c1 : ¬ (8 : Int32) ≤ nI (o + 1) := nI_ge (b := 8) (by omega) (by decide)
    have key := m_debtor_l hN hr j (o + 1) (by omega) hK
    rw [nI_succ (o + 1)] at key
    unfold dbt at key
    refine am_wq_T (cut := fun z pc => (Nat.beq z 167 && Nat.beq pc 4)) (inl := fun z => !(Nat.beq z 165)) 120 _ _ _ ?_
    refine And.intro (fun q => absurd q c1) (fun _ => And.intro rfl (m_owedV hN hr rfl (And.intro rfl (m_owedV hN hr rfl ?_))))
    refine And.intro (fun q => ?_) (fun q => ?_)
    · have q : oz N (nI (o + 1)) hc ≤ oz N (dbt N hc o) hc := q
      rw [if_pos q] at key
      exact key
    · have q : ¬ oz N (nI (o + 1)) hc ≤ oz N (dbt N hc o) hc := q
      rw [if_neg q] at key
      exact key
theorem L_debtor : sg_Call (83, 1, 0, [.ref 20, .null, .null], []) (167, 2, 0, [.ref 107, .null, .null], []) := by
  intro L xs kt I J T n s K hS hK
  have h13 := hS.1.2.2.2.1
  obtain ⟨hc, wc, tc, hR, hB⟩ := hS.2.1
  have hr := RB_of hR hB
  have hM : sg_Mid L xs I n s (167, 2, 0, [.ref 107, .null, .null], []) (dbt (I 108) hc 7) kt I J T n s := by
    refine ⟨h13, rfl, ?_⟩
    have key := m_debtor_l (kt := kt) (J := J) (T := T) (n := n) (s := s) (K := sg_End L xs n s (dbt (I 108) hc 7)) (N := I 108) (I := I) rfl hr.1 7 0 rfl (End_of rfl hS)
    refine am_wq_T (cut := fun z pc => (Nat.beq z 167 && Nat.beq pc 4)) (inl := fun _ => false) 120 _ _ _ ?_
    exact key
  have key := c_debtor_l (kt := kt) (J := J) (T := T) (n := n) (s := s) (K := K) hR 7 0 rfl (hK _ _ _ _ _ _ _ hM)
  refine am_wq_T (cut := fun z pc => (Nat.beq z 83 && Nat.beq pc 4)) (inl := fun _ => false) 120 _ _ _ ?_
  exact key
/-! fine -/
theorem l3null {x : Nat} (h : 134 ≤ x) : ¬ x = 0 := by omega
theorem c_fineOf {o f : Int32} (hR : sg_LR kt I T n 21 N hc wc tc) (hv : fiv N tc (oz N o hc) (N 5) = f) (hK : ∀ I', ch CT I I' → K (some (.int f)) (am_mk kt I' J T n s)) : am_T am_C (29, 2, 0, [.ref 21, .int o, .null], []) (am_mk kt I J T n s) K := by
  unfold fiv at hv
  have e5 : I 21 11 = N 5 := hR.2.2.2.2.2.2.2.2.2.2.2.2.2.2.1
  rcases cnt_c (N := N) (key := 2) tc hR.2.2.1 with e | ⟨t, ht, e, ek⟩
  · rw [e, if_pos (by decide)] at hv
    refine am_wq_T (cut := fun _ _ => false) (inl := fun z => !((Nat.beq z 31 || (Nat.beq z 58 || Nat.beq z 28)))) 120 _ _ _ ?_
    refine And.intro rfl (c_textFor21_no (key := 2) rfl (by decide) hR e ?_)
    exact And.intro (fun _ => And.intro rfl (c_debtV hR hv (hK I ch_rfl))) (fun q => absurd rfl q)
  · have h14 := hR.2.2.1
    rw [e, if_neg (nI_pos (by omega)), nI_clamp (by omega)] at hv
    have hT := hR.2.2.2.2.2.2.2.2.2.2.2.2.2.2.2.2.2.1 t ht
    have hk : 134 ≤ T 25 t ∧ am_k kt (T 25 t) = (6, 4) := by
      obtain ⟨_, _, _, q0, _, _, q, -⟩ := hT
      exact ⟨q0, (kr_own q0).trans q⟩
    refine am_wq_T (cut := fun _ _ => false) (inl := fun z => !((Nat.beq z 31 || (Nat.beq z 58 || Nat.beq z 28)))) 120 _ _ _ ?_
    refine And.intro rfl (c_textFor21 (key := 2) rfl (by decide) hR ht e ?_)
    refine And.intro (fun q => absurd q (l3null hk.1)) (fun _ => And.intro rfl (c_debtV hR rfl (And.intro rfl (And.intro hk.2 ?_))))
    show am_T am_C (58, 1, 0, [.ref (T 25 t), .int (oz N o hc), .int (I 21 11), .int 0, .null, .null, .null], []) (am_mk kt I J T n s) _
    rw [e5]
    refine c_valueT hT fun I' hI' => ?_
    rw [hv]
    exact hK I' hI'
theorem m_fine {x f : Int32} (hN : I 108 = N) (ho : RO N hc wc tc) (a0 : ¬ x < 0) (a1 : ¬ 7 < x) (hv : fiv N tc (oz N x hc) (N 5) = f) (hK : ∀ I', ch PF I I' → K (some (.int f)) (am_mk kt I' J T n s)) : am_T am_C (169, 2, 0, [.ref 107, .int x, .null], []) (am_mk kt I J T n s) K := by
  obtain ⟨d, hd⟩ : ∃ d, oz N x hc = d := ⟨_, rfl⟩
  rw [hd] at hv
  unfold fiv at hv
  have e0 : vp_in 0 4 := vpl (k := 0) (by decide) (by decide)
  have e1 : vp_in 1 4 := vpl (k := 1) (by decide) (by decide)
  have e5 : vp_in 5 1448 := vpl (k := 5) (by decide) (by decide)
  have u : am_up (am_up I 124 0 d) 124 1 (N 5) 108 = N := by rw [up_off (by decide), up_off (by decide), hN]
  have n5 : am_up I 124 0 d 108 5 = N 5 := by rw [up_off (by decide), hN]
  have hc1 : ch PF I (am_up (am_up I 124 0 d) 124 1 (N 5)) := ch_tr (ch_up (P := PF) (.inr rfl)) (ch_up (P := PF) (.inr rfl)) fun r q => q.elim id id
  rcases cnt_c (N := N) (key := 2) tc ho.2.2.1 with e | ⟨t, ht, e, ek⟩
  · rw [e, if_pos (by decide)] at hv
    refine am_wq_T (cut := fun z pc => (Nat.beq z 169 && Nat.beq pc 39)) (inl := fun z => !((Nat.beq z 119 || (Nat.beq z 185 || (Nat.beq z 165 || Nat.beq z 188))))) 120 _ _ _ ?_
    refine m_isOwner_y a0 a1 (And.intro (fun _ => And.intro rfl (m_countsV hN (key := 2) rfl ho e ?_)) (fun q => absurd m1z q))
    refine And.intro rfl (And.intro rfl (m_owedV hN ho hd (And.intro ⟨rfl, e0⟩ (And.intro rfl (And.intro rfl (And.intro ⟨rfl, e5⟩ (And.intro ⟨rfl, e1⟩ ?_)))))))
    show am_T am_C (169, 2, 39, [.ref 107, .int x, .int (-1)], []) (am_mk kt (am_up (am_up I 124 0 d) 124 1 (am_up I 124 0 d 108 5)) J T n s) K
    rw [n5]
    refine am_wq_T (cut := fun _ _ => false) (inl := fun z => !((Nat.beq z 119 || (Nat.beq z 185 || (Nat.beq z 165 || Nat.beq z 188))))) 120 _ _ _ ?_
    exact And.intro (fun q => absurd q (by decide)) (fun _ => And.intro rfl (m_owedV u ho (hd.trans hv) (hK _ hc1)))
  · have h14 := ho.2.2.1
    rw [e, if_neg (nI_pos (by omega)), nI_clamp (by omega)] at hv
    obtain ⟨key, len, cs, hx⟩ := ho.2.2.2.2.2.2 t ht
    have hk : key ≠ 1 := by
      have q := (TX_len hx).2
      rw [ek] at q
      have := (nI_eq (by decide) (by have := hx.1; omega)).mp q
      omega
    have tp2 : 0 ≤ nI t := nI_pos' (by omega)
    refine am_wq_T (cut := fun z pc => (Nat.beq z 169 && Nat.beq pc 39)) (inl := fun z => !((Nat.beq z 119 || (Nat.beq z 185 || (Nat.beq z 165 || Nat.beq z 188))))) 120 _ _ _ ?_
    refine m_isOwner_y a0 a1 (And.intro (fun _ => And.intro rfl (m_countsV hN (key := 2) rfl ho e ?_)) (fun q => absurd m1z q))
    refine And.intro rfl (And.intro rfl (m_owedV hN ho hd (And.intro ⟨rfl, e0⟩ (And.intro rfl (And.intro rfl (And.intro ⟨rfl, e5⟩ (And.intro ⟨rfl, e1⟩ ?_)))))))
    show am_T am_C (169, 2, 39, [.ref 107, .int x, .int (nI t)], []) (am_mk kt (am_up (am_up I 124 0 d) 124 1 (am_up I 124 0 d 108 5)) J T n s) K
    rw [n5]
    refine am_wq_T (cut := fun _ _ => false) (inl := fun z => !((Nat.beq z 119 || (Nat.beq z 185 || (Nat.beq z 165 || Nat.beq z 188))))) 120 _ _ _ ?_
    refine And.intro (fun _ => And.intro rfl ?_) (fun q => absurd tp2 q)
    refine m_worksV (I := am_up (am_up I 124 0 d) 124 1 (N 5)) (p := d) (q := N 5) (x := I 124 2) (v := f) u ho ht ?_ ?_ ?_ ((TX_x hx hk _ _).trans hv) (fun I' h1 h2 => hK I' (ch_tr hc1 h1 fun r q => q.elim id id))
    · rw [up_ne (by omega), up_eq]
    · rw [up_eq]
    · rw [up_ne (by omega), up_ne (by omega)]
theorem L_fine (x : Int32) : sg_Call (85, 3, 0, [.ref 20, .int x], []) (169, 2, 0, [.ref 107, .int x, .null], []) := by
  intro L xs kt I J T n s K hS hK
  have h13 := hS.1.2.2.2.1
  obtain ⟨hc, wc, tc, hR, hB⟩ := hS.2.1
  have hr := RB_of hR hB
  rcases rng x 0 7 with ⟨a0, a1⟩ | a0 | ⟨a0, a1⟩
  · refine am_wq_T (cut := fun _ _ => false) (inl := fun z => !((Nat.beq z 105 || Nat.beq z 29))) 120 _ _ _ ?_
    refine c_within_y a0 a1 (And.intro (fun q => absurd q m1z) (fun _ => And.intro rfl (And.intro rfl ?_)))
    refine c_fineOf hR rfl fun I1 a => ?_
    have d1 : ch NR I I1 := ch_w a fun r q => CT_NR q
    have hN1 : I1 108 = I 108 := d1 108 (by unfold NR CT; omega)
    refine hK _ kt I1 J T n s ⟨h13, d1 13 (by unfold NR CT; omega), ?_⟩
    refine m_fine (N := I 108) hN1 hr.1 a0 a1 rfl fun I2 b => ?_
    exact End_of rfl (sim_ch (ch_nr d1 (ch_w b fun r q => PF_NR q)) chJ_rfl hS)
  all_goals
    have hM : sg_Mid L xs I n s (169, 2, 0, [.ref 107, .int x, .null], []) (-1000000001) kt I J T n s := by
      refine ⟨h13, rfl, ?_⟩
      refine am_wq_T (cut := fun _ _ => false) (inl := fun z => !((Nat.beq z 119 || Nat.beq z 165))) 120 _ _ _ ?_
      first | exact m_isOwner_n0 a0 (And.intro (fun q => absurd rfl q) (fun _ => End_of rfl hS)) | exact m_isOwner_n1 a0 a1 (And.intro (fun q => absurd rfl q) (fun _ => End_of rfl hS))
    refine am_wq_T (cut := fun _ _ => false) (inl := fun z => !((Nat.beq z 105 || Nat.beq z 29))) 120 _ _ _ ?_
    first | exact c_within_n0 a0 (And.intro (fun _ => hK _ _ _ _ _ _ _ hM) (fun q => absurd rfl q)) | exact c_within_n1 a0 a1 (And.intro (fun _ => hK _ _ _ _ _ _ _ hM) (fun q => absurd rfl q))
end T63
