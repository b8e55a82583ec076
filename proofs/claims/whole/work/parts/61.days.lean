/-! days, one behind the other -/
section T61
variable {kt : Nat → Nat × Nat} {I I' : Nat → Nat → Int32} {J J' : Nat → Nat → Int64} {T T' : Nat → Nat → Nat} {n s : Nat} {L : Nat} {xs : Nat → Int32} {K : Option Value → am_M → Prop} {N N' : Nat → Int32} {hc wc tc h w : Nat}
def dys (tc hc : Nat) (N : Nat → Int32) : Nat → Nat → Int32
  | 0 => N
  | k + 1 => dayN tc hc (dys tc hc N k)
theorem dhN_76 {N : Nat → Int32} {i k : Nat} (hi : i < 10) (h : k = 1 ∨ (2 ≤ k ∧ k < 6) ∨ (7 ≤ k ∧ k < 21) ∨ 76 ≤ k) : dhN tc N i k = N k := by
  unfold dhN
  split
  · rw [upN_ne (by omega), upN_ne (by omega), upN_ne (by omega), upN_ne (by omega)]
  · rfl
theorem dhs_76 {N : Nat → Int32} {k : Nat} (h : k = 1 ∨ (2 ≤ k ∧ k < 6) ∨ (7 ≤ k ∧ k < 21) ∨ 76 ≤ k) : ∀ i, i ≤ 10 → dhs tc N i k = N k
  | 0, _ => rfl
  | i + 1, hi => by
    show dhN tc (dhs tc N i) i k = _
    rw [dhN_76 (by omega) h, dhs_76 h i (by omega)]
theorem dayN_76 {N : Nat → Int32} {k : Nat} (h10 : hc ≤ 10) (h : k = 1 ∨ (3 ≤ k ∧ k < 6) ∨ (7 ≤ k ∧ k < 21) ∨ 76 ≤ k) : dayN tc hc N k = N k := by
  unfold dayN
  rw [upN_ne (by omega)]
  exact dhs_76 (by omega) hc h10
theorem dayN_2 {N : Nat → Int32} (h10 : hc ≤ 10) : dayN tc hc N 2 = N 2 + 1 := by
  unfold dayN
  rw [upN_eq, dhs_76 (by omega) hc h10]
theorem dys_76 {N : Nat → Int32} {k : Nat} (h10 : hc ≤ 10) (h : k = 1 ∨ (3 ≤ k ∧ k < 6) ∨ (7 ≤ k ∧ k < 21) ∨ 76 ≤ k) : ∀ i, dys tc hc N i k = N k
  | 0 => rfl
  | i + 1 => by
    show dayN tc hc (dys tc hc N i) k = _
    rw [dayN_76 h10 h, dys_76 h10 h i]
theorem dys_2 {N : Nat → Int32} (h10 : hc ≤ 10) : ∀ i, dys tc hc N i 2 = N 2 + nI i
  | 0 => (Int32.add_zero _).symm
  | i + 1 => by
    show dayN tc hc (dys tc hc N i) 2 = _
    rw [dayN_2 h10, dys_2 h10 i, nI_succ, Int32.add_assoc]
theorem dys_RB (hr : RB N hc wc tc) : ∀ i, RB (dys tc hc N i) hc wc tc
  | 0 => hr
  | i + 1 => by
    have ih := dys_RB hr i
    have h10 := hr.2.2.2
    refine ⟨dayN_RO ih.1 h10, dayN_HB ih.2.1, fun w hw => ?_, h10⟩
    have hw6 := hr.1.2.1
    show sg_in (dayN tc hc (dys tc hc N i) (9 + 2 * w)) 0 29 ∧ sg_in (dayN tc hc (dys tc hc N i) (9 + 2 * w + 1)) 1 99
    rw [dayN_76 h10 (by omega), dayN_76 h10 (by omega)]
    exact ih.2.2.1 w hw
theorem m_goesOn_l (hr : RB N hc wc tc) {m : Nat} (hm : m < 1000) {I0 : Nat → Nat → Int32} (hK : ∀ I', ch PD I0 I' → I' 108 = dys tc hc N m → K none (am_mk kt I' J T n s)) : ∀ (j k : Nat) (I : Nat → Nat → Int32), k + j = m → ch PD I0 I → I 108 = dys tc hc N k → am_T am_C (158, 4, 2, [.ref 107, .int (nI m), .int (nI k)], []) (am_mk kt I J T n s) K
  | 0, k, I, hk, hI, hN => by
    have : k = m := by omega
    subst this
    have c1 : nI k ≤ nI k := nI_le (Nat.le_refl _) (by omega)
    refine am_wq_T (cut := fun z pc => (Nat.beq z 158 && Nat.beq pc 2)) (inl := fun _ => false) 120 _ _ _ ?_
    exact And.intro (fun _ => hK I hI hN) (fun q => absurd c1 q)
  | j + 1, k, I, hk, hI, hN => by
    have c1 : ¬ nI m ≤ nI k := nI_ge (by omega) (by omega)
    have rb := dys_RB hr k
    refine am_wq_T (cut := fun z pc => (Nat.beq z 158 && Nat.beq pc 2)) (inl := fun z => !(Nat.beq z 157)) 120 _ _ _ ?_
    refine And.intro (fun q => absurd q c1) (fun _ => And.intro rfl ?_)
    refine m_day (N := dys tc hc N k) hr.2.2.2 hN rb.1 rb.2.1 fun I2 a b => ?_
    have key := m_goesOn_l hr hm hK j (k + 1) I2 (by omega) (ch_tr hI a fun r q => q.elim id id) b
    rw [nI_succ] at key
    exact key
theorem m_goesOn (hr : RB N hc wc tc) {m : Nat} (hm : m < 1000) (hN : I 108 = N) (hK : ∀ I', ch PD I I' → I' 108 = dys tc hc N m → K none (am_mk kt I' J T n s)) : am_T am_C (158, 4, 0, [.ref 107, .int (nI m), .null], []) (am_mk kt I J T n s) K := by
  have key := m_goesOn_l (kt := kt) (J := J) (T := T) (n := n) (s := s) (K := K) hr hm hK m 0 I (by omega) ch_rfl hN
  refine am_wq_T (cut := fun z pc => (Nat.beq z 158 && Nat.beq pc 2)) (inl := fun _ => false) 120 _ _ _ ?_
  exact key
/-- what was set aside is put back -/
theorem m_putsBack_l {I0 : Nat → Nat → Int32} : ∀ (j i : Nat), i + j = 76 → K none (am_mk kt (am_row I0 108 (cpN (I0 108) (I0 115) 76)) J T n s) → am_T am_C (161, 0, 2, [.ref 107, .int (nI i)], []) (am_mk kt (am_row I0 108 (cpN (I0 108) (I0 115) i)) J T n s) K
  | 0, i, hi, hK => by
    have : i = 76 := by omega
    subst this
    have c1 : (76 : Int32) ≤ nI 76 := by decide
    refine am_wq_T (cut := fun z pc => (Nat.beq z 161 && Nat.beq pc 2)) (inl := fun _ => false) 120 _ _ _ ?_
    exact And.intro (fun _ => hK) (fun q => absurd c1 q)
  | j + 1, i, hi, hK => by
    have c1 : ¬ (76 : Int32) ≤ nI i := nI_ge (b := 76) (by omega) (by decide)
    have key := m_putsBack_l j (i + 1) (by omega) hK
    rw [nI_succ i, ← cp_step I0 108 (I0 115) i (by omega)] at key
    refine am_wq_T (cut := fun z pc => (Nat.beq z 161 && Nat.beq pc 2)) (inl := fun _ => false) 120 _ _ _ ?_
    exact And.intro (fun q => absurd q c1) (fun _ => And.intro rfl (And.intro rfl (And.intro ⟨rfl, vpl (k := i) (N := 76) (by omega) (by decide)⟩ (And.intro ⟨rfl, vpl (k := i) (N := 1448) (by omega) (by decide)⟩ key))))
theorem m_putsBack (hN : ∀ k, 76 ≤ k → I 108 k = N k) (h5 : ∀ k, k < 76 → I 115 k = N k) (hK : ∀ I', ch (fun r => r = 108) I I' → I' 108 = N → K none (am_mk kt I' J T n s)) : am_T am_C (161, 0, 0, [.ref 107, .null], []) (am_mk kt I J T n s) K := by
  have key := m_putsBack_l (kt := kt) (J := J) (T := T) (n := n) (s := s) (K := K) (I0 := I) 76 0 (by decide) (hK _ (ch_row rfl) (by
    rw [row_eq]
    funext k
    unfold cpN
    by_cases q : k < 76
    · rw [if_pos q]; exact h5 k q
    · rw [if_neg q]; exact hN k (by omega)))
  rw [cp_0] at key
  refine am_wq_T (cut := fun z pc => (Nat.beq z 161 && Nat.beq pc 2)) (inl := fun _ => false) 120 _ _ _ ?_
  exact key
theorem c_dep21 (hR : sg_LR kt I T n 21 N hc wc tc) : ∀ (j i : Nat), i + j = hc → K (some (.int (dz N hc))) (am_mk kt I J T n s) → am_T am_C (27, 0, 4, [.ref 21, .int (dz N i), .int (nI i)], []) (am_mk kt I J T n s) K
  | 0, i, hi, hK => by
    have h10 := hR.1
    have : i = hc := by omega
    subst this
    have c1 : I 21 1 ≤ nI i := by rw [hR.2.2.2.2.2.2.1]; exact nI_le (Nat.le_refl _) (by omega)
    refine am_wq_T (cut := fun z pc => (Nat.beq z 27 && Nat.beq pc 4)) (inl := fun _ => false) 120 _ _ _ ?_
    exact And.intro rfl (And.intro (fun _ => hK) (fun q => absurd c1 q))
  | j + 1, i, hi, hK => by
    have h10 := hR.1
    have c1 : ¬ I 21 1 ≤ nI i := by rw [hR.2.2.2.2.2.2.1]; exact nI_ge (by omega) (by omega)
    have key := c_dep21 hR j (i + 1) (by omega) hK
    rw [nI_succ, show dz N (i + 1) = dz N i + I (27 + i) 2 by
      show dz N i + N (23 + 5 * i) = _
      rw [show 23 + 5 * i = 21 + 5 * i + 2 by omega, ← hR.2.2.2.2.2.2.2.2.2.1 i (by omega) 2 (by decide)]] at key
    refine am_wq_T (cut := fun z pc => (Nat.beq z 27 && Nat.beq pc 4)) (inl := fun _ => false) 120 _ _ _ ?_
    refine And.intro rfl (And.intro (fun q => absurd q c1) (fun _ => And.intro rfl (And.intro ⟨rfl, vpl (k := i) (N := 10) (by omega) (by decide)⟩ ?_)))
    rw [rL21 (by omega)]
    exact And.intro (kL21 (by omega)) key
theorem c_depth21 (hR : sg_LR kt I T n 21 N hc wc tc) (hK : K (some (.int (dz N hc))) (am_mk kt I J T n s)) : am_T am_C (27, 0, 0, [.ref 21, .null, .null], []) (am_mk kt I J T n s) K := by
  have key := c_dep21 (kt := kt) (J := J) (K := K) (s := s) hR hc 0 (by omega) hK
  refine am_wq_T (cut := fun z pc => (Nat.beq z 27 && Nat.beq pc 4)) (inl := fun _ => false) 120 _ _ _ ?_
  exact key
theorem c_fil21 (hR : sg_LR kt I T n 21 N hc wc tc) : ∀ (j i : Nat), i + j = hc → K (some (.int (nI (cz N hc)))) (am_mk kt I J T n s) → am_T am_C (26, 0, 4, [.ref 21, .int (nI (cz N i)), .int (nI i)], []) (am_mk kt I J T n s) K
  | 0, i, hi, hK => by
    have h10 := hR.1
    have : i = hc := by omega
    subst this
    have c1 : I 21 1 ≤ nI i := by rw [hR.2.2.2.2.2.2.1]; exact nI_le (Nat.le_refl _) (by omega)
    refine am_wq_T (cut := fun z pc => (Nat.beq z 26 && Nat.beq pc 4)) (inl := fun _ => false) 120 _ _ _ ?_
    exact And.intro rfl (And.intro (fun _ => hK) (fun q => absurd c1 q))
  | j + 1, i, hi, hK => by
    have h10 := hR.1
    have c1 : ¬ I 21 1 ≤ nI i := by rw [hR.2.2.2.2.2.2.1]; exact nI_ge (by omega) (by omega)
    have ei : I (27 + i) 2 = N (23 + 5 * i) := by rw [show 23 + 5 * i = 21 + 5 * i + 2 by omega]; exact hR.2.2.2.2.2.2.2.2.2.1 i (by omega) 2 (by decide)
    have key := c_fil21 hR j (i + 1) (by omega) hK
    rw [nI_succ i] at key
    refine am_wq_T (cut := fun z pc => (Nat.beq z 26 && Nat.beq pc 4)) (inl := fun _ => false) 120 _ _ _ ?_
    refine And.intro rfl (And.intro (fun q => absurd q c1) (fun _ => And.intro rfl (And.intro ⟨rfl, vpl (k := i) (N := 10) (by omega) (by decide)⟩ ?_)))
    rw [rL21 (by omega)]
    refine And.intro (kL21 (by omega)) (And.intro (fun q => ?_) (fun q => ?_))
    · have q : ¬ I (27 + i) 2 = 0 := q
      rw [show cz N (i + 1) = cz N i from by
        show cz N i + (if N (23 + 5 * i) = 0 then 1 else 0) = _
        rw [if_neg (by rw [← ei]; exact q), Nat.add_zero]] at key
      exact key
    · have q : ¬ ¬ I (27 + i) 2 = 0 := q
      rw [show cz N (i + 1) = cz N i + 1 from by
        show cz N i + (if N (23 + 5 * i) = 0 then 1 else 0) = _
        rw [if_pos (by rw [← ei]; exact Classical.not_not.mp q)], nI_succ] at key
      exact key
theorem c_filled21 (hR : sg_LR kt I T n 21 N hc wc tc) (hK : K (some (.int (nI (cz N hc)))) (am_mk kt I J T n s)) : am_T am_C (26, 0, 0, [.ref 21, .null, .null], []) (am_mk kt I J T n s) K := by
  have key := c_fil21 (kt := kt) (J := J) (K := K) (s := s) hR hc 0 (by omega) hK
  refine am_wq_T (cut := fun z pc => (Nat.beq z 26 && Nat.beq pc 4)) (inl := fun _ => false) 120 _ _ _ ?_
  exact key
theorem c_dep37 (hR : sg_LR kt I T n 37 N hc wc tc) : ∀ (j i : Nat), i + j = hc → K (some (.int (dz N hc))) (am_mk kt I J T n s) → am_T am_C (27, 0, 4, [.ref 37, .int (dz N i), .int (nI i)], []) (am_mk kt I J T n s) K
  | 0, i, hi, hK => by
    have h10 := hR.1
    have : i = hc := by omega
    subst this
    have c1 : I 37 1 ≤ nI i := by rw [hR.2.2.2.2.2.2.1]; exact nI_le (Nat.le_refl _) (by omega)
    refine am_wq_T (cut := fun z pc => (Nat.beq z 27 && Nat.beq pc 4)) (inl := fun _ => false) 120 _ _ _ ?_
    exact And.intro rfl (And.intro (fun _ => hK) (fun q => absurd c1 q))
  | j + 1, i, hi, hK => by
    have h10 := hR.1
    have c1 : ¬ I 37 1 ≤ nI i := by rw [hR.2.2.2.2.2.2.1]; exact nI_ge (by omega) (by omega)
    have key := c_dep37 hR j (i + 1) (by omega) hK
    rw [nI_succ, show dz N (i + 1) = dz N i + I (43 + i) 2 by
      show dz N i + N (23 + 5 * i) = _
      rw [show 23 + 5 * i = 21 + 5 * i + 2 by omega, ← hR.2.2.2.2.2.2.2.2.2.1 i (by omega) 2 (by decide)]] at key
    refine am_wq_T (cut := fun z pc => (Nat.beq z 27 && Nat.beq pc 4)) (inl := fun _ => false) 120 _ _ _ ?_
    refine And.intro rfl (And.intro (fun q => absurd q c1) (fun _ => And.intro rfl (And.intro ⟨rfl, vpl (k := i) (N := 10) (by omega) (by decide)⟩ ?_)))
    rw [rL37 (by omega)]
    exact And.intro (kL37 (by omega)) key
theorem c_depth37 (hR : sg_LR kt I T n 37 N hc wc tc) (hK : K (some (.int (dz N hc))) (am_mk kt I J T n s)) : am_T am_C (27, 0, 0, [.ref 37, .null, .null], []) (am_mk kt I J T n s) K := by
  have key := c_dep37 (kt := kt) (J := J) (K := K) (s := s) hR hc 0 (by omega) hK
  refine am_wq_T (cut := fun z pc => (Nat.beq z 27 && Nat.beq pc 4)) (inl := fun _ => false) 120 _ _ _ ?_
  exact key
theorem c_fil37 (hR : sg_LR kt I T n 37 N hc wc tc) : ∀ (j i : Nat), i + j = hc → K (some (.int (nI (cz N hc)))) (am_mk kt I J T n s) → am_T am_C (26, 0, 4, [.ref 37, .int (nI (cz N i)), .int (nI i)], []) (am_mk kt I J T n s) K
  | 0, i, hi, hK => by
    have h10 := hR.1
    have : i = hc := by omega
    subst this
    have c1 : I 37 1 ≤ nI i := by rw [hR.2.2.2.2.2.2.1]; exact nI_le (Nat.le_refl _) (by omega)
    refine am_wq_T (cut := fun z pc => (Nat.beq z 26 && Nat.beq pc 4)) (inl := fun _ => false) 120 _ _ _ ?_
    exact And.intro rfl (And.intro (fun _ => hK) (fun q => absurd c1 q))
  | j + 1, i, hi, hK => by
    have h10 := hR.1
    have c1 : ¬ I 37 1 ≤ nI i := by rw [hR.2.2.2.2.2.2.1]; exact nI_ge (by omega) (by omega)
    have ei : I (43 + i) 2 = N (23 + 5 * i) := by rw [show 23 + 5 * i = 21 + 5 * i + 2 by omega]; exact hR.2.2.2.2.2.2.2.2.2.1 i (by omega) 2 (by decide)
    have key := c_fil37 hR j (i + 1) (by omega) hK
    rw [nI_succ i] at key
    refine am_wq_T (cut := fun z pc => (Nat.beq z 26 && Nat.beq pc 4)) (inl := fun _ => false) 120 _ _ _ ?_
    refine And.intro rfl (And.intro (fun q => absurd q c1) (fun _ => And.intro rfl (And.intro ⟨rfl, vpl (k := i) (N := 10) (by omega) (by decide)⟩ ?_)))
    rw [rL37 (by omega)]
    refine And.intro (kL37 (by omega)) (And.intro (fun q => ?_) (fun q => ?_))
    · have q : ¬ I (43 + i) 2 = 0 := q
      rw [show cz N (i + 1) = cz N i from by
        show cz N i + (if N (23 + 5 * i) = 0 then 1 else 0) = _
        rw [if_neg (by rw [← ei]; exact q), Nat.add_zero]] at key
      exact key
    · have q : ¬ ¬ I (43 + i) 2 = 0 := q
      rw [show cz N (i + 1) = cz N i + 1 from by
        show cz N i + (if N (23 + 5 * i) = 0 then 1 else 0) = _
        rw [if_pos (by rw [← ei]; exact Classical.not_not.mp q)], nI_succ] at key
      exact key
theorem c_filled37 (hR : sg_LR kt I T n 37 N hc wc tc) (hK : K (some (.int (nI (cz N hc)))) (am_mk kt I J T n s)) : am_T am_C (26, 0, 0, [.ref 37, .null, .null], []) (am_mk kt I J T n s) K := by
  have key := c_fil37 (kt := kt) (J := J) (K := K) (s := s) hR hc 0 (by omega) hK
  refine am_wq_T (cut := fun z pc => (Nat.beq z 26 && Nat.beq pc 4)) (inl := fun _ => false) 120 _ _ _ ?_
  exact key
theorem m_filledV {v : Nat} (hN : I 108 = N) (ho : RO N hc wc tc) (hv : cz N hc = v) (hK : K (some (.int (nI v))) (am_mk kt I J T n s)) : am_T am_C (155, 1, 0, [.ref 107, .null, .null], []) (am_mk kt I J T n s) K :=
  m_filled (hc := hc) (by rw [hN]; exact ho.2.2.2.1) ho.1 (by rw [hN, hv]; exact hK)
theorem m_depthV {v : Int32} (hN : I 108 = N) (ho : RO N hc wc tc) (hv : dz N hc = v) (hK : K (some (.int v)) (am_mk kt I J T n s)) : am_T am_C (156, 1, 0, [.ref 107, .null, .null], []) (am_mk kt I J T n s) K :=
  m_depth (hc := hc) (by rw [hN]; exact ho.2.2.2.1) ho.1 (by rw [hN, hv]; exact hK)
end T61
