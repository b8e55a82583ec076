/-! paid, best -/
section T64
variable {kt : Nat → Nat × Nat} {I I' : Nat → Nat → Int32} {J J' : Nat → Nat → Int64} {T T' : Nat → Nat → Nat} {n s : Nat} {L : Nat} {xs : Nat → Int32} {K : Option Value → am_M → Prop} {N N' : Nat → Int32} {hc wc tc h w : Nat}
/-- the first of some from k on: 301 if none of j -/
def gp (f : Nat → Bool) : Nat → Nat → Nat
  | 0, _ => 301
  | j + 1, k => if f k = true then k else gp f j (k + 1)
def gv (g : Nat) : Int32 := if g ≤ 300 then nI g else -1000000005
def fpd (N : Nat → Int32) (tc hc k : Nat) : Bool := decide (cz (dys tc hc N k) hc = hc)
theorem c_paid_l (hr : RB N hc wc tc) {I0 : Nat → Nat → Int32} : ∀ (j k : Nat) (I : Nat → Nat → Int32), k + j = 301 → ch (PB 37) I0 I → sg_LR kt I T n 37 (dys tc hc N k) hc wc tc → (∀ I', ch (PB 37) I0 I' → K (some (.int (gv (gp (fpd N tc hc) j k)))) (am_mk kt I' J T n s)) → am_T am_C (80, 5, 13, [.ref 20, .int (nI k)], []) (am_mk kt I J T n s) K
  | 0, k, I, hk, hI, hR, hK => by
    have : k = 301 := by omega
    subst this
    have c1 : (300 : Int32) < nI 301 := by decide
    have key := hK I hI
    refine am_wq_T (cut := fun z pc => (Nat.beq z 80 && Nat.beq pc 13)) (inl := fun _ => false) 120 _ _ _ ?_
    exact And.intro (fun _ => key) (fun q => absurd c1 q)
  | j + 1, k, I, hk, hI, hR, hK => by
    have h10 := hr.2.2.2
    have c1 : ¬ (300 : Int32) < nI k := nI_nlt (a := 300) (b := k) (by omega) (by decide)
    have rb := dys_RB hr k
    have le := cz_le (dys tc hc N k) hc
    have e37 : I 37 1 = nI hc := hR.2.2.2.2.2.2.1
    unfold gp at hK
    by_cases q : cz (dys tc hc N k) hc = hc
    · have qq : fpd N tc hc k = true := decide_eq_true q
      rw [if_pos qq] at hK
      have key := hK I hI
      unfold gv at key
      rw [if_pos (by omega)] at key
      have c2 : ¬ ¬ nI (cz (dys tc hc N k) hc) = I 37 1 := fun z => z (by rw [e37, q])
      refine am_wq_T (cut := fun z pc => (Nat.beq z 80 && Nat.beq pc 13)) (inl := fun z => !((Nat.beq z 26 || Nat.beq z 25))) 120 _ _ _ ?_
      exact And.intro (fun z => absurd z c1) (fun _ => And.intro rfl (And.intro rfl (c_filled37 hR (And.intro rfl (And.intro rfl (And.intro (fun z => absurd z c2) (fun _ => key)))))))
    · have qq : ¬ fpd N tc hc k = true := fun z => q (of_decide_eq_true z)
      rw [if_neg qq] at hK
      have c2 : ¬ nI (cz (dys tc hc N k) hc) = I 37 1 := by rw [e37]; exact fun z => q ((nI_eq (by omega) (by omega)).mp z)
      refine am_wq_T (cut := fun z pc => (Nat.beq z 80 && Nat.beq pc 13)) (inl := fun z => !((Nat.beq z 26 || Nat.beq z 25))) 120 _ _ _ ?_
      refine And.intro (fun z => absurd z c1) (fun _ => And.intro rfl (And.intro rfl (c_filled37 hR (And.intro rfl (And.intro rfl (And.intro (fun _ => ?_) (fun z => absurd c2 z)))))))
      refine And.intro rfl (And.intro rfl (c_day37 (N := dys tc hc N k) hR rb.2.1 fun I2 a b => ?_))
      have key := c_paid_l hr j (k + 1) I2 (by omega) (PB_tr hI a) b hK
      rw [nI_succ] at key
      exact key
theorem m_paid_l (hr : RB N hc wc tc) {I0 : Nat → Nat → Int32} : ∀ (j k : Nat) (I : Nat → Nat → Int32), k + j = 301 → ch PD I0 I → I 108 = dys tc hc N k → (∀ I' k', ch PD I0 I' → I' 108 = dys tc hc N k' → am_T am_C (163, 4, 36, [.ref 107, .int (nI (gp (fpd N tc hc) j k))], []) (am_mk kt I' J T n s) K) → am_T am_C (163, 4, 6, [.ref 107, .int (nI k)], []) (am_mk kt I J T n s) K
  | 0, k, I, hk, hI, hN, hK => by
    have : k = 301 := by omega
    subst this
    have c1 : (300 : Int32) < nI 301 := by decide
    have key := hK I 301 hI hN
    refine am_wq_T (cut := fun z pc => ((Nat.beq z 163 && Nat.beq pc 6) || (Nat.beq z 163 && Nat.beq pc 36))) (inl := fun _ => false) 120 _ _ _ ?_
    exact And.intro (fun _ => key) (fun q => absurd c1 q)
  | j + 1, k, I, hk, hI, hN, hK => by
    have h10 := hr.2.2.2
    have c1 : ¬ (300 : Int32) < nI k := nI_nlt (a := 300) (b := k) (by omega) (by decide)
    have rb := dys_RB hr k
    have le := cz_le (dys tc hc N k) hc
    have e1 : I 108 1 = nI hc := by rw [hN]; exact rb.1.2.2.2.1
    unfold gp at hK
    by_cases q : cz (dys tc hc N k) hc = hc
    · have qq : fpd N tc hc k = true := decide_eq_true q
      rw [if_pos qq] at hK
      have key := hK I k hI hN
      have c2 : I 108 1 ≤ nI (cz (dys tc hc N k) hc) := by rw [e1, q]; exact nI_le (Nat.le_refl _) (by omega)
      refine am_wq_T (cut := fun z pc => ((Nat.beq z 163 && Nat.beq pc 6) || (Nat.beq z 163 && Nat.beq pc 36))) (inl := fun z => !((Nat.beq z 155 || Nat.beq z 157))) 120 _ _ _ ?_
      exact And.intro (fun z => absurd z c1) (fun _ => And.intro rfl (m_filledV hN rb.1 rfl (And.intro rfl (And.intro ⟨rfl, vp1N⟩ (And.intro (fun _ => key) (fun z => absurd c2 z))))))
    · have qq : ¬ fpd N tc hc k = true := fun z => q (of_decide_eq_true z)
      rw [if_neg qq] at hK
      have c2 : ¬ I 108 1 ≤ nI (cz (dys tc hc N k) hc) := by rw [e1]; exact nI_ge (by omega) (by omega)
      refine am_wq_T (cut := fun z pc => ((Nat.beq z 163 && Nat.beq pc 6) || (Nat.beq z 163 && Nat.beq pc 36))) (inl := fun z => !((Nat.beq z 155 || Nat.beq z 157))) 120 _ _ _ ?_
      refine And.intro (fun z => absurd z c1) (fun _ => And.intro rfl (m_filledV hN rb.1 rfl (And.intro rfl (And.intro ⟨rfl, vp1N⟩ (And.intro (fun z => absurd z c2) (fun _ => And.intro rfl ?_))))))
      refine m_day (N := dys tc hc N k) h10 hN rb.1 rb.2.1 fun I2 a b => ?_
      have key := m_paid_l hr j (k + 1) I2 (by omega) (ch_tr hI a fun r q => q.elim id id) b hK
      rw [nI_succ] at key
      exact key
theorem L_paid : sg_Call (80, 5, 0, [.ref 20, .null], []) (163, 4, 0, [.ref 107, .null], []) := by
  intro L xs kt I J T n s K hS hK
  have h13 := hS.1.2.2.2.1
  obtain ⟨hc, wc, tc, hR, hB⟩ := hS.2.1
  have hr := RB_of hR hB
  have h10 := hR.1
  refine am_wq_T (cut := fun z pc => (Nat.beq z 80 && Nat.beq pc 13)) (inl := fun z => !(Nat.beq z 14)) 120 _ _ _ ?_
  refine And.intro rfl (And.intro rfl (And.intro rfl (c_become37_21 hR fun I1 T1 a b c => ?_)))
  refine c_paid_l (N := I 108) (I0 := I1) hr 301 0 I1 rfl ch_rfl c fun I2 d => ?_
  have dn : ch NR I I2 := ch_tr a d fun r q => q.elim (fun q => by unfold NR; omega) fun q => q.elim (fun q => by unfold NR; omega) CT_NR
  have hN2 : I2 108 = I 108 := dn 108 (by unfold NR CT; omega)
  refine hK _ kt I2 J T1 n s ⟨h13, dn 13 (by unfold NR CT; omega), ?_⟩
  refine am_wq_T (cut := fun z pc => (Nat.beq z 163 && Nat.beq pc 6)) (inl := fun z => !(Nat.beq z 160)) 120 _ _ _ ?_
  refine And.intro rfl (m_aside (N := I 108) hr hN2 fun I3 g1 g2 g3 => ?_)
  refine m_paid_l (N := I 108) (I0 := I3) hr 301 0 I3 rfl ch_rfl g2 fun I4 k' k1 k2 => ?_
  have c : ∀ I5, ch (fun r => r = 108) I4 I5 → I5 108 = I 108 → sg_Sim L xs kt I5 J T1 n := fun I5 c1 c2 => by
    refine sim_T (T := T) (fun r k hr => by rw [b r hr]) (sim_eq (I := I) (J := J) (fun r k p => ?_) (fun r _ => rfl) hS)
    by_cases q : r = 108
    · subst q; rw [c2]
    · rw [c1 r q, k1 r (fun z => (PD_ne z).elim q (rv_NR p)), g1 r (rv_NR p), dn r (rv_NR p)]
  refine am_wq_T (cut := fun _ _ => false) (inl := fun z => !(Nat.beq z 161)) 120 _ _ _ ?_
  refine And.intro rfl (m_putsBack (N := I 108) (fun k hk => by rw [k2]; exact dys_76 h10 (by omega) k') (fun k hk => by rw [k1 115 (by unfold PD PF; omega)]; exact g3 k hk) fun I5 c1 c2 => ?_)
  have hs := c I5 c1 c2
  have gb : gp (fpd (I 108) tc hc) 301 0 ≤ 301 := by
    have : ∀ j k, k + j = 301 → gp (fpd (I 108) tc hc) j k ≤ 301 := by
      intro j
      induction j with
      | zero => intro k _; exact Nat.le_refl _
      | succ j ih => intro k hk; unfold gp; split; omega; exact ih (k + 1) (by omega)
    exact this 301 0 rfl
  unfold gv
  by_cases q : gp (fpd (I 108) tc hc) 301 0 ≤ 300
  · have c9 : ¬ (300 : Int32) < nI (gp (fpd (I 108) tc hc) 301 0) := nI_nlt (a := 300) q (by decide)
    rw [if_pos q]
    exact And.intro (fun z => absurd z c9) (fun _ => End_of rfl hs)
  · have c9 : (300 : Int32) < nI (gp (fpd (I 108) tc hc) 301 0) := nI_lt (a := 300) (by omega) (by omega)
    rw [if_neg q]
    exact And.intro (fun _ => End_of rfl hs) (fun z => absurd c9 z)
/-! best -/
noncomputable def mxD (N : Nat → Int32) (hc wc tc k : Nat) : Nat := Classical.epsilon fun m : Nat => IsMax (tkN (dys tc hc N k) hc tc (-1)) wc (m : Int)
theorem mxD_eq {k m : Nat} (h : IsMax (tkN (dys tc hc N k) hc tc (-1)) wc (m : Int)) : m = mxD N hc wc tc k := by
  have := IsMax_u h (Classical.epsilon_spec (p := fun m : Nat => IsMax (tkN (dys tc hc N k) hc tc (-1)) wc (m : Int)) ⟨m, h⟩)
  unfold mxD
  omega
def moB (M : Nat → Nat) : Nat → Int32
  | 0 => -1
  | k + 1 => if nI (M k) ≤ moB M k then moB M k else nI (M k)
def bdB (M : Nat → Nat) : Nat → Int32
  | 0 => 0
  | k + 1 => if nI (M k) ≤ moB M k then bdB M k else nI k
theorem c_best_l (hr : RB N hc wc tc) {y : Int32} {m : Nat} (hm : m < 1000) {I0 : Nat → Nat → Int32} {J0 : Nat → Nat → Int64} (h15 : J0 15 = am_digits) (hK : ∀ I' J' v5 v6, ch NR I0 I' → chJ PJ J0 J' → am_T am_C (81, 6, 87, [.ref 20, .int (nI m), .int y, .int (bdB (mxD N hc wc tc) (m + 1)), .int (moB (mxD N hc wc tc) (m + 1)), v5, v6], []) (am_mk kt I' J' T n s) K) : ∀ (j k : Nat) (I : Nat → Nat → Int32) (J : Nat → Nat → Int64) (v6 : Value), k + j = m + 1 → ch NR I0 I → chJ PJ J0 J → sg_LR kt I T n 37 (dys tc hc N k) hc wc tc → am_T am_C (81, 6, 39, [.ref 20, .int (nI m), .int y, .int (bdB (mxD N hc wc tc) k), .int (moB (mxD N hc wc tc) k), .int (nI k), v6], []) (am_mk kt I J T n s) K
  | 0, k, I, J, v6, hk, hI, hJ, hR => by
    have : k = m + 1 := by omega
    subst this
    have c1 : nI m < nI (m + 1) := nI_lt (by omega) (by omega)
    have key := hK I J (.int (nI (m + 1))) v6 hI hJ
    refine am_wq_T (cut := fun z pc => ((Nat.beq z 81 && Nat.beq pc 39) || (Nat.beq z 81 && Nat.beq pc 87))) (inl := fun _ => false) 120 _ _ _ ?_
    exact And.intro (fun _ => key) (fun q => absurd c1 q)
  | j + 1, k, I, J, v6, hk, hI, hJ, hR => by
    have hw6 := hr.1.2.1
    have c1 : ¬ nI m < nI k := nI_nlt (by omega) (by omega)
    have rb := dys_RB hr k
    refine am_wq_T (cut := fun z pc => ((Nat.beq z 81 && Nat.beq pc 39) || ((Nat.beq z 81 && Nat.beq pc 87) || (Nat.beq z 81 && Nat.beq pc 74)))) (inl := fun z => !(Nat.beq z 1)) 120 _ _ _ ?_
    refine And.intro (fun q => absurd q c1) (fun _ => And.intro rfl (And.intro rfl (And.intro rfl ?_)))
    refine c_solve37 (N := dys tc hc N k) hR rb.2.1 rb.2.2.1 (by rw [hJ 15 (by unfold PJ; omega)]; exact h15) (fun I2 J2 p m1 c3 _ j3 _ _ x3 b3 => ?_)
    have em := mxD_eq (tkS_N hw6 x3)
    rw [em]
    have hR2 : sg_LR kt I2 T n 37 (dys tc hc N k) hc wc tc := LR_cg (fun r k hr => by rw [c3 r (by unfold PS CT; omega)]) hR
    have fin : am_T am_C (81, 6, 74, [.ref 20, .int (nI m), .int y, .int (bdB (mxD N hc wc tc) (k + 1)), .int (moB (mxD N hc wc tc) (k + 1)), .int (nI k), .int (nI (mxD N hc wc tc k))], []) (am_mk kt I2 J2 T n s) K := by
      refine am_wq_T (cut := fun z pc => ((Nat.beq z 81 && Nat.beq pc 39) || (Nat.beq z 81 && Nat.beq pc 87))) (inl := fun z => !(Nat.beq z 25)) 120 _ _ _ ?_
      refine And.intro rfl (And.intro rfl (c_day37 (N := dys tc hc N k) hR2 rb.2.1 fun I3 a b => ?_))
      have key := c_best_l hr hm h15 hK j (k + 1) I3 J2 (.int (nI (mxD N hc wc tc k))) (by omega) (ch_nr (ch_nr hI (ch_w c3 fun r q => PS_NR q)) (ch_w a fun r q => q.elim (fun q => by unfold NR; omega) CT_NR)) (chJ_nr hJ j3) b
      rw [nI_succ] at key
      exact key
    rw [show bdB (mxD N hc wc tc) (k + 1) = (if nI (mxD N hc wc tc k) ≤ moB (mxD N hc wc tc) k then bdB (mxD N hc wc tc) k else nI k) from rfl, show moB (mxD N hc wc tc) (k + 1) = (if nI (mxD N hc wc tc k) ≤ moB (mxD N hc wc tc) k then moB (mxD N hc wc tc) k else nI (mxD N hc wc tc k)) from rfl] at fin
    refine And.intro (fun q => ?_) (fun q => ?_)
    · have q : nI (mxD N hc wc tc k) ≤ moB (mxD N hc wc tc) k := q
      rw [if_pos q, if_pos q] at fin
      exact fin
    · have q : ¬ nI (mxD N hc wc tc k) ≤ moB (mxD N hc wc tc) k := q
      rw [if_neg q, if_neg q] at fin
      exact fin
theorem m_best_l (hr : RB N hc wc tc) {y : Int32} {m : Nat} (hm : m < 1000) {I0 : Nat → Nat → Int32} (hK : ∀ I' v5 v6, ch (fun r => r = 108 ∨ NR r) I0 I' → (∀ k, k < 76 → I' 115 k = I0 115 k) → I' 108 = dys tc hc N m → am_T am_C (164, 26, 91, [.ref 107, .int (nI m), .int y, .int (bdB (mxD N hc wc tc) (m + 1)), .int (moB (mxD N hc wc tc) (m + 1)), v5, v6], []) (am_mk kt I' J T n s) K) : ∀ (j k : Nat) (I : Nat → Nat → Int32) (v6 : Value), k + j = m → ch (fun r => r = 108 ∨ NR r) I0 I → (∀ k, k < 76 → I 115 k = I0 115 k) → I 108 = dys tc hc N k → am_T am_C (164, 26, 38, [.ref 107, .int (nI m), .int y, .int (bdB (mxD N hc wc tc) (k + 1)), .int (moB (mxD N hc wc tc) (k + 1)), .int (nI (k + 1)), v6], []) (am_mk kt I J T n s) K
  | 0, k, I, v6, hk, hI, h5, hN => by
    have : k = m := by omega
    subst this
    have c1 : nI k < nI (k + 1) := nI_lt (by omega) (by omega)
    have key := hK I (.int (nI (k + 1))) v6 hI h5 hN
    refine am_wq_T (cut := fun z pc => ((Nat.beq z 164 && Nat.beq pc 38) || (Nat.beq z 164 && Nat.beq pc 91))) (inl := fun _ => false) 120 _ _ _ ?_
    exact And.intro (fun _ => key) (fun q => absurd c1 q)
  | j + 1, k, I, v6, hk, hI, h5, hN => by
    have h10 := hr.2.2.2
    have c1 : ¬ nI m < nI (k + 1) := nI_nlt (by omega) (by omega)
    have rb := dys_RB hr k
    have rb2 := dys_RB hr (k + 1)
    refine am_wq_T (cut := fun z pc => ((Nat.beq z 164 && Nat.beq pc 38) || (Nat.beq z 164 && Nat.beq pc 91))) (inl := fun z => !((Nat.beq z 157 || Nat.beq z 149))) 120 _ _ _ ?_
    refine And.intro (fun q => absurd q c1) (fun _ => And.intro rfl (m_day (N := dys tc hc N k) h10 hN rb.1 rb.2.1 fun I2 a b => And.intro rfl ?_))
    refine m_met (N := dys tc hc N (k + 1)) b rb2.1 rb2.2.1 (fun I3 m3 c3 x3 b3 => ?_)
    have em := mxD_eq x3
    rw [em]
    have key := m_best_l hr hm hK j (k + 1) I3 (.int (nI (mxD N hc wc tc (k + 1)))) (by omega) (ch_tr (ch_tr (S := fun r => r = 108 ∨ NR r) hI a fun r q => q.elim id PD_ne) (ch_w c3 fun r q => PM_NR q) fun r q => q.elim id .inr) (fun k hk => by rw [c3 115 (by unfold PM PF; omega), a 115 (by unfold PD PF; omega)]; exact h5 k hk) (by rw [c3 108 (by unfold PM PF; omega)]; exact b)
    rw [nI_succ (k + 1), show bdB (mxD N hc wc tc) (k + 1 + 1) = (if nI (mxD N hc wc tc (k + 1)) ≤ moB (mxD N hc wc tc) (k + 1) then bdB (mxD N hc wc tc) (k + 1) else nI (k + 1)) from rfl, show moB (mxD N hc wc tc) (k + 1 + 1) = (if nI (mxD N hc wc tc (k + 1)) ≤ moB (mxD N hc wc tc) (k + 1) then moB (mxD N hc wc tc) (k + 1) else nI (mxD N hc wc tc (k + 1))) from rfl] at key
    refine And.intro (fun q => ?_) (fun q => ?_)
    · have q : nI (mxD N hc wc tc (k + 1)) ≤ moB (mxD N hc wc tc) (k + 1) := q
      rw [if_pos q, if_pos q] at key
      exact And.intro (fun _ => key) (fun z => absurd q z)
    · have q : ¬ nI (mxD N hc wc tc (k + 1)) ≤ moB (mxD N hc wc tc) (k + 1) := q
      rw [if_neg q, if_neg q] at key
      exact And.intro (fun z => absurd z q) (fun _ => key)
theorem in2 {v : Int32} (b0 : ¬ v < 0) (b1 : ¬ 1 < v) : v = 0 ∨ v = 1 := by (simp only [Int32.lt_iff_toInt_lt, Int32.le_iff_toInt_le, gt_iff_lt, ge_iff_le, ← Int32.toInt_inj, Int32.reduceToInt, Int32.reduceMul, Int32.reduceAdd, Int32.reduceSub, ne_eq, true_and, and_true, false_and, and_false, not_true_eq_false, not_false_eq_true, true_or, or_true, false_or, or_false] at *; omega)
theorem L_best (x y : Int32) : sg_Call (81, 6, 0, [.ref 20, .int x, .int y, .null, .null, .null, .null], []) (164, 26, 0, [.ref 107, .int x, .int y, .null, .null, .null, .null], []) := by
  intro L xs kt I J T n s K hS hK
  have h13 := hS.1.2.2.2.1
  obtain ⟨hc, wc, tc, hR, hB⟩ := hS.2.1
  have hr := RB_of hR hB
  have h15 := J15_of hS
  have h10 := hR.1
  rcases rng x 0 30 with ⟨a0, a1⟩ | a0 | ⟨a0, a1⟩
  · rcases rng y 0 1 with ⟨b0, b1⟩ | b0 | ⟨b0, b1⟩
    · obtain ⟨m, hm, rfl⟩ := in_of (x := x) (m := 30) (by decide) a0 a1
      have ref : ∀ I1 J1 T1 v, ch NR I I1 → chJ PJ J J1 → chT (fun r => r = 41) T T1 → (∀ I2 v5 v6, sg_Sim L xs kt I2 J1 T1 n → am_T am_C (164, 26, 95, [.ref 107, .int (nI m), .int y, .int (bdB (mxD (I 108) hc wc tc) (m + 1)), .int (moB (mxD (I 108) hc wc tc) (m + 1)), v5, v6], []) (am_mk kt I2 J1 T1 n s) (sg_End L xs n s v)) → sg_Mid L xs I n s (164, 26, 0, [.ref 107, .int (nI m), .int y, .null, .null, .null, .null], []) v kt I1 J1 T1 n s := fun I1 J1 T1 v d e f hv => by
        refine ⟨h13, d 13 (by unfold NR CT; omega), ?_⟩
        have hN1 : I1 108 = I 108 := d 108 (by unfold NR CT; omega)
        refine am_wq_T (cut := fun z pc => (Nat.beq z 164 && Nat.beq pc 38)) (inl := fun z => !((Nat.beq z 113 || (Nat.beq z 160 || Nat.beq z 149)))) 120 _ _ _ ?_
        refine m_in_y a0 a1 (And.intro (fun q => absurd q m1z) (fun _ => m_in_y b0 b1 (And.intro (fun _ => And.intro rfl ?_) (fun q => absurd m1z q))))
        refine m_aside (N := I 108) hr hN1 fun I2 g1 g2 g3 => ?_
        refine And.intro rfl (m_met (N := I 108) g2 hr.1 hr.2.1 (fun I3 m3 c3 x3 b3 => ?_))
        have em : m3 = mxD (I 108) hc wc tc 0 := mxD_eq (N := I 108) (k := 0) x3
        have key := m_best_l (kt := kt) (J := J1) (T := T1) (n := n) (s := s) (K := sg_End L xs n s v) (N := I 108) (y := y) (m := m) hr (by omega) (I0 := I3) (fun I4 v5 v6 k1 k2 k3 => by
          refine am_wq_T (cut := fun z pc => (Nat.beq z 164 && Nat.beq pc 95)) (inl := fun z => !(Nat.beq z 161)) 120 _ _ _ ?_
          refine And.intro rfl (m_putsBack (N := I 108) (fun k hk => by rw [k3]; exact dys_76 h10 (by omega) m) (fun k hk => by rw [k2 k hk, c3 115 (by unfold PM PF; omega)]; exact g3 k hk) fun I5 c1 c2 => ?_)
          refine hv I5 v5 v6 (sim_T (T := T) (fun r k hr => by rw [f r hr]) (sim_eq (I := I) (J := J) (fun r k p => ?_) (fun r hr => e r (by unfold PJ; omega)) hS))
          by_cases q : r = 108
          · subst q; rw [c2]
          · rw [c1 r q, k1 r (fun z => z.elim q (rv_NR p)), c3 r (fun z => rv_NR p (PM_NR z)), g1 r (rv_NR p), d r (rv_NR p)]) m 0 I3 .null (by omega) ch_rfl (fun _ _ => rfl) (by rw [c3 108 (by unfold PM PF; omega)]; exact g2)
        have e0 : moB (mxD (I 108) hc wc tc) (0 + 1) = nI m3 := by
          show (if nI (mxD (I 108) hc wc tc 0) ≤ -1 then (-1 : Int32) else nI (mxD (I 108) hc wc tc 0)) = nI m3
          have w6 := hr.1.2.1
          rw [← em, if_neg fun z => absurd (show nI m3 < 0 by clear hK hS; (simp only [Int32.lt_iff_toInt_lt, Int32.le_iff_toInt_le, gt_iff_lt, ge_iff_le, ← Int32.toInt_inj, Int32.reduceToInt, Int32.reduceMul, Int32.reduceAdd, Int32.reduceSub, ne_eq, true_and, and_true, false_and, and_false, not_true_eq_false, not_false_eq_true, true_or, or_true, false_or, or_false] at *; omega)) (nI_pos (by omega))]
        have e1 : bdB (mxD (I 108) hc wc tc) (0 + 1) = 0 := by
          show (if _ then (0 : Int32) else nI 0) = 0
          split <;> rfl
        rw [e0, e1] at key
        exact key
      have fin : ∀ I1 T1, ch (fun r => 37 ≤ r ∧ r < 37 + 16) I I1 → chT (fun r => r = 37 + 4) T T1 → sg_LR kt I1 T1 n 37 (I 108) hc wc tc → am_T am_C (81, 6, 39, [.ref 20, .int (nI m), .int y, .int 0, .int (-1), .int 0, .null], []) (am_mk kt I1 J T1 n s) K := fun I1 T1 a b c => by
        refine c_best_l (N := I 108) (m := m) hr (by omega) (I0 := I1) (J0 := J) h15 (fun I2 J2 v5 v6 d e => ?_) (m + 1) 0 I1 J .null (by omega) ch_rfl chJ_rfl c
        have dn : ch NR I I2 := ch_nr (ch_w a fun r q => by unfold NR; omega) d
        rcases in2 b0 b1 with rfl | rfl
        · have hM := ref I2 J2 T1 (bdB (mxD (I 108) hc wc tc) (m + 1)) dn e b fun I3 v5 v6 hs => by
            refine am_wq_T (cut := fun _ _ => false) (inl := fun _ => true) 120 _ _ _ ?_
            exact And.intro (fun q => absurd rfl q) (fun _ => End_of rfl hs)
          have key := hK _ _ _ _ _ _ _ hM
          refine am_wq_T (cut := fun _ _ => false) (inl := fun _ => true) 120 _ _ _ ?_
          exact And.intro (fun q => absurd rfl q) (fun _ => key)
        · have hM := ref I2 J2 T1 (moB (mxD (I 108) hc wc tc) (m + 1)) dn e b fun I3 v5 v6 hs => by
            refine am_wq_T (cut := fun _ _ => false) (inl := fun _ => true) 120 _ _ _ ?_
            exact And.intro (fun _ => End_of rfl hs) (fun q => absurd m1z q)
          have key := hK _ _ _ _ _ _ _ hM
          refine am_wq_T (cut := fun _ _ => false) (inl := fun _ => true) 120 _ _ _ ?_
          exact And.intro (fun _ => key) (fun q => absurd m1z q)
      refine am_wq_T (cut := fun z pc => (Nat.beq z 81 && Nat.beq pc 39)) (inl := fun z => !((Nat.beq z 105 || Nat.beq z 14))) 120 _ _ _ ?_
      refine c_within_y a0 a1 (And.intro (fun q => absurd q m1z) (fun _ => c_within_y b0 b1 (And.intro (fun _ => And.intro rfl (And.intro rfl (And.intro rfl ?_))) (fun q => absurd m1z q))))
      refine c_become37_21 hR fun I1 T1 a b c => ?_
      exact fin I1 T1 a b c
    all_goals
      have hM : sg_Mid L xs I n s (164, 26, 0, [.ref 107, .int x, .int y, .null, .null, .null, .null], []) (-1000000001) kt I J T n s := by
        refine ⟨h13, rfl, ?_⟩
        refine am_wq_T (cut := fun _ _ => false) (inl := fun z => !((Nat.beq z 113 || (Nat.beq z 160 || Nat.beq z 158)))) 120 _ _ _ ?_
        refine m_in_y a0 a1 (And.intro (fun q => absurd q m1z) (fun _ => ?_))
        first | exact m_in_n0 b0 (And.intro (fun q => absurd rfl q) (fun _ => End_of rfl hS)) | exact m_in_n1 b0 b1 (And.intro (fun q => absurd rfl q) (fun _ => End_of rfl hS))
      refine am_wq_T (cut := fun _ _ => false) (inl := fun z => !((Nat.beq z 105 || Nat.beq z 14))) 120 _ _ _ ?_
      refine c_within_y a0 a1 (And.intro (fun q => absurd q m1z) (fun _ => ?_))
      first | exact c_within_n0 b0 (And.intro (fun q => absurd rfl q) (fun _ => hK _ _ _ _ _ _ _ hM)) | exact c_within_n1 b0 b1 (And.intro (fun q => absurd rfl q) (fun _ => hK _ _ _ _ _ _ _ hM))
  all_goals
    have hM : sg_Mid L xs I n s (164, 26, 0, [.ref 107, .int x, .int y, .null, .null, .null, .null], []) (-1000000001) kt I J T n s := by
      refine ⟨h13, rfl, ?_⟩
      refine am_wq_T (cut := fun _ _ => false) (inl := fun z => !((Nat.beq z 113 || (Nat.beq z 160 || Nat.beq z 158)))) 120 _ _ _ ?_
      first | exact m_in_n0 a0 (And.intro (fun _ => End_of rfl hS) (fun q => absurd rfl q)) | exact m_in_n1 a0 a1 (And.intro (fun _ => End_of rfl hS) (fun q => absurd rfl q))
    refine am_wq_T (cut := fun _ _ => false) (inl := fun z => !((Nat.beq z 105 || Nat.beq z 14))) 120 _ _ _ ?_
    first | exact c_within_n0 a0 (And.intro (fun _ => hK _ _ _ _ _ _ _ hM) (fun q => absurd rfl q)) | exact c_within_n1 a0 a1 (And.intro (fun _ => hK _ _ _ _ _ _ _ hM) (fun q => absurd rfl q))
end T64
