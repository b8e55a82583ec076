/-! check -/
section T84
variable {kt : Nat → Nat × Nat} {I I' : Nat → Nat → Int32} {J J' : Nat → Nat → Int64} {T T' : Nat → Nat → Nat} {n s : Nat} {L : Nat} {xs : Nat → Int32} {K : Option Value → am_M → Prop} {N N' W : Nat → Int32} {hc wc tc h w c st m i : Nat} {x : Value} {v : Int32}
/-- what is told, in turn -/
noncomputable def ckV (tc hc : Nat) (N : Nat → Int32) (k : Nat) : Int32 := if k % 2 = 0 then dz (dys tc hc N (k / 2 + 1)) hc else nI (cz (dys tc hc N (k / 2 + 1)) hc)
theorem ckV_e (i : Nat) : ckV tc hc N (2 * i) = dz (dys tc hc N (i + 1)) hc := by
  unfold ckV
  rw [if_pos (by omega), show 2 * i / 2 = i by omega]
theorem ckV_o (i : Nat) : ckV tc hc N (2 * i + 1) = nI (cz (dys tc hc N (i + 1)) hc) := by
  unfold ckV
  rw [if_neg (by omega), show (2 * i + 1) / 2 = i by omega]
def ckP (W : Nat → Int32) (c tc hc : Nat) (N : Nat → Int32) (k : Nat) : Prop := k < c ∧ W k = ckV tc hc N k
/-- the answer -/
def ckR (W : Nat → Int32) (c st tc hc : Nat) (N : Nat → Int32) (v : Int32) : Prop := (∃ m, m < 2 * st ∧ v = nI (m + 1) ∧ ¬ ckP W c tc hc N m ∧ ∀ k, k < m → ckP W c tc hc N k) ∨ (v = (if 2 * st = c then 0 else nI (2 * st + 1)) ∧ ∀ k, k < 2 * st → ckP W c tc hc N k)
theorem ckU (hP : ckR W c st tc hc N v) (hm : m < 2 * st) (hn : ∀ k, k < m → ckP W c tc hc N k) (q : ¬ ckP W c tc hc N m) : v = nI (m + 1) := by
  rcases hP with ⟨r, r1, r2, r3, r4⟩ | ⟨r2, r3⟩
  · have : r = m := by
      rcases Nat.lt_trichotomy r m with z | z | z
      · exact absurd (hn r z) r3
      · exact z
      · exact absurd (r4 m z) q
    rw [r2, this]
  · exact absurd (r3 m hm) q
theorem ckU2 (hP : ckR W c st tc hc N v) (hn : ∀ k, k < 2 * st → ckP W c tc hc N k) : v = (if 2 * st = c then 0 else nI (2 * st + 1)) := by
  rcases hP with ⟨r, r1, r2, r3, r4⟩ | ⟨r2, r3⟩
  · exact absurd (hn r r1) r3
  · exact r2
theorem ckX (W : Nat → Int32) (c st tc hc : Nat) (N : Nat → Int32) : ∃ v, ckR W c st tc hc N v := by
  rcases fst_of (fun k => ¬ ckP W c tc hc N k) (2 * st) with ⟨r, r1, r2, r3⟩ | r
  · exact ⟨_, .inl ⟨r, r1, rfl, r2, fun k hk => Classical.not_not.mp (r3 k hk)⟩⟩
  · exact ⟨_, .inr ⟨rfl, fun k hk => Classical.not_not.mp (r k hk)⟩⟩
theorem ckN {P : Nat → Prop} {m : Nat} (hn : ∀ k, k < m → P k) (q : P m) : ∀ k, k < m + 1 → P k := fun k hk => by
  by_cases e : k = m
  · subst e; exact q
  · exact hn k (by omega)
theorem one_add (m : Nat) : (1 : Int32) + nI m = nI (m + 1) := by
  rw [show (1 : Int32) = nI 1 from rfl, nI_add, Nat.add_comm]
theorem c_ck1 {D : Nat → Int32} (hc60 : c ≤ 60) (hm : m < 100) (hR : sg_LR kt I T n 37 D hc wc tc) (w : m < c → I 77 m = W m) (h1 : m < c ∧ W m = dz D hc → am_T am_C (101, 5, 111, [.ref 20, x, .int (nI c), .int (nI st), .int (nI (m + 1)), .int (nI i)], []) (am_mk kt I J T n s) K) (h0 : ¬ (m < c ∧ W m = dz D hc) → K (some (.int (nI (m + 1)))) (am_mk kt I J T n s)) : am_T am_C (101, 5, 80, [.ref 20, x, .int (nI c), .int (nI st), .int (nI m), .int (nI i)], []) (am_mk kt I J T n s) K := by
  by_cases q : m < c
  · have c1 : ¬ nI c ≤ nI m := nI_ge q (by omega)
    have vm : vp_in (nI m) 60 := vpl (by omega) (by decide)
    have cm : (nI m).toNatClampNeg = m := nI_clamp (by omega)
    have e : I 77 (nI m).toNatClampNeg = W m := by rw [cm]; exact w q
    rw [nI_succ] at h1
    rw [← one_add] at h0
    refine am_wq_T (cut := fun z pc => ((Nat.beq z 101 && Nat.beq pc 80) || ((Nat.beq z 101 && Nat.beq pc 111) || (Nat.beq z 101 && Nat.beq pc 67)))) (inl := fun z => !((Nat.beq z 25 || (Nat.beq z 27 || Nat.beq z 26)))) 120 _ _ _ ?_
    exact And.intro (fun z => absurd z c1) (fun _ => And.intro rfl (And.intro ⟨rfl, vm⟩ (And.intro rfl (And.intro rfl (c_depth37 hR (And.intro (fun z => h1 ⟨q, e.symm.trans z⟩) (fun z => h0 (fun y => z (e.trans y.2)))))))))
  · have c1 : nI c ≤ nI m := nI_le (by omega) (by omega)
    have key := h0 (fun y => q y.1)
    rw [← one_add] at key
    refine am_wq_T (cut := fun z pc => ((Nat.beq z 101 && Nat.beq pc 80) || ((Nat.beq z 101 && Nat.beq pc 111) || (Nat.beq z 101 && Nat.beq pc 67)))) (inl := fun z => !((Nat.beq z 25 || (Nat.beq z 27 || Nat.beq z 26)))) 120 _ _ _ ?_
    exact And.intro (fun _ => key) (fun z => absurd c1 z)
theorem c_ck2 {D : Nat → Int32} (hc60 : c ≤ 60) (hm : m < 100) (hR : sg_LR kt I T n 37 D hc wc tc) (w : m < c → I 77 m = W m) (h1 : m < c ∧ W m = nI (cz D hc) → am_T am_C (101, 5, 67, [.ref 20, x, .int (nI c), .int (nI st), .int (nI (m + 1)), .int (nI (i + 1))], []) (am_mk kt I J T n s) K) (h0 : ¬ (m < c ∧ W m = nI (cz D hc)) → K (some (.int (nI (m + 1)))) (am_mk kt I J T n s)) : am_T am_C (101, 5, 111, [.ref 20, x, .int (nI c), .int (nI st), .int (nI m), .int (nI i)], []) (am_mk kt I J T n s) K := by
  by_cases q : m < c
  · have c1 : ¬ nI c ≤ nI m := nI_ge q (by omega)
    have vm : vp_in (nI m) 60 := vpl (by omega) (by decide)
    have cm : (nI m).toNatClampNeg = m := nI_clamp (by omega)
    have e : I 77 (nI m).toNatClampNeg = W m := by rw [cm]; exact w q
    rw [nI_succ, nI_succ] at h1
    rw [← one_add] at h0
    refine am_wq_T (cut := fun z pc => ((Nat.beq z 101 && Nat.beq pc 80) || ((Nat.beq z 101 && Nat.beq pc 111) || (Nat.beq z 101 && Nat.beq pc 67)))) (inl := fun z => !((Nat.beq z 25 || (Nat.beq z 27 || Nat.beq z 26)))) 120 _ _ _ ?_
    exact And.intro (fun z => absurd z c1) (fun _ => And.intro rfl (And.intro ⟨rfl, vm⟩ (And.intro rfl (And.intro rfl (c_filled37 hR (And.intro (fun z => h1 ⟨q, e.symm.trans z⟩) (fun z => h0 (fun y => z (e.trans y.2)))))))))
  · have c1 : nI c ≤ nI m := nI_le (by omega) (by omega)
    have key := h0 (fun y => q y.1)
    rw [← one_add] at key
    refine am_wq_T (cut := fun z pc => ((Nat.beq z 101 && Nat.beq pc 80) || ((Nat.beq z 101 && Nat.beq pc 111) || (Nat.beq z 101 && Nat.beq pc 67)))) (inl := fun z => !((Nat.beq z 25 || (Nat.beq z 27 || Nat.beq z 26)))) 120 _ _ _ ?_
    exact And.intro (fun _ => key) (fun z => absurd c1 z)
theorem c_check_l (hr : RB N hc wc tc) (hc60 : c ≤ 60) (hst : st ≤ 30) {I0 : Nat → Nat → Int32} (w : ∀ i, i < c → I0 77 i = W i) (hP : ckR W c st tc hc N v) (hK : ∀ I', ch (PB 37) I0 I' → K (some (.int v)) (am_mk kt I' J T n s)) : ∀ (j i : Nat) (I : Nat → Nat → Int32), i + j = st → ch (PB 37) I0 I → sg_LR kt I T n 37 (dys tc hc N i) hc wc tc → (∀ k, k < 2 * i → ckP W c tc hc N k) → am_T am_C (101, 5, 67, [.ref 20, x, .int (nI c), .int (nI st), .int (nI (2 * i)), .int (nI i)], []) (am_mk kt I J T n s) K := by
  intro j
  induction j with
  | zero =>
    intro i I hi hI hR hn
    have : i = st := by omega
    subst this
    have c1 : nI i ≤ nI i := nI_le (Nat.le_refl _) (by omega)
    have key := hK I hI
    rw [ckU2 hP hn] at key
    refine am_wq_T (cut := fun z pc => ((Nat.beq z 101 && Nat.beq pc 80) || ((Nat.beq z 101 && Nat.beq pc 111) || (Nat.beq z 101 && Nat.beq pc 67)))) (inl := fun z => !((Nat.beq z 25 || (Nat.beq z 27 || Nat.beq z 26)))) 120 _ _ _ ?_
    refine And.intro (fun _ => And.intro (fun z => ?_) (fun z => ?_)) (fun z => absurd c1 z)
    · have n1 : ¬ 2 * i = c := fun y => z (by rw [y])
      rw [if_neg n1, ← one_add] at key
      exact key
    · have n1 : 2 * i = c := (nI_eq (by omega) (by omega)).mp (Decidable.not_not.mp z)
      rw [if_pos n1] at key
      exact key
  | succ j ih =>
    intro i I hi hI hR hn
    have c1 : ¬ nI st ≤ nI i := nI_ge (by omega) (by omega)
    have hri := dys_RB hr i
    refine am_wq_T (cut := fun z pc => ((Nat.beq z 101 && Nat.beq pc 80) || ((Nat.beq z 101 && Nat.beq pc 111) || (Nat.beq z 101 && Nat.beq pc 67)))) (inl := fun z => !((Nat.beq z 25 || (Nat.beq z 27 || Nat.beq z 26)))) 120 _ _ _ ?_
    refine And.intro (fun z => absurd z c1) (fun _ => And.intro rfl (And.intro rfl (c_day37 hR hri.2.1 fun I1 a b => ?_)))
    have d1 : ch (PB 37) I0 I1 := PB_tr hI a
    have w1 : ∀ i, i < c → I1 77 i = W i := fun i hi => by rw [d1 77 (by unfold PB CT; omega)]; exact w i hi
    refine c_ck1 (D := dys tc hc N (i + 1)) hc60 (by omega) b (w1 _) (fun p => ?_) (fun p => ?_)
    · have hn1 := ckN hn (⟨p.1, by rw [ckV_e]; exact p.2⟩ : ckP W c tc hc N (2 * i))
      refine c_ck2 (D := dys tc hc N (i + 1)) hc60 (by omega) b (w1 _) (fun p2 => ?_) (fun p2 => ?_)
      · have hn2 := ckN hn1 (⟨p2.1, by rw [ckV_o]; exact p2.2⟩ : ckP W c tc hc N (2 * i + 1))
        exact ih (i + 1) I1 (by omega) d1 b hn2
      · have key := hK I1 d1
        rw [ckU hP (by omega) hn1 (fun y => p2 ⟨y.1, by rw [← ckV_o]; exact y.2⟩)] at key
        exact key
    · have key := hK I1 d1
      rw [ckU hP (by omega) hn (fun y => p ⟨y.1, by rw [← ckV_e]; exact y.2⟩)] at key
      exact key
theorem two_mul (i : Nat) : (2 : Int32) * nI i = nI (2 * i) := by
  rw [show (2 : Int32) = nI 2 from rfl, pk_mul]
theorem m_ck1 {D : Nat → Int32} {st2 : Int32} (hc60 : c ≤ 60) (hm : m < 100) (hN : I 108 = D) (ho : RO D hc wc tc) (w : m < c → I 133 m = W m) (h1 : m < c ∧ W m = dz D hc → am_T am_C (201, 4, 130, [.ref 107, x, .int (nI c), .int st2, .int (nI (m + 1)), .int (nI i)], []) (am_mk kt I J T n s) K) (h0 : ¬ (m < c ∧ W m = dz D hc) → am_T am_C (201, 4, 130, [.ref 107, x, .int (nI c), .int st2, .int (nI m), .int (nI i)], []) (am_mk kt I J T n s) K) : am_T am_C (201, 4, 100, [.ref 107, x, .int (nI c), .int st2, .int (nI m), .int (nI i)], []) (am_mk kt I J T n s) K := by
  rw [← Int32.add_zero (nI m)] at h0
  rw [nI_succ] at h1
  by_cases q : m < c
  · have c1 : ¬ nI c ≤ nI m := nI_ge q (by omega)
    have vm : vp_in (nI m) 60 := vpl (by omega) (by decide)
    have cm : (nI m).toNatClampNeg = m := nI_clamp (by omega)
    have e : I 133 (nI m).toNatClampNeg = W m := by rw [cm]; exact w q
    refine am_wq_T (cut := fun z pc => ((Nat.beq z 201 && Nat.beq pc 79) || ((Nat.beq z 201 && Nat.beq pc 100) || ((Nat.beq z 201 && Nat.beq pc 130) || (Nat.beq z 201 && Nat.beq pc 177))))) (inl := fun z => !((Nat.beq z 157 || (Nat.beq z 156 || (Nat.beq z 155 || Nat.beq z 115))))) 120 _ _ _ ?_
    refine And.intro (fun z => absurd z c1) (fun _ => And.intro rfl (And.intro ⟨rfl, vm⟩ (And.intro rfl (m_depthV hN ho rfl (And.intro (fun z => ?_) (fun z => ?_))))))
    · exact h0 (fun y => z (e.trans y.2))
    · exact h1 ⟨q, e.symm.trans (Decidable.not_not.mp z)⟩
  · have c1 : nI c ≤ nI m := nI_le (by omega) (by omega)
    have key := h0 (fun y => q y.1)
    refine am_wq_T (cut := fun z pc => ((Nat.beq z 201 && Nat.beq pc 79) || ((Nat.beq z 201 && Nat.beq pc 100) || ((Nat.beq z 201 && Nat.beq pc 130) || (Nat.beq z 201 && Nat.beq pc 177))))) (inl := fun z => !((Nat.beq z 157 || (Nat.beq z 156 || (Nat.beq z 155 || Nat.beq z 115))))) 120 _ _ _ ?_
    exact And.intro (fun _ => key) (fun z => absurd c1 z)
theorem m_ck2 {D : Nat → Int32} {st2 : Int32} (hc60 : c ≤ 60) (hm : m < 100) (hmi : m = 2 * i + 1) (hN : I 108 = D) (ho : RO D hc wc tc) (w : m < c → I 133 m = W m) (h1 : m < c ∧ W m = nI (cz D hc) → am_T am_C (201, 4, 79, [.ref 107, x, .int (nI c), .int st2, .int (nI (m + 1)), .int (nI (i + 1))], []) (am_mk kt I J T n s) K) (h0 : ¬ (m < c ∧ W m = nI (cz D hc)) → am_T am_C (201, 4, 79, [.ref 107, x, .int (nI c), .int st2, .int (nI m), .int (nI (i + 1))], []) (am_mk kt I J T n s) K) : am_T am_C (201, 4, 130, [.ref 107, x, .int (nI c), .int st2, .int (nI m), .int (nI i)], []) (am_mk kt I J T n s) K := by
  have d1 : ¬ ¬ nI m = 2 * nI i + 1 := fun z => z (by rw [two_mul, nI_1, hmi])
  rw [← Int32.add_zero (nI m), nI_succ] at h0
  rw [nI_succ, nI_succ] at h1
  by_cases q : m < c
  · have c1 : ¬ nI c ≤ nI m := nI_ge q (by omega)
    have vm : vp_in (nI m) 60 := vpl (by omega) (by decide)
    have cm : (nI m).toNatClampNeg = m := nI_clamp (by omega)
    have e : I 133 (nI m).toNatClampNeg = W m := by rw [cm]; exact w q
    refine am_wq_T (cut := fun z pc => ((Nat.beq z 201 && Nat.beq pc 79) || ((Nat.beq z 201 && Nat.beq pc 100) || ((Nat.beq z 201 && Nat.beq pc 130) || (Nat.beq z 201 && Nat.beq pc 177))))) (inl := fun z => !((Nat.beq z 157 || (Nat.beq z 156 || (Nat.beq z 155 || Nat.beq z 115))))) 120 _ _ _ ?_
    refine And.intro (fun z => absurd z d1) (fun _ => And.intro (fun z => absurd z c1) (fun _ => And.intro rfl (And.intro ⟨rfl, vm⟩ (And.intro rfl (m_filledV hN ho rfl (And.intro (fun z => ?_) (fun z => ?_)))))))
    · exact h0 (fun y => z (e.trans y.2))
    · exact h1 ⟨q, e.symm.trans (Decidable.not_not.mp z)⟩
  · have c1 : nI c ≤ nI m := nI_le (by omega) (by omega)
    have key := h0 (fun y => q y.1)
    refine am_wq_T (cut := fun z pc => ((Nat.beq z 201 && Nat.beq pc 79) || ((Nat.beq z 201 && Nat.beq pc 100) || ((Nat.beq z 201 && Nat.beq pc 130) || (Nat.beq z 201 && Nat.beq pc 177))))) (inl := fun z => !((Nat.beq z 157 || (Nat.beq z 156 || (Nat.beq z 155 || Nat.beq z 115))))) 120 _ _ _ ?_
    exact And.intro (fun z => absurd z d1) (fun _ => And.intro (fun _ => key) (fun z => absurd c1 z))
theorem m_ck2n {st2 : Int32} (hm : m < 100) (hmi : m = 2 * i) (h0 : am_T am_C (201, 4, 79, [.ref 107, x, .int (nI c), .int st2, .int (nI m), .int (nI (i + 1))], []) (am_mk kt I J T n s) K) : am_T am_C (201, 4, 130, [.ref 107, x, .int (nI c), .int st2, .int (nI m), .int (nI i)], []) (am_mk kt I J T n s) K := by
  have d1 : ¬ nI m = 2 * nI i + 1 := fun z => by
    rw [two_mul, nI_1] at z
    have := (nI_eq (by omega) (by omega)).mp z
    omega
  rw [← Int32.add_zero (nI m), nI_succ] at h0
  refine am_wq_T (cut := fun z pc => ((Nat.beq z 201 && Nat.beq pc 79) || ((Nat.beq z 201 && Nat.beq pc 100) || ((Nat.beq z 201 && Nat.beq pc 130) || (Nat.beq z 201 && Nat.beq pc 177))))) (inl := fun z => !((Nat.beq z 157 || (Nat.beq z 156 || (Nat.beq z 155 || Nat.beq z 115))))) 120 _ _ _ ?_
  exact And.intro (fun _ => h0) (fun z => absurd d1 z)
theorem m_ck3 (hm : m < 100) (hst : st ≤ 30) (hi : i ≤ 31) (hx : st ≤ i ∨ m ≠ 2 * i) (h0 : am_T am_C (201, 4, 177, [.ref 107, x, .int (nI c), .int (nI (2 * st)), .int (nI m), .int (nI i)], []) (am_mk kt I J T n s) K) : am_T am_C (201, 4, 79, [.ref 107, x, .int (nI c), .int (nI (2 * st)), .int (nI m), .int (nI i)], []) (am_mk kt I J T n s) K := by
  by_cases q : st ≤ i
  · have c1 : nI (2 * st) ≤ 2 * nI i := by rw [two_mul]; exact nI_le (by omega) (by omega)
    refine am_wq_T (cut := fun z pc => ((Nat.beq z 201 && Nat.beq pc 79) || ((Nat.beq z 201 && Nat.beq pc 100) || ((Nat.beq z 201 && Nat.beq pc 130) || (Nat.beq z 201 && Nat.beq pc 177))))) (inl := fun z => !((Nat.beq z 157 || (Nat.beq z 156 || (Nat.beq z 155 || Nat.beq z 115))))) 120 _ _ _ ?_
    exact And.intro (fun _ => h0) (fun z => absurd c1 z)
  · have c1 : ¬ nI (2 * st) ≤ 2 * nI i := by rw [two_mul]; exact nI_ge (by omega) (by omega)
    have d1 : ¬ nI m = 2 * nI i := fun z => by
      rw [two_mul] at z
      have := (nI_eq (by omega) (by omega)).mp z
      omega
    refine am_wq_T (cut := fun z pc => ((Nat.beq z 201 && Nat.beq pc 79) || ((Nat.beq z 201 && Nat.beq pc 100) || ((Nat.beq z 201 && Nat.beq pc 130) || (Nat.beq z 201 && Nat.beq pc 177))))) (inl := fun z => !((Nat.beq z 157 || (Nat.beq z 156 || (Nat.beq z 155 || Nat.beq z 115))))) 120 _ _ _ ?_
    exact And.intro (fun z => absurd z c1) (fun _ => And.intro (fun _ => h0) (fun z => absurd d1 z))
theorem m_cke (hm : m < 100) (hst : st ≤ 30) (hc60 : c ≤ 60) (hK : ∀ I', ch (fun r => r = 108) I I' → (∀ k, k < 1448 → I' 108 k = I 110 k) → K (some (.int (if m = c ∧ m = 2 * st then 0 else nI (m + 1)))) (am_mk kt I' J T n s)) : am_T am_C (201, 4, 177, [.ref 107, x, .int (nI c), .int (nI (2 * st)), .int (nI m), .int (nI i)], []) (am_mk kt I J T n s) K := by
  refine am_wq_T (cut := fun z pc => ((Nat.beq z 201 && Nat.beq pc 79) || ((Nat.beq z 201 && Nat.beq pc 100) || ((Nat.beq z 201 && Nat.beq pc 130) || (Nat.beq z 201 && Nat.beq pc 177))))) (inl := fun z => !((Nat.beq z 157 || (Nat.beq z 156 || (Nat.beq z 155 || Nat.beq z 115))))) 120 _ _ _ ?_
  refine And.intro rfl (And.intro rfl (m_copy110_108 fun I1 a b => ?_))
  have key := hK I1 a b
  refine And.intro (fun z => ?_) (fun z => And.intro (fun y => ?_) (fun y => ?_))
  · rw [if_neg (fun y => z (by rw [y.1])), ← one_add] at key
    exact key
  · rw [if_neg (fun u => y (by rw [u.2])), ← one_add] at key
    exact key
  · rw [if_pos ⟨(nI_eq (by omega) (by omega)).mp (Decidable.not_not.mp z), (nI_eq (by omega) (by omega)).mp (Decidable.not_not.mp y)⟩] at key
    exact key
theorem ck_end (h0 : m < 2 * st) : (if m = c ∧ m = 2 * st then (0 : Int32) else nI (m + 1)) = nI (m + 1) := if_neg (fun y => by omega)
theorem m_check_l (hr : RB N hc wc tc) (hc60 : c ≤ 60) (hst : st ≤ 30) {I0 : Nat → Nat → Int32} (w : ∀ i, i < c → I0 133 i = W i) (hP : ckR W c st tc hc N v) (hK : ∀ I' m i, ch PD I0 I' → m < 100 → (if m = c ∧ m = 2 * st then 0 else nI (m + 1)) = v → am_T am_C (201, 4, 177, [.ref 107, x, .int (nI c), .int (nI (2 * st)), .int (nI m), .int (nI i)], []) (am_mk kt I' J T n s) K) : ∀ (j i : Nat) (I : Nat → Nat → Int32), i + j = st → ch PD I0 I → I 108 = dys tc hc N i → (∀ k, k < 2 * i → ckP W c tc hc N k) → am_T am_C (201, 4, 79, [.ref 107, x, .int (nI c), .int (nI (2 * st)), .int (nI (2 * i)), .int (nI i)], []) (am_mk kt I J T n s) K := by
  intro j
  induction j with
  | zero =>
    intro i I hi hI hN hn
    have : i = st := by omega
    subst this
    refine m_ck3 (by omega) hst (by omega) (.inl (Nat.le_refl _)) (hK I (2 * i) i hI (by omega) ?_)
    rw [ckU2 hP hn]
    by_cases q : 2 * i = c
    · rw [if_pos q, if_pos ⟨q, rfl⟩]
    · rw [if_neg q, if_neg (fun y => q y.1)]
  | succ j ih =>
    intro i I hi hI hN hn
    have c1 : ¬ nI (2 * st) ≤ 2 * nI i := by rw [two_mul]; exact nI_ge (by omega) (by omega)
    have d1 : ¬ ¬ nI (2 * i) = 2 * nI i := fun z => z (two_mul i).symm
    have hri := dys_RB hr i
    have hri1 := dys_RB hr (i + 1)
    refine am_wq_T (cut := fun z pc => ((Nat.beq z 201 && Nat.beq pc 79) || ((Nat.beq z 201 && Nat.beq pc 100) || ((Nat.beq z 201 && Nat.beq pc 130) || (Nat.beq z 201 && Nat.beq pc 177))))) (inl := fun z => !((Nat.beq z 157 || (Nat.beq z 156 || (Nat.beq z 155 || Nat.beq z 115))))) 120 _ _ _ ?_
    refine And.intro (fun z => absurd z c1) (fun _ => And.intro (fun z => absurd z d1) (fun _ => And.intro rfl (m_day hr.2.2.2 hN hri.1 hri.2.1 fun I1 a b => ?_)))
    have d2 : ch PD I0 I1 := ch_tr hI a fun r q => q.elim id id
    have w1 : ∀ i, i < c → I1 133 i = W i := fun i hi => by rw [d2 133 (by unfold PD PF; omega)]; exact w i hi
    have b1 : I1 108 = dys tc hc N (i + 1) := b
    refine m_ck1 (D := dys tc hc N (i + 1)) hc60 (by omega) b1 hri1.1 (w1 _) (fun p => ?_) (fun p => ?_)
    · have hn1 := ckN hn (⟨p.1, by rw [ckV_e]; exact p.2⟩ : ckP W c tc hc N (2 * i))
      refine m_ck2 (D := dys tc hc N (i + 1)) hc60 (by omega) rfl b1 hri1.1 (w1 _) (fun p2 => ?_) (fun p2 => ?_)
      · have hn2 := ckN hn1 (⟨p2.1, by rw [ckV_o]; exact p2.2⟩ : ckP W c tc hc N (2 * i + 1))
        exact ih (i + 1) I1 (by omega) d2 b1 hn2
      · refine m_ck3 (by omega) hst (by omega) (.inr (by omega)) (hK I1 (2 * i + 1) (i + 1) d2 (by omega) ?_)
        rw [ck_end (by omega)]
        exact (ckU hP (by omega) hn1 (fun y => p2 ⟨y.1, by rw [← ckV_o]; exact y.2⟩)).symm
    · refine m_ck2n (by omega) rfl (m_ck3 (by omega) hst (by omega) (.inr (by omega)) (hK I1 (2 * i) (i + 1) d2 (by omega) ?_))
      rw [ck_end (by omega)]
      exact (ckU hP (by omega) hn (fun y => p ⟨y.1, by rw [← ckV_e]; exact y.2⟩)).symm
end T84
section T84b
variable {kt : Nat → Nat × Nat} {I I' : Nat → Nat → Int32} {J J' : Nat → Nat → Int64} {T T' : Nat → Nat → Nat} {n s : Nat} {L : Nat} {xs : Nat → Int32} {K : Option Value → am_M → Prop} {N N' W : Nat → Int32} {hc wc tc h w c st m i : Nat}
theorem m_copy109_108r (hK : K none (am_mk kt (am_row I 108 (cpN (I 108) (I 109) 1448)) J T n s)) : am_T am_C (115, 0, 0, [.ref 109, .ref 108, .null], []) (am_mk kt I J T n s) K := by
  have key := m_copy109_108_l (kt := kt) (J := J) (T := T) (n := n) (s := s) (K := K) (I0 := I) 1448 0 (by decide) hK
  rw [cp_0] at key
  refine am_wq_T (cut := fun z pc => (Nat.beq z 115 && Nat.beq pc 2)) (inl := fun _ => false) 120 _ _ _ ?_
  exact key
theorem steps_eq {dd m : Nat} {d : Int32} (hdd : dd ≤ 9999) (hm : m ≤ 100) (e : d = nI dd) : ∃ st, st ≤ m ∧ (if (9999 : Int32) - d < nI m then 9999 - d else nI m) = nI st ∧ wth ((9999 : Int32) - d) 0 (nI m) = nI st := by
  have esub : (9999 : Int32) - d = nI (9999 - dd) := by rw [e]; exact nI_subI (a := 9999) hdd
  refine ⟨if 9999 - dd < m then 9999 - dd else m, by split <;> omega, ?_, ?_⟩
  · rw [esub]
    have il : nI (9999 - dd) < nI m ↔ 9999 - dd < m := nI_ltI (by omega) (by omega)
    by_cases q : 9999 - dd < m
    · rw [if_pos q, if_pos (il.mpr q)]
    · rw [if_neg q, if_neg fun z => q (il.mp z)]
  · rw [esub]
    unfold wth
    rw [if_neg (nI_pos (by omega))]
    have il : nI m < nI (9999 - dd) ↔ m < 9999 - dd := nI_ltI (by omega) (by omega)
    by_cases q : m < 9999 - dd
    · rw [if_pos (il.mpr q), if_neg (by omega)]
    · rw [if_neg fun z => q (il.mp z)]
      by_cases q2 : 9999 - dd < m
      · rw [if_pos q2]
      · rw [if_neg q2, show 9999 - dd = m by omega]
set_option maxRecDepth 6000 in
theorem L_check (x : Int32) : sg_Call (101, 5, 0, [.ref 20, .int x, .null, .null, .null, .null], []) (201, 4, 0, [.ref 107, .int x, .null, .null, .null, .null], []) := by
  intro L xs kt I J T n s K hS hK
  have h13 := hS.1.2.2.2.1
  obtain ⟨c, hc60, w1, w2, w3⟩ := hS.2.2.2.2.2.2
  obtain ⟨k0, k1, k2⟩ := hS.2.2.1
  have simW : sg_Sim L xs kt (am_up (am_up I 20 9 0) 107 37 0) J T n := by
    refine sim_wait (fun r k _ p1 p2 p3 p4 => ?_) (fun _ _ => rfl) ?_ hS
    · rw [up_ne p4, up_ne p3]
    · exact ⟨0, by omega, by rw [up_ne (by omega), up_eq]; rfl, by rw [up_eq]; rfl, fun i hi => absurd hi (Nat.not_lt_zero i)⟩
  have z13 : am_up I 20 9 0 13 = I 13 := up_off (by omega)
  rcases rng x 1 30 with ⟨a0, a1⟩ | a0 | ⟨a0, a1⟩
  · have a1' : x ≤ 30 := Int32.not_lt.mp a1
    by_cases q : I 107 3 = 0
    · have c2 : ¬ ¬ am_up I 20 9 0 20 3 = 0 := fun z => z (by rw [up_ne (by omega)]; exact k0.trans q)
      have hM : sg_Mid L xs I n s (201, 4, 0, [.ref 107, .int x, .null, .null, .null, .null], []) (-1000000002) kt (am_up I 20 9 0) J T n s := by
        refine ⟨h13, z13, ?_⟩
        have c1 : ¬ ¬ am_up (am_up I 20 9 0) 107 37 0 107 3 = 0 := fun z => z (by rw [up_ne (by omega), up_ne (by omega)]; exact q)
        refine am_wq_T (cut := fun z pc => (Nat.beq z 201 && Nat.beq pc 79)) (inl := fun z => !((Nat.beq z 113 || (Nat.beq z 115 || Nat.beq z 114)))) 120 _ _ _ ?_
        exact And.intro rfl (And.intro rfl (m_in_y a0 a1 (And.intro (fun _ => And.intro rfl (And.intro (fun z => absurd z c1) (fun _ => End_of rfl simW))) (fun z => absurd m1z z))))
      have key := hK _ _ _ _ _ _ _ hM
      refine am_wq_T (cut := fun z pc => (Nat.beq z 101 && Nat.beq pc 67)) (inl := fun z => !(Nat.beq z 14)) 120 _ _ _ ?_
      exact And.intro rfl (And.intro rfl (And.intro (fun z => absurd z a0) (fun _ => And.intro (fun _ => And.intro rfl (And.intro (fun z => absurd z c2) (fun _ => key))) (fun z => absurd a1' z))))
    · have q1 : I 107 3 = 1 := k1.resolve_left q
      have c2 : ¬ am_up I 20 9 0 20 3 = 0 := fun z => q (k0.symm.trans (by rw [up_ne (by omega)] at z; exact z))
      obtain ⟨hc, wc, tc, hR0, hB0⟩ := k2 q1
      obtain ⟨Nr, eNr⟩ : ∃ Nr, Nr = cpN (I 108) (I 109) 1448 := ⟨_, rfl⟩
      have hNr : ∀ k, k < 1448 → Nr k = I 109 k := fun k hk => by rw [eNr]; unfold cpN; rw [if_pos hk]
      have hR1 : sg_LR kt I T n 53 Nr hc wc tc := LR_N hNr hR0
      have hB1 : sg_LB Nr hc wc := LB_N hNr hR0.1 hR0.2.1 hB0
      have hR : sg_LR kt (am_up I 20 9 0) T n 53 Nr hc wc tc := LR_off (by decide) (by omega) hR1
      have hr : RB Nr hc wc tc := by
        obtain ⟨g0, g1, g2, g3, g4, g5, g6, g7, g8, g9, g10, g11, g12, g13, g14, g15, g16, g17, g18⟩ := hR1
        exact ⟨⟨by omega, g1, g2, g3, g4, g5, fun t ht => Txt_TX (g17 t ht)⟩, hB1.1, hB1.2.1, g0⟩
      obtain ⟨dd, hdd, e2⟩ := in_nI (m := 9999) hB1.2.2.2.2 (by decide)
      obtain ⟨m, hm, rfl⟩ := in_of (x := x) (m := 30) (by decide) (by clear hK hS hR hB1 hr simW hR0 hB0 hR1 hNr k0 k1 k2 e2 eNr; (simp only [Int32.lt_iff_toInt_lt, Int32.le_iff_toInt_le, gt_iff_lt, ge_iff_le, ← Int32.toInt_inj, Int32.reduceToInt, Int32.reduceMul, Int32.reduceAdd, Int32.reduceSub, ne_eq, true_and, and_true, false_and, and_false, not_true_eq_false, not_false_eq_true, true_or, or_true, false_or, or_false] at *; omega)) a1
      obtain ⟨st, hst, emin, ewth⟩ := steps_eq (m := m) (d := Nr 2) hdd (by omega) e2
      obtain ⟨v, hP⟩ := ckX (I 133) c st tc hc Nr
      obtain ⟨hc', wc', tc', hRn, hBn⟩ := hS.2.1
      have fin : ∀ I1 T1, ch (fun r => (37 ≤ r ∧ r < 37 + 16) ∨ PB 37 r) (am_up I 20 9 0) I1 → chT (fun r => r = 41) T T1 → sg_Mid L xs I n s (201, 4, 0, [.ref 107, .int (nI m), .null, .null, .null, .null], []) v kt I1 J T1 n s := fun I1 T1 a b => by
        have a' : ∀ r, ¬ (37 ≤ r ∧ r < 53) → ¬ CT r → I1 r = am_up I 20 9 0 r := fun r h1 h2 => a r (fun z => z.elim (fun y => h1 ⟨y.1, by have := y.2; omega⟩) (fun y => y.elim (fun u => h1 ⟨u.1, by have := u.2; omega⟩) h2))
        have g107 : I1 107 = I 107 := (a' 107 (by omega) (by unfold CT; omega)).trans (up_off (by omega))
        have g108 : I1 108 = I 108 := (a' 108 (by omega) (by unfold CT; omega)).trans (up_off (by omega))
        have g109 : I1 109 = I 109 := (a' 109 (by omega) (by unfold CT; omega)).trans (up_off (by omega))
        have g133 : I1 133 = I 133 := (a' 133 (by omega) (by unfold CT; omega)).trans (up_off (by omega))
        refine ⟨h13, (a' 13 (by omega) (by unfold CT; omega)).trans z13, ?_⟩
        have c1 : ¬ am_up I1 107 37 0 107 3 = 0 := fun z => q (by rw [up_ne (by omega), g107] at z; exact z)
        have vp2 : vp_in 2 1448 := vpl (k := 2) (by decide) (by decide)
        have ec : I1 107 37 = nI c := by rw [g107]; exact w2
        refine am_wq_T (cut := fun z pc => (Nat.beq z 201 && Nat.beq pc 79)) (inl := fun z => !((Nat.beq z 113 || (Nat.beq z 115 || Nat.beq z 114)))) 120 _ _ _ ?_
        refine And.intro rfl (And.intro rfl (m_in_y a0 a1 (And.intro (fun _ => And.intro rfl (And.intro (fun _ => And.intro rfl (And.intro rfl ?_)) (fun z => absurd c1 z))) (fun z => absurd m1z z))))
        refine m_copy108_110 fun I2 d e => And.intro rfl (And.intro rfl (m_copy109_108r ?_))
        have d108 : I2 108 = I 108 := by rw [d 108 (by omega), up_off (by omega)]; exact g108
        have d109 : I2 109 = I 109 := by rw [d 109 (by omega), up_off (by omega)]; exact g109
        have e110 : ∀ k, k < 1448 → I2 110 k = I 108 k := fun k hk => by rw [e k hk, up_off (by omega), g108]
        rw [d108, d109, ← eNr]
        refine And.intro rfl (And.intro ⟨rfl, vp2⟩ ?_)
        show am_T am_C (114, 0, 0, [.int (9999 - am_row I2 108 Nr 108 2), .int 0, .int (nI m)], []) (am_mk kt (am_row I2 108 Nr) J T1 n s) _
        rw [row_eq]
        refine m_withinV ewth ?_
        obtain ⟨I3, e3⟩ : ∃ I3, I3 = am_row I2 108 Nr := ⟨_, rfl⟩
        have r108 : I3 108 = Nr := by rw [e3, row_eq]
        have roff : ∀ r, r ≠ 108 → I3 r = I2 r := fun r hr => by rw [e3, row_off hr]
        rw [← e3]
        have key := m_check_l (kt := kt) (J := J) (T := T1) (n := n) (s := s) (K := sg_End L xs n s v) (x := .int (nI m)) hr hc60 (by omega) (I0 := I3) (W := I 133) (fun i _ => by rw [roff 133 (by omega), d 133 (by omega), up_off (by omega), g133]) hP (fun I4 m4 i4 f h4 hv => m_cke h4 (by omega) hc60 fun I5 g g2 => by
          refine End_of hv (sim_T (T := T) (fun r k hr => by rw [b r hr]) (sim_land (fun r k p p1 p2 => ?_) (fun _ _ => rfl) ?_ simW))
          · have nPD : ¬ PD r := fun z => (PD_ne z).elim p2 (fun z => rv_NR p z)
            have n110 : r ≠ 110 := fun z => rv_NR p (by unfold NR; omega)
            have nNR := rv_NR p
            rw [g r p2, f r nPD, roff r p2, d r n110]
            by_cases e : r = 107
            · subst e
              by_cases e9 : k = 37
              · subst e9; rw [up_eq, up_eq]
              · rw [up_ne (by omega), up_ne (by omega), g107, up_off (by omega)]
            · rw [up_off e, up_off e, a' r (fun z => nNR (by unfold NR; omega)) (fun z => nNR (CT_NR z))]
          · have g9 : ∀ k, k < 1448 → I5 108 k = I 108 k := fun k hk => by
              rw [g2 k hk, f 110 (by unfold PD PF; omega), roff 110 (by omega)]
              exact e110 k hk
            refine ⟨hc', wc', tc', LR_N g9 (LR_cg (fun r k hr => ?_) hRn), LB_N g9 hRn.1 hRn.2.1 hBn⟩
            rw [g r (by omega), f r (by unfold PD PF; omega), roff r (by omega), d r (by omega), up_off (by omega), a' r (by omega) (by unfold CT; omega), up_off (by omega)]) st 0 I3 (by omega) ch_rfl r108 (fun k hk => absurd hk (by omega))
        have key2 : am_T am_C (201, 4, 79, [.ref 107, .int (nI m), .int (I1 107 37), .int (2 * nI st), .int 0, .int 0], []) (am_mk kt I3 J T1 n s) (sg_End L xs n s v) := by
          rw [ec, two_mul]
          exact key
        exact key2
      have hK2 := fun I1 T1 a b => hK _ _ _ _ _ _ _ (fin I1 T1 a b)
      have ed : am_up I 20 9 0 53 10 = Nr 2 := hR.2.2.2.2.2.2.2.2.2.2.2.2.2.1
      refine am_wq_T (cut := fun z pc => (Nat.beq z 101 && Nat.beq pc 67)) (inl := fun z => !(Nat.beq z 14)) 120 _ _ _ ?_
      refine And.intro rfl (And.intro rfl (And.intro (fun z => absurd z a0) (fun _ => And.intro (fun _ => And.intro rfl (And.intro (fun _ => ?_) (fun z => absurd c2 z))) (fun z => absurd a1' z))))
      refine And.intro rfl (And.intro rfl (And.intro rfl (c_become37_53 hR fun I1 T1 a b c1 => ?_)))
      have ed1 : I1 53 10 = Nr 2 := by rw [a 53 (by omega)]; exact ed
      have loop := c_check_l (kt := kt) (J := J) (T := T1) (n := n) (s := s) (K := K) (x := .int (nI m)) (v := v) hr hc60 (by omega : st ≤ 30) (I0 := I1) (W := I 133) (fun i hi => by rw [a 77 (by omega), up_off (by omega)]; exact w3 i hi) hP (fun I2 d => hK2 I2 T1 (ch_tr a d fun r q => q.elim .inl .inr) b) st 0 I1 (by omega) ch_rfl c1 (fun k hk => absurd hk (by omega))
      have loop2 : am_T am_C (101, 5, 67, [.ref 20, .int (nI m), .int (I 20 9), .int (if (9999 : Int32) - I1 53 10 < nI m then 9999 - I1 53 10 else nI m), .int 0, .int 0], []) (am_mk kt I1 J T1 n s) K := by
        rw [ed1, emin, w1]
        exact loop
      exact And.intro rfl (And.intro rfl loop2)
  all_goals
    have hM : sg_Mid L xs I n s (201, 4, 0, [.ref 107, .int x, .null, .null, .null, .null], []) (-1000000001) kt (am_up I 20 9 0) J T n s := by
      refine ⟨h13, z13, ?_⟩
      refine am_wq_T (cut := fun z pc => (Nat.beq z 201 && Nat.beq pc 79)) (inl := fun z => !((Nat.beq z 113 || (Nat.beq z 115 || Nat.beq z 114)))) 120 _ _ _ ?_
      first | exact And.intro rfl (And.intro rfl (m_in_n0 a0 (And.intro (fun z => absurd rfl z) (fun _ => End_of rfl simW)))) | exact And.intro rfl (And.intro rfl (m_in_n1 a0 a1 (And.intro (fun z => absurd rfl z) (fun _ => End_of rfl simW))))
    have key := hK _ _ _ _ _ _ _ hM
    refine am_wq_T (cut := fun z pc => (Nat.beq z 101 && Nat.beq pc 67)) (inl := fun z => !(Nat.beq z 14)) 120 _ _ _ ?_
    first | exact And.intro rfl (And.intro rfl (And.intro (fun _ => key) (fun z => absurd a0 z))) | exact And.intro rfl (And.intro rfl (And.intro (fun z => absurd z a0) (fun _ => And.intro (fun z => absurd z (Int32.not_le.mpr a1)) (fun _ => key))))
end T84b
