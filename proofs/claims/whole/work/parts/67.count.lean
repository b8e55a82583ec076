/-! count, tell, why, trim -/
section T67
variable {kt : Nat → Nat × Nat} {I I' : Nat → Nat → Int32} {J J' : Nat → Nat → Int64} {T T' : Nat → Nat → Nat} {n s : Nat} {L : Nat} {xs : Nat → Int32} {K : Option Value → am_M → Prop} {N N' : Nat → Int32} {hc wc tc h w : Nat}
theorem sim_wait (h : ∀ r k, rv r k → r ≠ 77 → r ≠ 133 → ¬ (r = 20 ∧ k = 9) → ¬ (r = 107 ∧ k = 37) → I' r k = I r k) (hJ : ∀ r, r < 20 → J' r = J r) (hX : sg_Wait I' I') (q : sg_Sim L xs kt I J T n) : sg_Sim L xs kt I' J' T n := by
  have x : ∀ r k, rv r k → (r ≠ 77 ∧ r ≠ 133 ∧ ¬ (r = 20 ∧ k = 9) ∧ ¬ (r = 107 ∧ k = 37)) → I' r k = I r k := fun r k a b => h r k a b.1 b.2.1 b.2.2.1 b.2.2.2
  have y : ∀ r, (∀ k, rv r k) → (∀ k, r ≠ 77 ∧ r ≠ 133 ∧ ¬ (r = 20 ∧ k = 9) ∧ ¬ (r = 107 ∧ k = 37)) → I' r = I r := fun r a b => funext fun k => x r k (a k) (b k)
  obtain ⟨⟨f0, f1, f2, f3, f4, f5, f6⟩, l, ⟨k0, k1, k2⟩, t, sh, sl, w⟩ := q
  refine ⟨⟨f0, f1, f2, f3, ?_, ?_, ?_⟩, ?_, ⟨?_, ?_, ?_⟩, ?_, ?_, ?_, ?_⟩
  · intro r hr
    rw [y r (fun k => by unfold rv; omega) (by omega), hJ r hr]
    exact f4 r hr
  · rw [y 118 (fun k => by unfold rv; omega) (by omega)]; exact f5
  · rw [y 119 (fun k => by unfold rv; omega) (by omega)]; exact f6
  · rw [y 108 (fun k => by unfold rv; omega) (by omega)]
    exact Land_cg (fun r k hr => x r k (by unfold rv; omega) (by omega)) l
  · rw [x 20 3 (by unfold rv; omega) (by omega), x 107 3 (by unfold rv; omega) (by omega)]; exact k0
  · rw [x 107 3 (by unfold rv; omega) (by omega)]; exact k1
  · rw [x 107 3 (by unfold rv; omega) (by omega), y 109 (fun k => by unfold rv; omega) (by omega)]
    intro hk
    exact Land_cg (fun r k hr => x r k (by unfold rv; omega) (by omega)) (k2 hk)
  · exact Tape_cg (x _ _ (by unfold rv; omega) (by omega)) (y _ (fun k => by unfold rv; omega) (by omega)) (x _ _ (by unfold rv; omega) (by omega)) (y _ (fun k => by unfold rv; omega) (by omega)) t
  · intro q hq
    exact Sheet_cg (y _ (fun k => by unfold rv; omega) (by omega)) (y _ (fun k => by unfold rv; omega) (by omega)) (y _ (fun k => by unfold rv; omega) (by omega)) (y _ (fun k => by unfold rv; omega) (by omega)) (y _ (fun k => by unfold rv; omega) (by omega)) (sh q hq)
  · intro q hq
    exact Slot_cg (y _ (fun k => by unfold rv; omega) (by omega)) (y _ (fun k => by unfold rv; omega) (by omega)) (y _ (fun k => by unfold rv; omega) (by omega)) (y _ (fun k => by unfold rv; omega) (by omega)) (y _ (fun k => by unfold rv; omega) (by omega)) (y _ (fun k => by unfold rv; omega) (by omega)) (y _ (fun k => by unfold rv; omega) (by omega)) (y _ (fun k => by unfold rv; omega) (by omega)) (sl q hq)
  · exact hX
theorem sim_tape (h : ∀ r k, rv r k → r ≠ 73 → r ≠ 117 → ¬ (r = 72 ∧ k = 1) → ¬ (r = 107 ∧ k = 11) → I' r k = I r k) (hJ : ∀ r, r < 20 → J' r = J r) (hX : sg_Tape I' I') (q : sg_Sim L xs kt I J T n) : sg_Sim L xs kt I' J' T n := by
  have x : ∀ r k, rv r k → (r ≠ 73 ∧ r ≠ 117 ∧ ¬ (r = 72 ∧ k = 1) ∧ ¬ (r = 107 ∧ k = 11)) → I' r k = I r k := fun r k a b => h r k a b.1 b.2.1 b.2.2.1 b.2.2.2
  have y : ∀ r, (∀ k, rv r k) → (∀ k, r ≠ 73 ∧ r ≠ 117 ∧ ¬ (r = 72 ∧ k = 1) ∧ ¬ (r = 107 ∧ k = 11)) → I' r = I r := fun r a b => funext fun k => x r k (a k) (b k)
  obtain ⟨⟨f0, f1, f2, f3, f4, f5, f6⟩, l, ⟨k0, k1, k2⟩, t, sh, sl, w⟩ := q
  refine ⟨⟨f0, f1, f2, f3, ?_, ?_, ?_⟩, ?_, ⟨?_, ?_, ?_⟩, ?_, ?_, ?_, ?_⟩
  · intro r hr
    rw [y r (fun k => by unfold rv; omega) (by omega), hJ r hr]
    exact f4 r hr
  · rw [y 118 (fun k => by unfold rv; omega) (by omega)]; exact f5
  · rw [y 119 (fun k => by unfold rv; omega) (by omega)]; exact f6
  · rw [y 108 (fun k => by unfold rv; omega) (by omega)]
    exact Land_cg (fun r k hr => x r k (by unfold rv; omega) (by omega)) l
  · rw [x 20 3 (by unfold rv; omega) (by omega), x 107 3 (by unfold rv; omega) (by omega)]; exact k0
  · rw [x 107 3 (by unfold rv; omega) (by omega)]; exact k1
  · rw [x 107 3 (by unfold rv; omega) (by omega), y 109 (fun k => by unfold rv; omega) (by omega)]
    intro hk
    exact Land_cg (fun r k hr => x r k (by unfold rv; omega) (by omega)) (k2 hk)
  · exact hX
  · intro q hq
    exact Sheet_cg (y _ (fun k => by unfold rv; omega) (by omega)) (y _ (fun k => by unfold rv; omega) (by omega)) (y _ (fun k => by unfold rv; omega) (by omega)) (y _ (fun k => by unfold rv; omega) (by omega)) (y _ (fun k => by unfold rv; omega) (by omega)) (sh q hq)
  · intro q hq
    exact Slot_cg (y _ (fun k => by unfold rv; omega) (by omega)) (y _ (fun k => by unfold rv; omega) (by omega)) (y _ (fun k => by unfold rv; omega) (by omega)) (y _ (fun k => by unfold rv; omega) (by omega)) (y _ (fun k => by unfold rv; omega) (by omega)) (y _ (fun k => by unfold rv; omega) (by omega)) (y _ (fun k => by unfold rv; omega) (by omega)) (y _ (fun k => by unfold rv; omega) (by omega)) (sl q hq)
  · exact Wait_cg (x _ _ (by unfold rv; omega) (by omega)) (y _ (fun k => by unfold rv; omega) (by omega)) (x _ _ (by unfold rv; omega) (by omega)) (y _ (fun k => by unfold rv; omega) (by omega)) w
theorem L_count (x : Int32) : sg_Call (104, 1, 0, [.ref 20, .int x], []) (204, 2, 0, [.ref 107, .int x], []) := by
  intro L xs kt I J T n s K hS hK
  have h13 := hS.1.2.2.2.1
  obtain ⟨hc, wc, tc, hR, hB⟩ := hS.2.1
  have hr := RB_of hR hB
  obtain ⟨g0, g1, g2, g3, g4, g5, g6, g7, g8, g9, g10, g11, g12, g13, g14, g15, g16, g17, g18⟩ := id hR
  obtain ⟨cw, hcw, w1, w2, -⟩ := hS.2.2.2.2.2.2
  obtain ⟨ct, hct, t1, t2, -⟩ := hS.2.2.2.1
  by_cases c0 : x = 0
  · subst c0
    have hM : sg_Mid L xs I n s (204, 2, 0, [.ref 107, .int 0], []) (I 21 1) kt I J T n s := by
      refine ⟨h13, rfl, ?_⟩
      refine am_wq_T (cut := fun _ _ => false) (inl := fun _ => true) 120 _ _ _ ?_
      exact And.intro (fun _ => And.intro rfl (And.intro ⟨rfl, vp1448 (k := 1) (by decide)⟩ (End_of (g3.trans g6.symm) hS))) (fun q => absurd rfl q)
    refine am_wq_T (cut := fun _ _ => false) (inl := fun _ => true) 120 _ _ _ ?_
    exact And.intro (fun _ => And.intro rfl (And.intro rfl (hK _ _ _ _ _ _ _ hM))) (fun q => absurd rfl q)
  by_cases c1 : x = 1
  · subst c1
    have hM : sg_Mid L xs I n s (204, 2, 0, [.ref 107, .int 1], []) (nI (cz (I 108) hc)) kt I J T n s := by
      refine ⟨h13, rfl, ?_⟩
      refine am_wq_T (cut := fun _ _ => false) (inl := fun z => !(Nat.beq z 155)) 120 _ _ _ ?_
      exact And.intro (fun q => absurd q (by decide)) (fun _ => And.intro (fun _ => And.intro rfl (m_filledV (N := I 108) rfl hr.1 rfl (End_of rfl hS))) (fun q => absurd rfl q))
    refine am_wq_T (cut := fun _ _ => false) (inl := fun z => !(Nat.beq z 26)) 120 _ _ _ ?_
    exact And.intro (fun q => absurd q (by decide)) (fun _ => And.intro (fun _ => And.intro rfl (And.intro rfl (c_filled21 hR (hK _ _ _ _ _ _ _ hM)))) (fun q => absurd rfl q))
  by_cases c2 : x = 2
  · subst c2
    have hM : sg_Mid L xs I n s (204, 2, 0, [.ref 107, .int 2], []) (I 21 4) kt I J T n s := by
      refine ⟨h13, rfl, ?_⟩
      refine am_wq_T (cut := fun _ _ => false) (inl := fun _ => true) 120 _ _ _ ?_
      exact And.intro (fun q => absurd q (by decide)) (fun _ => And.intro (fun q => absurd q (by decide)) (fun _ => And.intro (fun _ => And.intro rfl (And.intro ⟨rfl, vp1448 (k := 7) (by decide)⟩ (End_of (g4.trans g7.symm) hS))) (fun q => absurd rfl q)))
    refine am_wq_T (cut := fun _ _ => false) (inl := fun _ => true) 120 _ _ _ ?_
    exact And.intro (fun q => absurd q (by decide)) (fun _ => And.intro (fun q => absurd q (by decide)) (fun _ => And.intro (fun _ => And.intro rfl (And.intro rfl (hK _ _ _ _ _ _ _ hM))) (fun q => absurd rfl q)))
  by_cases c3 : x = 3
  · subst c3
    have hM : sg_Mid L xs I n s (204, 2, 0, [.ref 107, .int 3], []) (I 21 10) kt I J T n s := by
      refine ⟨h13, rfl, ?_⟩
      refine am_wq_T (cut := fun _ _ => false) (inl := fun _ => true) 120 _ _ _ ?_
      exact And.intro (fun q => absurd q (by decide)) (fun _ => And.intro (fun q => absurd q (by decide)) (fun _ => And.intro (fun q => absurd q (by decide)) (fun _ => And.intro (fun _ => And.intro rfl (And.intro ⟨rfl, vp1448 (k := 2) (by decide)⟩ (End_of (g13.symm) hS))) (fun q => absurd rfl q))))
    refine am_wq_T (cut := fun _ _ => false) (inl := fun _ => true) 120 _ _ _ ?_
    exact And.intro (fun q => absurd q (by decide)) (fun _ => And.intro (fun q => absurd q (by decide)) (fun _ => And.intro (fun q => absurd q (by decide)) (fun _ => And.intro (fun _ => And.intro rfl (And.intro rfl (hK _ _ _ _ _ _ _ hM))) (fun q => absurd rfl q))))
  by_cases c4 : x = 4
  · subst c4
    have hM : sg_Mid L xs I n s (204, 2, 0, [.ref 107, .int 4], []) (dz (I 108) hc) kt I J T n s := by
      refine ⟨h13, rfl, ?_⟩
      refine am_wq_T (cut := fun _ _ => false) (inl := fun z => !(Nat.beq z 156)) 120 _ _ _ ?_
      exact And.intro (fun q => absurd q (by decide)) (fun _ => And.intro (fun q => absurd q (by decide)) (fun _ => And.intro (fun q => absurd q (by decide)) (fun _ => And.intro (fun q => absurd q (by decide)) (fun _ => And.intro (fun _ => And.intro rfl (m_depthV (N := I 108) rfl hr.1 rfl (End_of rfl hS))) (fun q => absurd rfl q)))))
    refine am_wq_T (cut := fun _ _ => false) (inl := fun z => !(Nat.beq z 27)) 120 _ _ _ ?_
    exact And.intro (fun q => absurd q (by decide)) (fun _ => And.intro (fun q => absurd q (by decide)) (fun _ => And.intro (fun q => absurd q (by decide)) (fun _ => And.intro (fun q => absurd q (by decide)) (fun _ => And.intro (fun _ => And.intro rfl (And.intro rfl (c_depth21 hR (hK _ _ _ _ _ _ _ hM)))) (fun q => absurd rfl q)))))
  by_cases c5 : x = 5
  · subst c5
    have hM : sg_Mid L xs I n s (204, 2, 0, [.ref 107, .int 5], []) (I 21 11) kt I J T n s := by
      refine ⟨h13, rfl, ?_⟩
      refine am_wq_T (cut := fun _ _ => false) (inl := fun _ => true) 120 _ _ _ ?_
      exact And.intro (fun q => absurd q (by decide)) (fun _ => And.intro (fun q => absurd q (by decide)) (fun _ => And.intro (fun q => absurd q (by decide)) (fun _ => And.intro (fun q => absurd q (by decide)) (fun _ => And.intro (fun q => absurd q (by decide)) (fun _ => And.intro (fun _ => And.intro rfl (And.intro ⟨rfl, vp1448 (k := 5) (by decide)⟩ (End_of (g14.symm) hS))) (fun q => absurd rfl q))))))
    refine am_wq_T (cut := fun _ _ => false) (inl := fun _ => true) 120 _ _ _ ?_
    exact And.intro (fun q => absurd q (by decide)) (fun _ => And.intro (fun q => absurd q (by decide)) (fun _ => And.intro (fun q => absurd q (by decide)) (fun _ => And.intro (fun q => absurd q (by decide)) (fun _ => And.intro (fun q => absurd q (by decide)) (fun _ => And.intro (fun _ => And.intro rfl (And.intro rfl (hK _ _ _ _ _ _ _ hM))) (fun q => absurd rfl q))))))
  by_cases c6 : x = 6
  · subst c6
    have hM : sg_Mid L xs I n s (204, 2, 0, [.ref 107, .int 6], []) (I 21 12) kt I J T n s := by
      refine ⟨h13, rfl, ?_⟩
      refine am_wq_T (cut := fun _ _ => false) (inl := fun _ => true) 120 _ _ _ ?_
      exact And.intro (fun q => absurd q (by decide)) (fun _ => And.intro (fun q => absurd q (by decide)) (fun _ => And.intro (fun q => absurd q (by decide)) (fun _ => And.intro (fun q => absurd q (by decide)) (fun _ => And.intro (fun q => absurd q (by decide)) (fun _ => And.intro (fun q => absurd q (by decide)) (fun _ => And.intro (fun _ => And.intro rfl (And.intro ⟨rfl, vp1448 (k := 6) (by decide)⟩ (End_of (g15.symm) hS))) (fun q => absurd rfl q)))))))
    refine am_wq_T (cut := fun _ _ => false) (inl := fun _ => true) 120 _ _ _ ?_
    exact And.intro (fun q => absurd q (by decide)) (fun _ => And.intro (fun q => absurd q (by decide)) (fun _ => And.intro (fun q => absurd q (by decide)) (fun _ => And.intro (fun q => absurd q (by decide)) (fun _ => And.intro (fun q => absurd q (by decide)) (fun _ => And.intro (fun q => absurd q (by decide)) (fun _ => And.intro (fun _ => And.intro rfl (And.intro rfl (hK _ _ _ _ _ _ _ hM))) (fun q => absurd rfl q)))))))
  by_cases c7 : x = 7
  · subst c7
    have hM : sg_Mid L xs I n s (204, 2, 0, [.ref 107, .int 7], []) (I 21 8) kt I J T n s := by
      refine ⟨h13, rfl, ?_⟩
      refine am_wq_T (cut := fun _ _ => false) (inl := fun _ => true) 120 _ _ _ ?_
      exact And.intro (fun q => absurd q (by decide)) (fun _ => And.intro (fun q => absurd q (by decide)) (fun _ => And.intro (fun q => absurd q (by decide)) (fun _ => And.intro (fun q => absurd q (by decide)) (fun _ => And.intro (fun q => absurd q (by decide)) (fun _ => And.intro (fun q => absurd q (by decide)) (fun _ => And.intro (fun q => absurd q (by decide)) (fun _ => And.intro (fun _ => And.intro rfl (And.intro ⟨rfl, vp1448 (k := 3) (by decide)⟩ (End_of (g11.symm) hS))) (fun q => absurd rfl q))))))))
    refine am_wq_T (cut := fun _ _ => false) (inl := fun _ => true) 120 _ _ _ ?_
    exact And.intro (fun q => absurd q (by decide)) (fun _ => And.intro (fun q => absurd q (by decide)) (fun _ => And.intro (fun q => absurd q (by decide)) (fun _ => And.intro (fun q => absurd q (by decide)) (fun _ => And.intro (fun q => absurd q (by decide)) (fun _ => And.intro (fun q => absurd q (by decide)) (fun _ => And.intro (fun q => absurd q (by decide)) (fun _ => And.intro (fun _ => And.intro rfl (And.intro rfl (hK _ _ _ _ _ _ _ hM))) (fun q => absurd rfl q))))))))
  by_cases c8 : x = 8
  · subst c8
    have hM : sg_Mid L xs I n s (204, 2, 0, [.ref 107, .int 8], []) (I 21 9) kt I J T n s := by
      refine ⟨h13, rfl, ?_⟩
      refine am_wq_T (cut := fun _ _ => false) (inl := fun _ => true) 120 _ _ _ ?_
      exact And.intro (fun q => absurd q (by decide)) (fun _ => And.intro (fun q => absurd q (by decide)) (fun _ => And.intro (fun q => absurd q (by decide)) (fun _ => And.intro (fun q => absurd q (by decide)) (fun _ => And.intro (fun q => absurd q (by decide)) (fun _ => And.intro (fun q => absurd q (by decide)) (fun _ => And.intro (fun q => absurd q (by decide)) (fun _ => And.intro (fun q => absurd q (by decide)) (fun _ => And.intro (fun _ => And.intro rfl (And.intro ⟨rfl, vp1448 (k := 4) (by decide)⟩ (End_of (g12.symm) hS))) (fun q => absurd rfl q)))))))))
    refine am_wq_T (cut := fun _ _ => false) (inl := fun _ => true) 120 _ _ _ ?_
    exact And.intro (fun q => absurd q (by decide)) (fun _ => And.intro (fun q => absurd q (by decide)) (fun _ => And.intro (fun q => absurd q (by decide)) (fun _ => And.intro (fun q => absurd q (by decide)) (fun _ => And.intro (fun q => absurd q (by decide)) (fun _ => And.intro (fun q => absurd q (by decide)) (fun _ => And.intro (fun q => absurd q (by decide)) (fun _ => And.intro (fun q => absurd q (by decide)) (fun _ => And.intro (fun _ => And.intro rfl (And.intro rfl (hK _ _ _ _ _ _ _ hM))) (fun q => absurd rfl q)))))))))
  by_cases c9 : x = 9
  · subst c9
    have hM : sg_Mid L xs I n s (204, 2, 0, [.ref 107, .int 9], []) (I 21 6) kt I J T n s := by
      refine ⟨h13, rfl, ?_⟩
      refine am_wq_T (cut := fun _ _ => false) (inl := fun _ => true) 120 _ _ _ ?_
      exact And.intro (fun q => absurd q (by decide)) (fun _ => And.intro (fun q => absurd q (by decide)) (fun _ => And.intro (fun q => absurd q (by decide)) (fun _ => And.intro (fun q => absurd q (by decide)) (fun _ => And.intro (fun q => absurd q (by decide)) (fun _ => And.intro (fun q => absurd q (by decide)) (fun _ => And.intro (fun q => absurd q (by decide)) (fun _ => And.intro (fun q => absurd q (by decide)) (fun _ => And.intro (fun q => absurd q (by decide)) (fun _ => And.intro (fun _ => And.intro rfl (And.intro ⟨rfl, vp1448 (k := 8) (by decide)⟩ (End_of (g5.trans g8.symm) hS))) (fun q => absurd rfl q))))))))))
    refine am_wq_T (cut := fun _ _ => false) (inl := fun _ => true) 120 _ _ _ ?_
    exact And.intro (fun q => absurd q (by decide)) (fun _ => And.intro (fun q => absurd q (by decide)) (fun _ => And.intro (fun q => absurd q (by decide)) (fun _ => And.intro (fun q => absurd q (by decide)) (fun _ => And.intro (fun q => absurd q (by decide)) (fun _ => And.intro (fun q => absurd q (by decide)) (fun _ => And.intro (fun q => absurd q (by decide)) (fun _ => And.intro (fun q => absurd q (by decide)) (fun _ => And.intro (fun q => absurd q (by decide)) (fun _ => And.intro (fun _ => And.intro rfl (And.intro rfl (hK _ _ _ _ _ _ _ hM))) (fun q => absurd rfl q))))))))))
  by_cases c10 : x = 10
  · subst c10
    have hM : sg_Mid L xs I n s (204, 2, 0, [.ref 107, .int 10], []) (I 20 9) kt I J T n s := by
      refine ⟨h13, rfl, ?_⟩
      refine am_wq_T (cut := fun _ _ => false) (inl := fun _ => true) 120 _ _ _ ?_
      exact And.intro (fun q => absurd q (by decide)) (fun _ => And.intro (fun q => absurd q (by decide)) (fun _ => And.intro (fun q => absurd q (by decide)) (fun _ => And.intro (fun q => absurd q (by decide)) (fun _ => And.intro (fun q => absurd q (by decide)) (fun _ => And.intro (fun q => absurd q (by decide)) (fun _ => And.intro (fun q => absurd q (by decide)) (fun _ => And.intro (fun q => absurd q (by decide)) (fun _ => And.intro (fun q => absurd q (by decide)) (fun _ => And.intro (fun q => absurd q (by decide)) (fun _ => And.intro (fun _ => And.intro rfl (End_of (w2.trans w1.symm) hS)) (fun q => absurd rfl q)))))))))))
    refine am_wq_T (cut := fun _ _ => false) (inl := fun _ => true) 120 _ _ _ ?_
    exact And.intro (fun q => absurd q (by decide)) (fun _ => And.intro (fun q => absurd q (by decide)) (fun _ => And.intro (fun q => absurd q (by decide)) (fun _ => And.intro (fun q => absurd q (by decide)) (fun _ => And.intro (fun q => absurd q (by decide)) (fun _ => And.intro (fun q => absurd q (by decide)) (fun _ => And.intro (fun q => absurd q (by decide)) (fun _ => And.intro (fun q => absurd q (by decide)) (fun _ => And.intro (fun q => absurd q (by decide)) (fun _ => And.intro (fun q => absurd q (by decide)) (fun _ => And.intro (fun _ => And.intro rfl (hK _ _ _ _ _ _ _ hM)) (fun q => absurd rfl q)))))))))))
  by_cases c11 : x = 11
  · subst c11
    have hM : sg_Mid L xs I n s (204, 2, 0, [.ref 107, .int 11], []) (I 72 1) kt I J T n s := by
      refine ⟨h13, rfl, ?_⟩
      refine am_wq_T (cut := fun _ _ => false) (inl := fun _ => true) 120 _ _ _ ?_
      exact And.intro (fun q => absurd q (by decide)) (fun _ => And.intro (fun q => absurd q (by decide)) (fun _ => And.intro (fun q => absurd q (by decide)) (fun _ => And.intro (fun q => absurd q (by decide)) (fun _ => And.intro (fun q => absurd q (by decide)) (fun _ => And.intro (fun q => absurd q (by decide)) (fun _ => And.intro (fun q => absurd q (by decide)) (fun _ => And.intro (fun q => absurd q (by decide)) (fun _ => And.intro (fun q => absurd q (by decide)) (fun _ => And.intro (fun q => absurd q (by decide)) (fun _ => And.intro (fun q => absurd q (by decide)) (fun _ => And.intro (fun _ => And.intro rfl (End_of (t2.trans t1.symm) hS)) (fun q => absurd rfl q))))))))))))
    refine am_wq_T (cut := fun _ _ => false) (inl := fun _ => true) 120 _ _ _ ?_
    exact And.intro (fun q => absurd q (by decide)) (fun _ => And.intro (fun q => absurd q (by decide)) (fun _ => And.intro (fun q => absurd q (by decide)) (fun _ => And.intro (fun q => absurd q (by decide)) (fun _ => And.intro (fun q => absurd q (by decide)) (fun _ => And.intro (fun q => absurd q (by decide)) (fun _ => And.intro (fun q => absurd q (by decide)) (fun _ => And.intro (fun q => absurd q (by decide)) (fun _ => And.intro (fun q => absurd q (by decide)) (fun _ => And.intro (fun q => absurd q (by decide)) (fun _ => And.intro (fun q => absurd q (by decide)) (fun _ => And.intro (fun _ => And.intro rfl (And.intro rfl (hK _ _ _ _ _ _ _ hM))) (fun q => absurd rfl q))))))))))))
  by_cases c12 : x = 12
  · subst c12
    have hM : sg_Mid L xs I n s (204, 2, 0, [.ref 107, .int 12], []) (I 21 13) kt I J T n s := by
      refine ⟨h13, rfl, ?_⟩
      refine am_wq_T (cut := fun _ _ => false) (inl := fun _ => true) 120 _ _ _ ?_
      exact And.intro (fun q => absurd q (by decide)) (fun _ => And.intro (fun q => absurd q (by decide)) (fun _ => And.intro (fun q => absurd q (by decide)) (fun _ => And.intro (fun q => absurd q (by decide)) (fun _ => And.intro (fun q => absurd q (by decide)) (fun _ => And.intro (fun q => absurd q (by decide)) (fun _ => And.intro (fun q => absurd q (by decide)) (fun _ => And.intro (fun q => absurd q (by decide)) (fun _ => And.intro (fun q => absurd q (by decide)) (fun _ => And.intro (fun q => absurd q (by decide)) (fun _ => And.intro (fun q => absurd q (by decide)) (fun _ => And.intro (fun q => absurd q (by decide)) (fun _ => And.intro (fun _ => And.intro rfl (And.intro ⟨rfl, vp1448 (k := 0) (by decide)⟩ (End_of (g16.symm) hS))) (fun q => absurd rfl q)))))))))))))
    refine am_wq_T (cut := fun _ _ => false) (inl := fun _ => true) 120 _ _ _ ?_
    exact And.intro (fun q => absurd q (by decide)) (fun _ => And.intro (fun q => absurd q (by decide)) (fun _ => And.intro (fun q => absurd q (by decide)) (fun _ => And.intro (fun q => absurd q (by decide)) (fun _ => And.intro (fun q => absurd q (by decide)) (fun _ => And.intro (fun q => absurd q (by decide)) (fun _ => And.intro (fun q => absurd q (by decide)) (fun _ => And.intro (fun q => absurd q (by decide)) (fun _ => And.intro (fun q => absurd q (by decide)) (fun _ => And.intro (fun q => absurd q (by decide)) (fun _ => And.intro (fun q => absurd q (by decide)) (fun _ => And.intro (fun q => absurd q (by decide)) (fun _ => And.intro (fun _ => And.intro rfl (And.intro rfl (hK _ _ _ _ _ _ _ hM))) (fun q => absurd rfl q)))))))))))))
  have hM : sg_Mid L xs I n s (204, 2, 0, [.ref 107, .int x], []) (-1000000001) kt I J T n s := by
    refine ⟨h13, rfl, ?_⟩
    refine am_wq_T (cut := fun _ _ => false) (inl := fun _ => true) 120 _ _ _ ?_
    exact And.intro (fun q => absurd q c0) (fun _ => And.intro (fun q => absurd q c1) (fun _ => And.intro (fun q => absurd q c2) (fun _ => And.intro (fun q => absurd q c3) (fun _ => And.intro (fun q => absurd q c4) (fun _ => And.intro (fun q => absurd q c5) (fun _ => And.intro (fun q => absurd q c6) (fun _ => And.intro (fun q => absurd q c7) (fun _ => And.intro (fun q => absurd q c8) (fun _ => And.intro (fun q => absurd q c9) (fun _ => And.intro (fun q => absurd q c10) (fun _ => And.intro (fun q => absurd q c11) (fun _ => And.intro (fun q => absurd q c12) (fun _ => End_of rfl hS)))))))))))))
  refine am_wq_T (cut := fun _ _ => false) (inl := fun _ => true) 120 _ _ _ ?_
  exact And.intro (fun q => absurd q c0) (fun _ => And.intro (fun q => absurd q c1) (fun _ => And.intro (fun q => absurd q c2) (fun _ => And.intro (fun q => absurd q c3) (fun _ => And.intro (fun q => absurd q c4) (fun _ => And.intro (fun q => absurd q c5) (fun _ => And.intro (fun q => absurd q c6) (fun _ => And.intro (fun q => absurd q c7) (fun _ => And.intro (fun q => absurd q c8) (fun _ => And.intro (fun q => absurd q c9) (fun _ => And.intro (fun q => absurd q c10) (fun _ => And.intro (fun q => absurd q c11) (fun _ => And.intro (fun q => absurd q c12) (fun _ => hK _ _ _ _ _ _ _ hM)))))))))))))
theorem L_tell (x : Int32) : sg_Call (100, 0, 0, [.ref 20, .int x], []) (200, 0, 0, [.ref 107, .int x], []) := by
  intro L xs kt I J T n s K hS hK
  have h13 := hS.1.2.2.2.1
  obtain ⟨c, hc, w1, w2, w3⟩ := hS.2.2.2.2.2.2
  by_cases q : c < 60
  · have c1 : I 20 9 < 60 := by rw [w1]; exact nI_lt (b := 60) q (by decide)
    have v1 : vp_in (I 20 9) 60 := by rw [w1]; exact vpl q (by decide)
    have ec : (I 20 9).toNatClampNeg = c := by rw [w1, nI_clamp (by omega)]
    have hM : sg_Mid L xs I n s (200, 0, 0, [.ref 107, .int x], []) (I 20 9 + 1) kt (am_up (am_up I 77 (I 20 9).toNatClampNeg x) 20 9 (I 20 9 + 1)) J T n s := by
      refine ⟨h13, by rw [up_off (by omega), up_off (by omega)], ?_⟩
      have c2 : ¬ I 107 37 = 60 := by rw [w2]; intro z; have := (nI_eq (b := 60) (by omega) (by decide)).mp z; omega
      have v2 : vp_in (I 107 37) 60 := by rw [w2]; exact vpl q (by decide)
      have ec2 : (I 107 37).toNatClampNeg = c := by rw [w2, nI_clamp (by omega)]
      have fin : sg_End L xs n s (I 20 9 + 1) (some (.int (I 107 37 + 1))) (am_mk kt (am_up (am_up (am_up (am_up I 77 (I 20 9).toNatClampNeg x) 20 9 (I 20 9 + 1)) 133 (I 107 37).toNatClampNeg x) 107 37 (I 107 37 + 1)) J T n s) := by
        refine End_of (by rw [w1, w2]) (sim_wait (fun r k _ p1 p2 p3 p4 => ?_) (fun _ _ => rfl) ?_ hS)
        · rw [up_ne (by omega), up_ne (by omega), up_ne (by omega), up_ne (by omega)]
        · refine ⟨c + 1, by omega, ?_, ?_, fun i hi => ?_⟩
          · rw [up_ne (by omega), up_ne (by omega), up_eq, w1, nI_1]
          · rw [up_eq, w2, nI_1]
          · rw [ec, ec2]
            by_cases e : i = c
            · subst e
              rw [up_ne (by omega), up_ne (by omega), up_ne (by omega), up_eq, up_ne (by omega), up_eq]
            · rw [up_ne (by omega), up_ne (by omega), up_ne (by omega), up_ne (by omega), up_ne (by omega), up_ne (by omega), up_ne (by omega), up_ne (by omega)]
              exact w3 i (by omega)
      refine am_wq_T (cut := fun _ _ => false) (inl := fun _ => true) 120 _ _ _ ?_
      exact And.intro rfl (And.intro (fun _ => And.intro rfl (And.intro rfl (And.intro ⟨rfl, v2⟩ (And.intro rfl (And.intro rfl (And.intro rfl fin)))))) (fun z => absurd c2 z))
    have key := hK _ _ _ _ _ _ _ hM
    refine am_wq_T (cut := fun _ _ => false) (inl := fun _ => true) 120 _ _ _ ?_
    exact And.intro rfl (And.intro (fun _ => And.intro rfl (And.intro rfl (And.intro ⟨rfl, v1⟩ (And.intro rfl (And.intro rfl (And.intro rfl key)))))) (fun z => absurd c1 z))
  · have e60 : c = 60 := by omega
    subst e60
    have c1 : ¬ I 20 9 < 60 := by rw [w1]; decide
    have c2 : ¬ ¬ I 107 37 = 60 := fun z => z w2
    have hM : sg_Mid L xs I n s (200, 0, 0, [.ref 107, .int x], []) (-1000000003) kt I J T n s := by
      refine ⟨h13, rfl, ?_⟩
      refine am_wq_T (cut := fun _ _ => false) (inl := fun _ => true) 120 _ _ _ ?_
      exact And.intro rfl (And.intro (fun z => absurd z c2) (fun _ => End_of rfl hS))
    refine am_wq_T (cut := fun _ _ => false) (inl := fun _ => true) 120 _ _ _ ?_
    exact And.intro rfl (And.intro (fun z => absurd z c1) (fun _ => hK _ _ _ _ _ _ _ hM))
theorem L_trim (x : Int32) : sg_Call (87, 1, 0, [.ref 20, .int x], []) (171, 1, 0, [.ref 107, .int x], []) := by
  intro L xs kt I J T n s K hS hK
  have h13 := hS.1.2.2.2.1
  obtain ⟨c, hc, w1, w2, w3⟩ := hS.2.2.2.1
  rcases rng x 0 (nI c) with ⟨a0, a1⟩ | a0 | ⟨a0, a1⟩
  · obtain ⟨k, hk, rfl⟩ := in_of (m := c) (by omega) a0 a1
    have hM : sg_Mid L xs I n s (171, 1, 0, [.ref 107, .int (nI k)], []) (nI k) kt (am_up I 72 1 (nI k)) J T n s := by
      refine ⟨h13, up_off (by omega), ?_⟩
      have e11 : am_up I 72 1 (nI k) 107 11 = nI c := by rw [up_off (by omega)]; exact w2
      refine am_wq_T (cut := fun _ _ => false) (inl := fun z => !(Nat.beq z 113)) 120 _ _ _ ?_
      refine And.intro rfl (m_in_y a0 (by show ¬ am_up I 72 1 (nI k) 107 11 < nI k; rw [e11]; exact a1) (And.intro (fun _ => And.intro rfl ?_) (fun q => absurd m1z q)))
      refine End_of (I := am_up (am_up I 72 1 (nI k)) 107 11 (nI k)) rfl (sim_tape (fun r k _ p1 p2 p3 p4 => ?_) (fun _ _ => rfl) ?_ hS)
      · rw [up_ne (by omega), up_ne (by omega)]
      · refine ⟨k, by omega, by rw [up_ne (by omega), up_eq], up_eq _ _ _ _, fun i hi => ?_⟩
        rw [up_ne (by omega), up_ne (by omega), up_ne (by omega), up_ne (by omega)]
        exact w3 i (by omega)
    have key := hK _ _ _ _ _ _ _ hM
    refine am_wq_T (cut := fun _ _ => false) (inl := fun z => !(Nat.beq z 105)) 120 _ _ _ ?_
    exact And.intro rfl (And.intro rfl (c_within_y a0 (by show ¬ I 72 1 < nI k; rw [w1]; exact a1) (And.intro (fun _ => And.intro rfl (And.intro rfl key)) (fun q => absurd m1z q))))
  all_goals
    have hM : sg_Mid L xs I n s (171, 1, 0, [.ref 107, .int x], []) (-1000000001) kt I J T n s := by
      refine ⟨h13, rfl, ?_⟩
      refine am_wq_T (cut := fun _ _ => false) (inl := fun z => !(Nat.beq z 113)) 120 _ _ _ ?_
      first | exact And.intro rfl (m_in_n0 a0 (And.intro (fun q => absurd rfl q) (fun _ => End_of rfl hS))) | exact And.intro rfl (m_in_n1 a0 (by show I 107 11 < x; rw [w2]; exact a1) (And.intro (fun q => absurd rfl q) (fun _ => End_of rfl hS)))
    refine am_wq_T (cut := fun _ _ => false) (inl := fun z => !(Nat.beq z 105)) 120 _ _ _ ?_
    first | exact And.intro rfl (And.intro rfl (c_within_n0 a0 (And.intro (fun q => absurd rfl q) (fun _ => hK _ _ _ _ _ _ _ hM)))) | exact And.intro rfl (And.intro rfl (c_within_n1 a0 (by show I 72 1 < x; rw [w1]; exact a1) (And.intro (fun q => absurd rfl q) (fun _ => hK _ _ _ _ _ _ _ hM))))
theorem L_why (x : Int32) : sg_Call (90, 1, 0, [.ref 20, .int x, .null], []) (186, 1, 0, [.ref 107, .int x, .null], []) := by
  intro L xs kt I J T n s K hS hK
  have h13 := hS.1.2.2.2.1
  obtain ⟨hc, wc, tc, hR, hB⟩ := hS.2.1
  have hr := RB_of hR hB
  rcases rng x 0 2 with ⟨a0, a1⟩ | a0 | ⟨a0, a1⟩
  · obtain ⟨k, hk, rfl⟩ := in_of (m := 2) (by decide) a0 a1
    have e26 : I 26 (nI k).toNatClampNeg = sg_cnt (I 108) k tc := by rw [nI_clamp (by omega)]; exact hR.2.2.2.2.2.2.2.2.2.2.2.2.2.2.2.2.2.2 k (by omega)
    have vk : vp_in (nI k) 3 := vpl (by omega) (by decide)
    by_cases c : 0 ≤ sg_cnt (I 108) k tc
    · have c' : 0 ≤ I 26 (nI k).toNatClampNeg := by rw [e26]; exact c
      have hM : sg_Mid L xs I n s (186, 1, 0, [.ref 107, .int (nI k), .null], []) (I 26 (nI k).toNatClampNeg) kt I J T n s := by
        refine ⟨h13, rfl, ?_⟩
        refine am_wq_T (cut := fun _ _ => false) (inl := fun z => !((Nat.beq z 113 || Nat.beq z 185))) 120 _ _ _ ?_
        exact m_in_y a0 a1 (And.intro (fun _ => And.intro rfl (m_countsV (N := I 108) rfl (key := k) rfl hr.1 rfl (And.intro (fun _ => End_of e26.symm hS) (fun q => absurd c q)))) (fun q => absurd m1z q))
      have key := hK _ _ _ _ _ _ _ hM
      refine am_wq_T (cut := fun _ _ => false) (inl := fun z => !(Nat.beq z 105)) 120 _ _ _ ?_
      exact c_within_y a0 a1 (And.intro (fun _ => And.intro rfl (And.intro rfl (And.intro ⟨rfl, vk⟩ (And.intro (fun _ => key) (fun q => absurd c' q))))) (fun q => absurd m1z q))
    · have c' : ¬ 0 ≤ I 26 (nI k).toNatClampNeg := by rw [e26]; exact c
      have hM : sg_Mid L xs I n s (186, 1, 0, [.ref 107, .int (nI k), .null], []) (-1000000005) kt I J T n s := by
        refine ⟨h13, rfl, ?_⟩
        refine am_wq_T (cut := fun _ _ => false) (inl := fun z => !((Nat.beq z 113 || Nat.beq z 185))) 120 _ _ _ ?_
        exact m_in_y a0 a1 (And.intro (fun _ => And.intro rfl (m_countsV (N := I 108) rfl (key := k) rfl hr.1 rfl (And.intro (fun q => absurd q c) (fun _ => End_of rfl hS)))) (fun q => absurd m1z q))
      have key := hK _ _ _ _ _ _ _ hM
      refine am_wq_T (cut := fun _ _ => false) (inl := fun z => !(Nat.beq z 105)) 120 _ _ _ ?_
      exact c_within_y a0 a1 (And.intro (fun _ => And.intro rfl (And.intro rfl (And.intro ⟨rfl, vk⟩ (And.intro (fun q => absurd q c') (fun _ => key))))) (fun q => absurd m1z q))
  all_goals
    have hM : sg_Mid L xs I n s (186, 1, 0, [.ref 107, .int x, .null], []) (-1000000001) kt I J T n s := by
      refine ⟨h13, rfl, ?_⟩
      refine am_wq_T (cut := fun _ _ => false) (inl := fun z => !((Nat.beq z 113 || Nat.beq z 185))) 120 _ _ _ ?_
      first | exact m_in_n0 a0 (And.intro (fun q => absurd rfl q) (fun _ => End_of rfl hS)) | exact m_in_n1 a0 a1 (And.intro (fun q => absurd rfl q) (fun _ => End_of rfl hS))
    refine am_wq_T (cut := fun _ _ => false) (inl := fun z => !(Nat.beq z 105)) 120 _ _ _ ?_
    first | exact c_within_n0 a0 (And.intro (fun q => absurd rfl q) (fun _ => hK _ _ _ _ _ _ _ hM)) | exact c_within_n1 a0 a1 (And.intro (fun q => absurd rfl q) (fun _ => hK _ _ _ _ _ _ _ hM))
end T67
