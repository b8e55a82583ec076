/-! feed -/
section T77
variable {kt : Nat → Nat × Nat} {I I' : Nat → Nat → Int32} {J J' : Nat → Nat → Int64} {T T' : Nat → Nat → Nat} {n s : Nat} {L : Nat} {xs : Nat → Int32} {K : Option Value → am_M → Prop} {N N' : Nat → Int32} {hc wc tc h w : Nat}
theorem bv_shr (x : BitVec 32) (k : Nat) (hk : k ≤ 24) : (x >>> k) &&& 255#32 = (x.sshiftRight k) &&& 255#32 := by
  apply BitVec.eq_of_getLsbD_eq
  intro i hi
  rw [BitVec.getLsbD_and, BitVec.getLsbD_and, BitVec.getLsbD_ushiftRight, BitVec.getLsbD_sshiftRight]
  by_cases q : i < 8
  · rw [if_pos (show k + i < 32 by omega)]
    simp only [show ¬ 32 ≤ i by omega, decide_false, Bool.not_false, Bool.true_and]
  · have key : ∀ f : Fin 32, ¬ f.val < 8 → (255#32).getLsbD f.val = false := by decide
    rw [key ⟨i, hi⟩ q, Bool.and_false, Bool.and_false]
/-- a byte of a number -/
def cb (v s : Int32) : Int32 := (v.toUInt32 >>> (s.toUInt32 &&& Int32.toUInt32 31)).toInt32 &&& 255
theorem cb_24 (v : Int32) : cb v 24 = v >>> ((24 : Int32) &&& 31) &&& 255 := Int32.toBitVec_inj.mp (bv_shr v.toBitVec 24 (by decide))
theorem cb_16 (v : Int32) : cb v 16 = v >>> ((16 : Int32) &&& 31) &&& 255 := Int32.toBitVec_inj.mp (bv_shr v.toBitVec 16 (by decide))
theorem cb_8 (v : Int32) : cb v 8 = v >>> ((8 : Int32) &&& 31) &&& 255 := Int32.toBitVec_inj.mp (bv_shr v.toBitVec 8 (by decide))
theorem cb_0 (v : Int32) : cb v 0 = v >>> ((0 : Int32) &&& 31) &&& 255 := Int32.toBitVec_inj.mp (bv_shr v.toBitVec 0 (by decide))
theorem in255 (x : Int32) : sg_in (x &&& 255) 0 255 := by
  have h1 : (x &&& 255).toBitVec.toNat ≤ 255 := by
    show (x.toBitVec &&& 255#32).toNat ≤ 255
    rw [BitVec.toNat_and]
    exact Nat.and_le_right
  have h2 : (x &&& 255).toInt = ((x &&& 255).toBitVec.toNat : Int) := BitVec.toInt_eq_toNat_of_lt (by omega)
  unfold sg_in
  rw [h2]
  omega
/-- one byte more on the tape -/
def t1 (I : Nat → Nat → Int32) (l : Nat) (b : Int32) : Nat → Nat → Int32 := am_up (am_up I 73 l b) 72 1 (nI (l + 1))
theorem t1_len {l : Nat} {b : Int32} : t1 I l b 72 1 = nI (l + 1) := up_eq _ _ _ _
theorem t1_at {l : Nat} {b : Int32} : t1 I l b 73 l = b := by unfold t1; rw [up_ne (by omega), up_eq]
theorem t1_ne {l r k : Nat} {b : Int32} (h1 : ¬ (r = 73 ∧ k = l)) (h2 : ¬ (r = 72 ∧ k = 1)) : t1 I l b r k = I r k := by unfold t1; rw [up_ne h2, up_ne h1]
theorem c_put1 {v x : Int32} {l : Nat} (hs : ¬ x < 0) (hl : I 72 1 = nI l) (hlen : l < 96) (hK : am_T am_C (41, 0, 3, [.ref 72, .int v, .int (x + -8)], []) (am_mk kt (t1 I l (cb v x)) J T n s) K) : am_T am_C (41, 0, 3, [.ref 72, .int v, .int x], []) (am_mk kt I J T n s) K := by
  have c1 : ¬ 96 ≤ I 72 1 := by rw [hl]; exact nI_ge (a := l) (b := 96) (by omega) (by omega)
  have v1 : vp_in (I 72 1) 96 := by rw [hl]; exact vpl hlen (by decide)
  have ec : (I 72 1).toNatClampNeg = l := by rw [hl, nI_clamp (by omega)]
  have hK2 : am_T am_C (41, 0, 3, [.ref 72, .int v, .int (x + -8)], []) (am_mk kt (am_up (am_up I 73 (I 72 1).toNatClampNeg (cb v x)) 72 1 (am_up I 73 (I 72 1).toNatClampNeg (cb v x) 72 1 + 1)) J T n s) K := by
    rw [ec, up_ne (by omega), hl, ← nI_succ]
    exact hK
  refine am_wq_T (cut := fun z pc => (Nat.beq z 41 && Nat.beq pc 3)) (inl := fun _ => false) 120 _ _ _ ?_
  exact And.intro (fun q => absurd q hs) (fun _ => And.intro rfl (And.intro (fun q => absurd q c1) (fun _ => And.intro rfl (And.intro rfl (And.intro ⟨rfl, v1⟩ (And.intro rfl (And.intro rfl hK2)))))))
def pt (I : Nat → Nat → Int32) (l : Nat) (v : Int32) : Nat → Nat → Int32 := t1 (t1 (t1 (t1 I l (cb v 24)) (l + 1) (cb v 16)) (l + 2) (cb v 8)) (l + 3) (cb v 0)
theorem pt_len {l : Nat} {v : Int32} : pt I l v 72 1 = nI (l + 4) := t1_len
theorem pt_ne {l r k : Nat} {v : Int32} (h1 : ¬ (r = 73 ∧ l ≤ k ∧ k < l + 4)) (h2 : ¬ (r = 72 ∧ k = 1)) : pt I l v r k = I r k := by
  unfold pt
  rw [t1_ne (by omega) h2, t1_ne (by omega) h2, t1_ne (by omega) h2, t1_ne (by omega) h2]
theorem pt_at {l : Nat} {v : Int32} : pt I l v 73 l = cb v 24 ∧ pt I l v 73 (l + 1) = cb v 16 ∧ pt I l v 73 (l + 2) = cb v 8 ∧ pt I l v 73 (l + 3) = cb v 0 := by
  unfold pt
  refine ⟨?_, ?_, ?_, t1_at⟩
  · rw [t1_ne (by omega) (by omega), t1_ne (by omega) (by omega), t1_ne (by omega) (by omega), t1_at]
  · rw [t1_ne (by omega) (by omega), t1_ne (by omega) (by omega), t1_at]
  · rw [t1_ne (by omega) (by omega), t1_at]
theorem c_put {v : Int32} {l : Nat} (hl : I 72 1 = nI l) (hlen : l + 4 ≤ 96) (hK : K none (am_mk kt (pt I l v) J T n s)) : am_T am_C (41, 0, 0, [.ref 72, .int v, .null], []) (am_mk kt I J T n s) K := by
  have cz : (-8 : Int32) < 0 := by decide
  refine am_wq_T (cut := fun z pc => (Nat.beq z 41 && Nat.beq pc 3)) (inl := fun _ => false) 120 _ _ _ ?_
  refine c_put1 (by decide) hl (by omega) ?_
  rw [show (24 : Int32) + -8 = 16 from by decide]
  refine c_put1 (by decide) t1_len (by omega) ?_
  rw [show (16 : Int32) + -8 = 8 from by decide]
  refine c_put1 (by decide) t1_len (by omega) ?_
  rw [show (8 : Int32) + -8 = 0 from by decide]
  refine c_put1 (by decide) t1_len (by omega) ?_
  rw [show (0 : Int32) + -8 = -8 from by decide]
  show am_T am_C _ (am_mk kt (pt I l v) J T n s) K
  obtain ⟨I2, e2⟩ : ∃ I2, I2 = pt I l v := ⟨_, rfl⟩
  rw [← e2] at hK ⊢
  refine am_wq_T (cut := fun z pc => (Nat.beq z 41 && Nat.beq pc 3)) (inl := fun _ => false) 120 _ _ _ ?_
  exact And.intro (fun _ => hK) (fun q => absurd cz q)
/-- a byte, as the reference has it -/
def fb (a b c : Int32) (i : Nat) : Int32 := (if i < 4 then a else if i < 8 then b else c) >>> ((24 - 8 * (nI i - nI i / 4 * 4)) &&& 31) &&& 255
theorem m_feed_l {a b c : Int32} {l : Nat} (hlen : l + 12 ≤ 96) {I0 : Nat → Nat → Int32} (hl : I0 107 11 = nI l) (hK : ∀ I', ch (fun r => r = 117) I0 I' → (∀ k, k < l → I' 117 k = I0 117 k) → (∀ i, i < 12 → I' 117 (l + i) = fb a b c i) → K (some (.int (nI (l + 12)))) (am_mk kt (am_up I' 107 11 (nI (l + 12))) J T n s)) : ∀ (j i : Nat) (v5 : Value) (I : Nat → Nat → Int32), i + j = 12 → ch (fun r => r = 117) I0 I → (∀ k, k < l → I 117 k = I0 117 k) → (∀ k, k < i → I 117 (l + k) = fb a b c k) → am_T am_C (170, 0, 18, [.ref 107, .int a, .int b, .int c, .int (nI i), v5], []) (am_mk kt I J T n s) K
  | 0, i, v5, I, hi, hI, hlo, hhi => by
    have : i = 12 := by omega
    subst this
    have c1 : (12 : Int32) ≤ nI 12 := by decide
    have key := hK I hI hlo hhi
    have e11 : I 107 11 = nI l := by rw [hI 107 (by omega)]; exact hl
    have key2 : K (some (.int (am_up I 107 11 (I 107 11 + 12) 107 11))) (am_mk kt (am_up I 107 11 (I 107 11 + 12)) J T n s) := by
      rw [up_eq, e11, show (12 : Int32) = nI 12 from rfl, nI_add]
      exact key
    refine am_wq_T (cut := fun z pc => (Nat.beq z 170 && Nat.beq pc 18)) (inl := fun _ => false) 120 _ _ _ ?_
    exact And.intro (fun _ => And.intro rfl (And.intro rfl (And.intro rfl key2))) (fun q => absurd c1 q)
  | j + 1, i, v5, I, hi, hI, hlo, hhi => by
    have c1 : ¬ (12 : Int32) ≤ nI i := nI_ge (a := i) (b := 12) (by omega) (by omega)
    have e11 : I 107 11 = nI l := by rw [hI 107 (by omega)]; exact hl
    have v1 : vp_in (I 107 11 + nI i) 96 := by rw [e11, nI_add]; exact vpl (by omega) (by decide)
    have ix : (I 107 11 + nI i).toNatClampNeg = l + i := by rw [e11, nI_add, nI_clamp (by omega)]
    have nz : ¬ (4 : Int32) = 0 := by decide
    have key := fun v => m_feed_l hlen hl hK j (i + 1) v (am_up I 117 (l + i) (fb a b c i)) (by omega) (ch_tr hI (ch_up (P := fun r => r = 117) rfl) fun r q => q.elim id id) (fun k hk => by rw [up_ne (by omega)]; exact hlo k hk) (fun k hk => by
      by_cases e : k = i
      · subst e; exact up_eq _ _ _ _
      · rw [up_ne (by omega)]; exact hhi k (by omega))
    rw [nI_succ, ← ix] at key
    by_cases q4 : i < 4
    · have c4 : ¬ (4 : Int32) ≤ nI i := nI_ge (a := i) (b := 4) (by omega) (by omega)
      rw [show fb a b c i = a >>> ((24 - 8 * (nI i - nI i / 4 * 4)) &&& 31) &&& 255 by unfold fb; rw [if_pos q4]] at key
      refine am_wq_T (cut := fun z pc => (Nat.beq z 170 && Nat.beq pc 18)) (inl := fun _ => false) 120 _ _ _ ?_
      exact And.intro (fun q => absurd q c1) (fun _ => And.intro (fun q => absurd q c4) (fun _ => And.intro rfl (And.intro rfl (And.intro nz (And.intro ⟨rfl, v1⟩ (key _))))))
    · have c4 : (4 : Int32) ≤ nI i := nI_le (a := 4) (b := i) (by omega) (by omega)
      by_cases q8 : i < 8
      · have c8 : ¬ (8 : Int32) ≤ nI i := nI_ge (a := i) (b := 8) (by omega) (by omega)
        rw [show fb a b c i = b >>> ((24 - 8 * (nI i - nI i / 4 * 4)) &&& 31) &&& 255 by unfold fb; rw [if_neg q4, if_pos q8]] at key
        refine am_wq_T (cut := fun z pc => (Nat.beq z 170 && Nat.beq pc 18)) (inl := fun _ => false) 120 _ _ _ ?_
        exact And.intro (fun q => absurd q c1) (fun _ => And.intro (fun _ => And.intro (fun q => absurd q c8) (fun _ => And.intro rfl (And.intro rfl (And.intro nz (And.intro ⟨rfl, v1⟩ (key _)))))) (fun q => absurd c4 q))
      · have c8 : (8 : Int32) ≤ nI i := nI_le (a := 8) (b := i) (by omega) (by omega)
        rw [show fb a b c i = c >>> ((24 - 8 * (nI i - nI i / 4 * 4)) &&& 31) &&& 255 by unfold fb; rw [if_neg q4, if_neg q8]] at key
        refine am_wq_T (cut := fun z pc => (Nat.beq z 170 && Nat.beq pc 18)) (inl := fun _ => false) 120 _ _ _ ?_
        exact And.intro (fun q => absurd q c1) (fun _ => And.intro (fun _ => And.intro (fun _ => And.intro rfl (And.intro rfl (And.intro nz (And.intro ⟨rfl, v1⟩ (key _))))) (fun q => absurd c8 q)) (fun q => absurd c4 q))
theorem fb_cb (a b c : Int32) (l : Nat) : ∀ i, i < 12 → pt (pt (pt I l a) (l + 4) b) (l + 4 + 4) c 73 (l + i) = fb a b c i := by
  have p0 := pt_at (I := I) (l := l) (v := a)
  have p1 := pt_at (I := pt I l a) (l := l + 4) (v := b)
  have p2 := pt_at (I := pt (pt I l a) (l + 4) b) (l := l + 4 + 4) (v := c)
  intro i hi
  have : i = 0 ∨ i = 1 ∨ i = 2 ∨ i = 3 ∨ i = 4 ∨ i = 5 ∨ i = 6 ∨ i = 7 ∨ i = 8 ∨ i = 9 ∨ i = 10 ∨ i = 11 := by omega
  rcases this with rfl | rfl | rfl | rfl | rfl | rfl | rfl | rfl | rfl | rfl | rfl | rfl
  · rw [pt_ne (by omega) (by omega), pt_ne (by omega) (by omega)]; exact p0.1.trans (cb_24 a)
  · rw [pt_ne (by omega) (by omega), pt_ne (by omega) (by omega)]; exact p0.2.1.trans (cb_16 a)
  · rw [pt_ne (by omega) (by omega), pt_ne (by omega) (by omega)]; exact p0.2.2.1.trans (cb_8 a)
  · rw [pt_ne (by omega) (by omega), pt_ne (by omega) (by omega)]; exact p0.2.2.2.trans (cb_0 a)
  · rw [pt_ne (by omega) (by omega)]; exact p1.1.trans (cb_24 b)
  · rw [pt_ne (by omega) (by omega)]; exact p1.2.1.trans (cb_16 b)
  · rw [pt_ne (by omega) (by omega)]; exact p1.2.2.1.trans (cb_8 b)
  · rw [pt_ne (by omega) (by omega)]; exact p1.2.2.2.trans (cb_0 b)
  · exact p2.1.trans (cb_24 c)
  · exact p2.2.1.trans (cb_16 c)
  · exact p2.2.2.1.trans (cb_8 c)
  · exact p2.2.2.2.trans (cb_0 c)
theorem fb_in (a b c : Int32) (i : Nat) : sg_in (fb a b c i) 0 255 := in255 _
theorem L_feed (a b c : Int32) : sg_Call (86, 1, 0, [.ref 20, .int a, .int b, .int c], []) (170, 0, 0, [.ref 107, .int a, .int b, .int c, .null, .null], []) := by
  intro L xs kt I J T n s K hS hK
  have h13 := hS.1.2.2.2.1
  obtain ⟨l, hl, w1, w2, w3⟩ := hS.2.2.2.1
  by_cases q : l + 12 ≤ 96
  · have c1 : I 72 1 + 12 ≤ 96 := by rw [w1, show (12 : Int32) = nI 12 from rfl, nI_add]; exact nI_le (a := l + 12) (b := 96) q (by omega)
    have c2 : I 107 11 + 12 ≤ 96 := by rw [w2, ← w1]; exact c1
    have hM : sg_Mid L xs I n s (170, 0, 0, [.ref 107, .int a, .int b, .int c, .null, .null], []) (nI (l + 12)) kt (pt (pt (pt I l a) (l + 4) b) (l + 4 + 4) c) J T n s := by
      have ne : ∀ r k, ¬ (r = 73 ∧ l ≤ k) → ¬ (r = 72 ∧ k = 1) → pt (pt (pt I l a) (l + 4) b) (l + 4 + 4) c r k = I r k := fun r k h1 h2 => by
        rw [pt_ne (by omega) h2, pt_ne (by omega) h2, pt_ne (by omega) h2]
      have at1 := fb_cb (I := I) a b c l
      have len1 : pt (pt (pt I l a) (l + 4) b) (l + 4 + 4) c 72 1 = nI (l + 4 + 4 + 4) := pt_len
      obtain ⟨I2, e2⟩ : ∃ I2, I2 = pt (pt (pt I l a) (l + 4) b) (l + 4 + 4) c := ⟨_, rfl⟩
      rw [← e2] at ne at1 len1 ⊢
      have c3 : I2 107 11 + 12 ≤ 96 := by rw [ne 107 11 (by omega) (by omega)]; exact c2
      refine ⟨h13, funext fun k => ne 13 k (by omega) (by omega), ?_⟩
      have key := m_feed_l (kt := kt) (J := J) (T := T) (n := n) (s := s) (K := sg_End L xs n s (nI (l + 12))) (a := a) (b := b) (c := c) (I0 := I2) q (by rw [ne 107 11 (by omega) (by omega)]; exact w2) (fun I3 x y z => by
        refine End_of rfl (sim_tape (fun r k _ p1 p2 p3 p4 => ?_) (fun _ _ => rfl) ?_ hS)
        · rw [up_ne p4, x r p2, ne r k (by omega) p3]
        · refine ⟨l + 12, q, ?_, up_eq _ _ _ _, fun i hi => ?_⟩
          · rw [up_ne (by omega), x 72 (by omega)]
            exact len1
          · rw [up_ne (by omega), up_ne (by omega), x 73 (by omega)]
            rcases Nat.lt_or_ge i l with c | c
            · rw [y i c, ne 73 i (by omega) (by omega), ne 117 i (by omega) (by omega)]
              exact w3 i c
            · rw [show i = l + (i - l) by omega, at1 (i - l) (by omega), z (i - l) (by omega)]
              exact ⟨rfl, fb_in _ _ _ _⟩) 12 0
      refine am_wq_T (cut := fun z pc => (Nat.beq z 170 && Nat.beq pc 18)) (inl := fun _ => false) 120 _ _ _ ?_
      exact And.intro rfl (And.intro (fun _ => key _ I2 (by omega) ch_rfl (fun _ _ => rfl) (fun k hk => absurd hk (Nat.not_lt_zero k))) (fun q => absurd c3 q))
    have key := hK _ _ _ _ _ _ _ hM
    rw [show nI (l + 12) = pt (pt (pt I l a) (l + 4) b) (l + 4 + 4) c 72 1 from pt_len.symm] at key
    refine am_wq_T (cut := fun _ _ => false) (inl := fun z => !(Nat.beq z 41)) 120 _ _ _ ?_
    exact And.intro rfl (And.intro rfl (And.intro (fun _ => And.intro rfl (And.intro rfl (c_put w1 (by omega) (And.intro rfl (And.intro rfl (c_put pt_len (by omega) (And.intro rfl (And.intro rfl (c_put pt_len (by omega) (And.intro rfl (And.intro rfl key))))))))))) (fun q => absurd c1 q)))
  · have c1 : ¬ I 72 1 + 12 ≤ 96 := by rw [w1, show (12 : Int32) = nI 12 from rfl, nI_add]; exact nI_ge (a := 96) (b := l + 12) (by omega) (by omega)
    have c2 : ¬ I 107 11 + 12 ≤ 96 := by rw [w2, ← w1]; exact c1
    have hM : sg_Mid L xs I n s (170, 0, 0, [.ref 107, .int a, .int b, .int c, .null, .null], []) (-1000000003) kt I J T n s := by
      refine ⟨h13, rfl, ?_⟩
      refine am_wq_T (cut := fun z pc => (Nat.beq z 170 && Nat.beq pc 18)) (inl := fun _ => false) 120 _ _ _ ?_
      exact And.intro rfl (And.intro (fun q => absurd q c2) (fun _ => End_of rfl hS))
    have key := hK _ _ _ _ _ _ _ hM
    refine am_wq_T (cut := fun _ _ => false) (inl := fun z => !(Nat.beq z 41)) 120 _ _ _ ?_
    exact And.intro rfl (And.intro rfl (And.intro (fun q => absurd q c1) (fun _ => key)))
end T77
