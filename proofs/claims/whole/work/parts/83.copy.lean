/-! copy -/
section T83
variable {kt : Nat → Nat × Nat} {I I' : Nat → Nat → Int32} {J J' : Nat → Nat → Int64} {T T' : Nat → Nat → Nat} {n s : Nat} {L : Nat} {xs : Nat → Int32} {K : Option Value → am_M → Prop} {N N' S : Nat → Int32} {hc wc tc h w q size : Nat}
theorem sub_lt {m a b : Nat} (hm : m < 1000) (ha : a < 2 ^ 31) (hb : b < 2 ^ 31) : nI m - nI b < nI a ↔ m < a + b := by
  have e : nI m - nI b = Int32.ofInt ((m : Int) - b) := by
    unfold nI
    rw [Int32.ofInt_sub]
    rfl
  have e2 : (nI m - nI b).toInt = (m : Int) - b := by
    rw [e, Int32.toInt_ofInt_of_le (by omega) (by omega)]
  rw [Int32.lt_iff_toInt_lt, e2, nI_toInt ha]
  omega
/-- so many numbers from here on lie within a sheet -/
def okA (i z : Int32) (size : Nat) : Prop := ∃ a b : Nat, i = nI a ∧ z = nI b ∧ a + b ≤ size
theorem c_hasAll {r : Nat} {i z : Int32} (hk : am_k kt r = (3, 3)) (s3 : I r 1 = nI size) (hz : size ≤ 24) (h1 : okA i z size → K (some (.int 1)) (am_mk kt I J T n s)) (h0 : ¬ okA i z size → K (some (.int 0)) (am_mk kt I J T n s)) : am_T am_C (37, 0, 0, [.ref r, .int i, .int z], []) (am_mk kt I J T n s) K := by
  by_cases a0 : i < 0
  · have key := h0 (fun ⟨a, b, e1, e2, e3⟩ => absurd a0 (by rw [e1]; exact nI_nlt (b := 0) (by omega) (by omega)))
    refine am_wq_T (cut := fun _ _ => false) (inl := fun _ => true) 120 _ _ _ ?_
    exact And.intro (fun _ => And.intro rfl key) (fun q => absurd a0 q)
  · obtain ⟨a, ha, rfl⟩ := nI_of a0
    by_cases b0 : z < 0
    · have key := h0 (fun ⟨a, b, e1, e2, e3⟩ => absurd b0 (by rw [e2]; exact nI_nlt (b := 0) (by omega) (by omega)))
      refine am_wq_T (cut := fun _ _ => false) (inl := fun _ => true) 120 _ _ _ ?_
      exact And.intro (fun q => absurd q a0) (fun _ => And.intro (fun _ => And.intro rfl key) (fun q => absurd b0 q))
    · obtain ⟨b, hb, rfl⟩ := nI_of b0
      have back : okA (nI a) (nI b) size → a + b ≤ size := fun ⟨a', b', e1, e2, e3⟩ => by
        have x1 := (nI_eq ha (by omega)).mp e1
        have x2 := (nI_eq hb (by omega)).mp e2
        omega
      by_cases c0 : a ≤ size
      · have c1 : ¬ I r 1 < nI a := by rw [s3]; exact nI_nlt c0 (by omega)
        by_cases c2 : a + b ≤ size
        · have c3 : ¬ I r 1 - nI a < nI b := by rw [s3]; exact fun q => absurd ((sub_lt (by omega) hb ha).mp q) (by omega)
          have key := h1 ⟨a, b, rfl, rfl, c2⟩
          refine am_wq_T (cut := fun _ _ => false) (inl := fun _ => true) 120 _ _ _ ?_
          exact And.intro (fun q => absurd q a0) (fun _ => And.intro (fun q => absurd q b0) (fun _ => And.intro hk (And.intro (fun q => absurd q c1) (fun _ => And.intro hk (And.intro (fun q => absurd q c3) (fun _ => And.intro rfl key))))))
        · have c3 : I r 1 - nI a < nI b := by rw [s3]; exact (sub_lt (by omega) hb ha).mpr (by omega)
          have key := h0 (fun q => c2 (back q))
          refine am_wq_T (cut := fun _ _ => false) (inl := fun _ => true) 120 _ _ _ ?_
          exact And.intro (fun q => absurd q a0) (fun _ => And.intro (fun q => absurd q b0) (fun _ => And.intro hk (And.intro (fun q => absurd q c1) (fun _ => And.intro hk (And.intro (fun _ => And.intro rfl key) (fun q => absurd c3 q))))))
      · have c1 : I r 1 < nI a := by rw [s3]; exact nI_lt (by omega) (by omega)
        have key := h0 (fun q => c0 (by have := back q; omega))
        refine am_wq_T (cut := fun _ _ => false) (inl := fun _ => true) 120 _ _ _ ?_
        exact And.intro (fun q => absurd q a0) (fun _ => And.intro (fun q => absurd q b0) (fun _ => And.intro hk (And.intro (fun _ => And.intro rfl key) (fun q => absurd c1 q))))
theorem m_copy_l2 {p q a b c : Nat} (hq : q < 4) (hc : c + b ≤ 24) {I0 : Nat → Nat → Int32} (hK : ∀ I', ch (fun r => r = 127) I0 I' → (∀ k, I' 127 k = if 24 * q + c ≤ k ∧ k < 24 * q + c + b then I0 132 (k - (24 * q + c)) else I0 127 k) → K (some (.int (nI b))) (am_mk kt I' J T n s)) : ∀ (j i : Nat) (I : Nat → Nat → Int32), i + j = b → ch (fun r => r = 127) I0 I → (∀ k, I 127 k = if 24 * q + c ≤ k ∧ k < 24 * q + c + i then I0 132 (k - (24 * q + c)) else I0 127 k) → am_T am_C (195, 2, 141, [.ref 107, .int (nI p), .int (nI a), .int (nI q), .int (nI c), .int (nI b), .int (nI i)], []) (am_mk kt I J T n s) K
  | 0, i, I, hi, hI, hX => by
    have : i = b := by omega
    subst this
    have c1 : nI i ≤ nI i := nI_le (Nat.le_refl _) (by omega)
    have key := hK I hI hX
    refine am_wq_T (cut := fun z pc => (Nat.beq z 195 && Nat.beq pc 141)) (inl := fun _ => false) 120 _ _ _ ?_
    exact And.intro (fun _ => key) (fun z => absurd c1 z)
  | j + 1, i, I, hi, hI, hX => by
    have c1 : ¬ nI b ≤ nI i := nI_ge (by omega) (by omega)
    have v1 : vp_in (24 * nI q + nI c + nI i) 96 := by
      rw [show (24 : Int32) = nI 24 from rfl, pk_mul, nI_add, nI_add]
      exact vpl (by omega) (by decide)
    have ix : (24 * nI q + nI c + nI i).toNatClampNeg = 24 * q + c + i := by
      rw [show (24 : Int32) = nI 24 from rfl, pk_mul, nI_add, nI_add, nI_clamp (by omega)]
    have v2 : vp_in (nI i) 24 := vpl (by omega) (by decide)
    have e2 : I 132 (nI i).toNatClampNeg = I0 132 i := by rw [nI_clamp (by omega), hI 132 (by omega)]
    have key := m_copy_l2 (p := p) (a := a) hq hc hK j (i + 1) (am_up I 127 (24 * q + c + i) (I0 132 i)) (by omega) (ch_tr hI (ch_up (P := fun r => r = 127) rfl) fun r q => q.elim id id) (fun k => by
      by_cases e : k = 24 * q + c + i
      · subst e
        rw [up_eq, if_pos (by omega), Nat.add_sub_cancel_left]
      · rw [up_ne (by omega), hX k]
        by_cases e2 : 24 * q + c ≤ k ∧ k < 24 * q + c + i
        · rw [if_pos e2, if_pos (by omega)]
        · rw [if_neg e2, if_neg (by omega)])
    rw [nI_succ, ← ix, ← e2] at key
    refine am_wq_T (cut := fun z pc => (Nat.beq z 195 && Nat.beq pc 141)) (inl := fun _ => false) 120 _ _ _ ?_
    exact And.intro (fun z => absurd z c1) (fun _ => And.intro rfl (And.intro rfl (And.intro ⟨rfl, v2⟩ (And.intro ⟨rfl, v1⟩ key))))
theorem m_copy_l1 {p q a b c : Nat} (hp : p < 4) (ha : a + b ≤ 24) {I0 : Nat → Nat → Int32} (hK : ∀ I', ch (fun r => r = 132) I0 I' → (∀ k, k < b → I' 132 k = I0 127 (24 * p + a + k)) → am_T am_C (195, 2, 141, [.ref 107, .int (nI p), .int (nI a), .int (nI q), .int (nI c), .int (nI b), .int (nI 0)], []) (am_mk kt I' J T n s) K) : ∀ (j i : Nat) (I : Nat → Nat → Int32), i + j = b → ch (fun r => r = 132) I0 I → (∀ k, k < i → I 132 k = I0 127 (24 * p + a + k)) → am_T am_C (195, 2, 104, [.ref 107, .int (nI p), .int (nI a), .int (nI q), .int (nI c), .int (nI b), .int (nI i)], []) (am_mk kt I J T n s) K
  | 0, i, I, hi, hI, hX => by
    have : i = b := by omega
    subst this
    have c1 : nI i ≤ nI i := nI_le (Nat.le_refl _) (by omega)
    have key := hK I hI hX
    refine am_wq_T (cut := fun z pc => ((Nat.beq z 195 && Nat.beq pc 104) || (Nat.beq z 195 && Nat.beq pc 141))) (inl := fun _ => false) 120 _ _ _ ?_
    exact And.intro (fun _ => key) (fun z => absurd c1 z)
  | j + 1, i, I, hi, hI, hX => by
    have c1 : ¬ nI b ≤ nI i := nI_ge (by omega) (by omega)
    have v1 : vp_in (24 * nI p + nI a + nI i) 96 := by
      rw [show (24 : Int32) = nI 24 from rfl, pk_mul, nI_add, nI_add]
      exact vpl (by omega) (by decide)
    have ix : (24 * nI p + nI a + nI i).toNatClampNeg = 24 * p + a + i := by
      rw [show (24 : Int32) = nI 24 from rfl, pk_mul, nI_add, nI_add, nI_clamp (by omega)]
    have v2 : vp_in (nI i) 24 := vpl (by omega) (by decide)
    have e2 : I 127 (24 * nI p + nI a + nI i).toNatClampNeg = I0 127 (24 * p + a + i) := by rw [ix, hI 127 (by omega)]
    have key := m_copy_l1 hp ha hK j (i + 1) (am_up I 132 i (I0 127 (24 * p + a + i))) (by omega) (ch_tr hI (ch_up (P := fun r => r = 132) rfl) fun r q => q.elim id id) (fun k hk => by
      by_cases e : k = i
      · subst e
        rw [up_eq]
      · rw [up_ne (by omega)]
        exact hX k (by omega))
    rw [nI_succ, ← e2] at key
    have ci : (nI i).toNatClampNeg = i := nI_clamp (by omega)
    have key2 : am_T am_C (195, 2, 104, [.ref 107, .int (nI p), .int (nI a), .int (nI q), .int (nI c), .int (nI b), .int (nI i + 1)], []) (am_mk kt (am_up I 132 (nI i).toNatClampNeg (I 127 (24 * nI p + nI a + nI i).toNatClampNeg)) J T n s) K := by
      rw [ci]
      exact key
    refine am_wq_T (cut := fun z pc => ((Nat.beq z 195 && Nat.beq pc 104) || (Nat.beq z 195 && Nat.beq pc 141))) (inl := fun _ => false) 120 _ _ _ ?_
    exact And.intro (fun z => absurd z c1) (fun _ => And.intro rfl (And.intro rfl (And.intro ⟨rfl, v1⟩ (And.intro ⟨rfl, v2⟩ key2))))
theorem L_copy (x i y j z : Int32) : sg_Call (95, 2, 0, [.ref 20, .int x, .int i, .int y, .int j, .int z, .null, .null], []) (195, 2, 0, [.ref 107, .int x, .int i, .int y, .int j, .int z, .null], []) := by
  intro L xs kt I J T n s K hS hK
  have h13 := hS.1.2.2.2.1
  have badx : (x < 0 ∨ (¬ x < 0 ∧ 3 < x)) → K (some (.int (-1000000001))) (am_mk kt I J T n s) := fun a => by
    refine hK _ _ _ _ _ _ _ ⟨h13, rfl, ?_⟩
    refine am_wq_T (cut := fun z pc => (Nat.beq z 195 && Nat.beq pc 56)) (inl := fun z => !(Nat.beq z 189)) 120 _ _ _ ?_
    rcases a with a0 | ⟨a0, a1⟩
    · exact m_isSheet_n0 a0 (And.intro (fun _ => End_of rfl hS) (fun z => absurd rfl z))
    · exact m_isSheet_n1 a0 a1 (And.intro (fun _ => End_of rfl hS) (fun z => absurd rfl z))
  have bady : ¬ x < 0 → ¬ 3 < x → (y < 0 ∨ (¬ y < 0 ∧ 3 < y)) → K (some (.int (-1000000001))) (am_mk kt I J T n s) := fun a0 a1 b => by
    refine hK _ _ _ _ _ _ _ ⟨h13, rfl, ?_⟩
    refine am_wq_T (cut := fun z pc => (Nat.beq z 195 && Nat.beq pc 56)) (inl := fun z => !(Nat.beq z 189)) 120 _ _ _ ?_
    refine m_isSheet_y a0 a1 (And.intro (fun z => absurd z m1z) (fun _ => ?_))
    rcases b with b0 | ⟨b0, b1⟩
    · exact m_isSheet_n0 b0 (And.intro (fun z => absurd rfl z) (fun _ => End_of rfl hS))
    · exact m_isSheet_n1 b0 b1 (And.intro (fun z => absurd rfl z) (fun _ => End_of rfl hS))
  rcases rng x 0 3 with ⟨a0, a1⟩ | a0 | ⟨a0, a1⟩
  · obtain ⟨p, hp3, rfl⟩ := in_of (m := 3) (by decide) a0 a1
    have hp : p < 4 := by omega
    have hpz : ¬ 79 + 2 * p = 0 := by omega
    rcases rng y 0 3 with ⟨b0, b1⟩ | b0 | ⟨b0, b1⟩
    · obtain ⟨q, hq3, rfl⟩ := in_of (m := 3) (by decide) b0 b1
      have hq : q < 4 := by omega
      have hqz : ¬ 79 + 2 * q = 0 := by omega
      have vp : vp_in (nI p) 4 := vpl hp (by decide)
      have vq : vp_in (nI q) 4 := vpl hq (by decide)
      have cp : (nI p).toNatClampNeg = p := nI_clamp (by omega)
      have cq : (nI q).toNatClampNeg = q := nI_clamp (by omega)
      obtain ⟨sp, hsp, p1, p2, p3, p4, p5⟩ := hS.2.2.2.2.1 p hp
      obtain ⟨sq, hsq, q1, q2, q3, q4, q5⟩ := hS.2.2.2.2.1 q hq
      by_cases kp : I 125 p = -1
      · have g1 : I (79 + 2 * p) 0 = -1 := p1.trans kp
        have g2 : I 125 (nI p).toNatClampNeg < 0 := by rw [cp, kp]; decide
        have hM : sg_Mid L xs I n s (195, 2, 0, [.ref 107, .int (nI p), .int i, .int (nI q), .int j, .int z, .null], []) (-1000000011) kt I J T n s := by
          refine ⟨h13, rfl, ?_⟩
          refine am_wq_T (cut := fun z pc => (Nat.beq z 195 && Nat.beq pc 56)) (inl := fun z => !(Nat.beq z 189)) 120 _ _ _ ?_
          exact m_isSheet_y a0 a1 (And.intro (fun z => absurd z m1z) (fun _ => m_isSheet_y b0 b1 (And.intro (fun _ => And.intro rfl (And.intro ⟨rfl, vp⟩ (And.intro (fun _ => End_of rfl hS) (fun z => absurd g2 z)))) (fun z => absurd m1z z))))
        have key := hK _ _ _ _ _ _ _ hM
        refine am_wq_T (cut := fun _ _ => false) (inl := fun z => !((Nat.beq z 110 || Nat.beq z 37))) 120 _ _ _ ?_
        exact And.intro rfl (c_sheetAt_y hp a0 a1 (And.intro rfl (c_sheetAt_y hq b0 b1 (And.intro (fun z => absurd z hpz) (fun _ => And.intro (fun z => absurd z hqz) (fun _ => And.intro (kS hp) (And.intro (fun _ => key) (fun z => absurd g1 z))))))))
      · have g1 : ¬ I (79 + 2 * p) 0 = -1 := by rw [p1]; exact kp
        have g2 : ¬ I 125 (nI p).toNatClampNeg < 0 := by
          rw [cp]
          rcases kind3 p2 with e | e | e
          · exact absurd e kp
          all_goals rw [e]; decide
        by_cases kq : I 125 q = -1
        · have g3 : ¬ ¬ I (79 + 2 * q) 0 = -1 := fun z => z (q1.trans kq)
          have g4 : ¬ 0 ≤ I 125 (nI q).toNatClampNeg := by rw [cq, kq]; decide
          have hM : sg_Mid L xs I n s (195, 2, 0, [.ref 107, .int (nI p), .int i, .int (nI q), .int j, .int z, .null], []) (-1000000011) kt I J T n s := by
            refine ⟨h13, rfl, ?_⟩
            refine am_wq_T (cut := fun z pc => (Nat.beq z 195 && Nat.beq pc 56)) (inl := fun z => !(Nat.beq z 189)) 120 _ _ _ ?_
            exact m_isSheet_y a0 a1 (And.intro (fun z => absurd z m1z) (fun _ => m_isSheet_y b0 b1 (And.intro (fun _ => And.intro rfl (And.intro ⟨rfl, vp⟩ (And.intro (fun z => absurd z g2) (fun _ => And.intro rfl (And.intro ⟨rfl, vq⟩ (And.intro (fun z => absurd z g4) (fun _ => End_of rfl hS))))))) (fun z => absurd m1z z))))
          have key := hK _ _ _ _ _ _ _ hM
          refine am_wq_T (cut := fun _ _ => false) (inl := fun z => !((Nat.beq z 110 || Nat.beq z 37))) 120 _ _ _ ?_
          exact And.intro rfl (c_sheetAt_y hp a0 a1 (And.intro rfl (c_sheetAt_y hq b0 b1 (And.intro (fun z => absurd z hpz) (fun _ => And.intro (fun z => absurd z hqz) (fun _ => And.intro (kS hp) (And.intro (fun z => absurd z g1) (fun _ => And.intro (kS hq) (And.intro (fun z => absurd z g3) (fun _ => key))))))))))
        · have g3 : ¬ I (79 + 2 * q) 0 = -1 := by rw [q1]; exact kq
          have g4 : 0 ≤ I 125 (nI q).toNatClampNeg := by
            rw [cq]
            rcases kind3 q2 with e | e | e
            · exact absurd e kq
            all_goals rw [e]; decide
          have mid : ∀ {K : Option Value → am_M → Prop} {I : Nat → Nat → Int32}, ¬ I 125 (nI p).toNatClampNeg < 0 → 0 ≤ I 125 (nI q).toNatClampNeg → (I 125 (nI p).toNatClampNeg = I 125 (nI q).toNatClampNeg → am_T am_C (195, 2, 56, [.ref 107, .int (nI p), .int i, .int (nI q), .int j, .int z, .null], []) (am_mk kt I J T n s) K) → (¬ I 125 (nI p).toNatClampNeg = I 125 (nI q).toNatClampNeg → K (some (.int (-1000000012))) (am_mk kt I J T n s)) → am_T am_C (195, 2, 0, [.ref 107, .int (nI p), .int i, .int (nI q), .int j, .int z, .null], []) (am_mk kt I J T n s) K := fun {K I} g2 g4 h1 h0 => by
            refine am_wq_T (cut := fun z pc => (Nat.beq z 195 && Nat.beq pc 56)) (inl := fun z => !(Nat.beq z 189)) 120 _ _ _ ?_
            exact m_isSheet_y a0 a1 (And.intro (fun z => absurd z m1z) (fun _ => m_isSheet_y b0 b1 (And.intro (fun _ => And.intro rfl (And.intro ⟨rfl, vp⟩ (And.intro (fun z => absurd z g2) (fun _ => And.intro rfl (And.intro ⟨rfl, vq⟩ (And.intro (fun _ => And.intro rfl (And.intro ⟨rfl, vp⟩ (And.intro rfl (And.intro ⟨rfl, vq⟩ (And.intro (fun z => h1 z) (fun z => h0 z)))))) (fun z => absurd g4 z))))))) (fun z => absurd m1z z))))
          by_cases kk : I 125 p = I 125 q
          · have g5 : I (79 + 2 * p) 0 = I (79 + 2 * q) 0 := p1.trans (kk.trans q1.symm)
            have g6 : I 125 (nI p).toNatClampNeg = I 125 (nI q).toNatClampNeg := by rw [cp, cq]; exact kk
            by_cases ok : okA i z sp ∧ okA j z sq
            · obtain ⟨⟨a, b, rfl, rfl, hab⟩, ⟨c, b', rfl, eb, hcb⟩⟩ := ok
              have ebb : b = b' := (nI_eq (by omega) (by omega)).mp eb
              subst ebb
              have na : ¬ nI a < 0 := nI_nlt (b := 0) (by omega) (by omega)
              have nb : ¬ nI b < 0 := nI_nlt (b := 0) (by omega) (by omega)
              have nc : ¬ nI c < 0 := nI_nlt (b := 0) (by omega) (by omega)
              have ca : (nI a).toNatClampNeg = a := nI_clamp (by omega)
              have cb' : (nI b).toNatClampNeg = b := nI_clamp (by omega)
              have cc : (nI c).toNatClampNeg = c := nI_clamp (by omega)
              have hM : sg_Mid L xs I n s (195, 2, 0, [.ref 107, .int (nI p), .int (nI a), .int (nI q), .int (nI c), .int (nI b), .null], []) (nI b) kt (am_row I (80 + 2 * q) (va_cpy (I (80 + 2 * p)) (I (80 + 2 * q)) a c b)) J T n s := by
                obtain ⟨I1, e1⟩ : ∃ I1, I1 = am_row I (80 + 2 * q) (va_cpy (I (80 + 2 * p)) (I (80 + 2 * q)) a c b) := ⟨_, rfl⟩
                have row : ∀ r, r ≠ 80 + 2 * q → I1 r = I r := fun r hr => by rw [e1, row_off hr]
                have rq : ∀ k, I1 (80 + 2 * q) k = if c ≤ k ∧ k < c + b then I (80 + 2 * p) (a + (k - c)) else I (80 + 2 * q) k := fun k => by rw [e1, row_eq]; rfl
                rw [← e1]
                have x125 : I1 125 = I 125 := row 125 (by omega)
                have x126 : I1 126 = I 126 := row 126 (by omega)
                have x127 : I1 127 = I 127 := row 127 (by omega)
                refine ⟨h13, row 13 (by omega), ?_⟩
                refine mid (by rw [x125]; exact g2) (by rw [x125]; exact g4) (fun _ => ?_) (fun z => absurd (by rw [x125]; exact g6) z)
                have f1 : ¬ I1 126 (nI p).toNatClampNeg - nI b < nI a := by rw [x126, cp, p4]; exact fun z => absurd ((sub_lt (by omega) (by omega) (by omega)).mp z) (by omega)
                have f2 : nI c ≤ I1 126 (nI q).toNatClampNeg - nI b := by rw [x126, cq, q4]; exact Int32.not_lt.mp fun z => absurd ((sub_lt (by omega) (by omega) (by omega)).mp z) (by omega)
                have fin := m_copy_l1 (kt := kt) (J := J) (T := T) (n := n) (s := s) (K := sg_End L xs n s (nI b)) (p := p) (q := q) (a := a) (b := b) (c := c) hp (by omega) (I0 := I1) (fun I2 x y => m_copy_l2 hq (by omega) (fun I3 u v => by
                  have off : ∀ r k, ¬ (79 ≤ r ∧ r < 87) → r ≠ 127 → r ≠ 132 → I3 r k = I r k := fun r k h1 h2 h3 => by rw [u r h2, x r h3, row r (by omega)]
                  have x3 : ∀ k, I3 127 k = if 24 * q + c ≤ k ∧ k < 24 * q + c + b then I 127 (24 * p + a + (k - (24 * q + c))) else I 127 k := fun k => by
                    rw [v k, x 127 (by omega), x127]
                    by_cases e : 24 * q + c ≤ k ∧ k < 24 * q + c + b
                    · rw [if_pos e, if_pos e, y _ (by omega), x127]
                    · rw [if_neg e, if_neg e]
                  refine End_of rfl (sim_sheet (fun r k r1 r2 => off r k r2.1 (by omega) (by unfold rv at r1; omega)) (fun _ _ => rfl) (fun q' hq' => ?_) hS)
                  obtain ⟨size, hz, s1, s2, s3, s4, s5⟩ := hS.2.2.2.2.1 q' hq'
                  have y1 : I3 (79 + 2 * q') = I (79 + 2 * q') := by rw [u _ (by omega), x _ (by omega), row _ (by omega)]
                  have y2 : I3 (80 + 2 * q') = I1 (80 + 2 * q') := by rw [u _ (by omega), x _ (by omega)]
                  have y3 : I3 125 = I 125 := by rw [u _ (by omega), x _ (by omega), x125]
                  have y4 : I3 126 = I 126 := by rw [u _ (by omega), x _ (by omega), x126]
                  refine ⟨size, hz, ?_, ?_, ?_, ?_, fun k hk => ?_⟩
                  · rw [y1, y3]; exact s1
                  · rw [y3]; exact s2
                  · rw [y1]; exact s3
                  · rw [y4]; exact s4
                  · rw [y2, x3]
                    by_cases e : q' = q
                    · subst e
                      rw [rq k]
                      by_cases e2 : c ≤ k ∧ k < c + b
                      · rw [if_pos e2, if_pos (by omega), show 24 * p + a + (24 * q' + k - (24 * q' + c)) = 24 * p + (a + (k - c)) by omega]
                        exact p5 _ (by omega)
                      · rw [if_neg e2, if_neg (by omega)]
                        exact s5 k hk
                    · rw [row _ (by omega), if_neg (by omega)]
                      exact s5 k hk) b 0 I2 (by omega) ch_rfl (fun k => by rw [if_neg (by omega)])) b 0 I1 (by omega) ch_rfl (fun k hk => absurd hk (Nat.not_lt_zero k))
                refine am_wq_T (cut := fun z pc => ((Nat.beq z 195 && Nat.beq pc 56) || (Nat.beq z 195 && Nat.beq pc 104))) (inl := fun _ => false) 120 _ _ _ ?_
                exact And.intro (fun z => absurd z na) (fun _ => And.intro (fun z => absurd z nc) (fun _ => And.intro (fun z => absurd z nb) (fun _ => And.intro rfl (And.intro ⟨rfl, vp⟩ (And.intro (fun z => absurd z f1) (fun _ => And.intro rfl (And.intro ⟨rfl, vq⟩ (And.intro (fun _ => fin) (fun z => absurd f2 z)))))))))
              have key := hK _ _ _ _ _ _ _ hM
              have er1 : am_R (am_k kt, I, J, am_r T, n, s) (79 + 2 * p) 2 = 80 + 2 * p := rS2 hp
              have er2 : am_R (am_k kt, I, J, am_r T, n, s) (79 + 2 * q) 2 = 80 + 2 * q := rS2 hq
              have kp1 : (am_k kt (80 + 2 * p)).1 = 20 := by rw [kS2 hp]
              have kq1 : (am_k kt (80 + 2 * q)).1 = 20 := by rw [kS2 hq]
              have l1 : (nI a).toNatClampNeg + (nI b).toNatClampNeg ≤ (am_k kt (80 + 2 * p)).2 := by rw [kS2 hp, ca, cb']; show a + b ≤ 24; omega
              have l2 : (nI c).toNatClampNeg + (nI b).toNatClampNeg ≤ (am_k kt (80 + 2 * q)).2 := by rw [kS2 hq, cc, cb']; show c + b ≤ 24; omega
              have key2 : K (some (.int (nI b))) (am_mk kt (am_row I (80 + 2 * q) (va_cpy (I (80 + 2 * p)) (I (80 + 2 * q)) (nI a).toNatClampNeg (nI c).toNatClampNeg (nI b).toNatClampNeg)) J T n s) := by
                rw [ca, cb', cc]; exact key
              refine am_wq_T (cut := fun _ _ => false) (inl := fun z => !((Nat.beq z 110 || Nat.beq z 37))) 120 _ _ _ ?_
              refine And.intro rfl (c_sheetAt_y hp a0 a1 (And.intro rfl (c_sheetAt_y hq b0 b1 (And.intro (fun z => absurd z hpz) (fun _ => And.intro (fun z => absurd z hqz) (fun _ => And.intro (kS hp) (And.intro (fun z => absurd z g1) (fun _ => And.intro (kS hq) (And.intro (fun _ => And.intro (kS hp) (And.intro (kS hq) (And.intro (fun _ => ?_) (fun z => absurd g5 z)))) (fun z => absurd g3 z))))))))))
              refine And.intro (kS hp) (c_hasAll (kS hp) p3 hsp (fun _ => And.intro (fun z => absurd z m1z) (fun _ => And.intro (kS hq) (c_hasAll (kS hq) q3 hsq (fun _ => And.intro (fun _ => And.intro (kS hp) ?_) (fun z => absurd m1z z)) (fun z => absurd ⟨c, b, rfl, rfl, hcb⟩ z)))) (fun z => absurd ⟨a, b, rfl, rfl, hab⟩ z))
              rw [er1]
              refine And.intro (kS hq) ?_
              rw [er2]
              exact And.intro ⟨kp1, kq1, na, nc, nb, l1, l2⟩ key2
            · have hM : sg_Mid L xs I n s (195, 2, 0, [.ref 107, .int (nI p), .int i, .int (nI q), .int j, .int z, .null], []) (-1000000013) kt I J T n s := by
                refine ⟨h13, rfl, ?_⟩
                refine mid g2 g4 (fun _ => ?_) (fun z => absurd g6 z)
                refine am_wq_T (cut := fun z pc => ((Nat.beq z 195 && Nat.beq pc 56) || (Nat.beq z 195 && Nat.beq pc 104))) (inl := fun _ => false) 120 _ _ _ ?_
                refine And.intro (fun _ => End_of rfl hS) (fun na => And.intro (fun _ => End_of rfl hS) (fun nc => And.intro (fun _ => End_of rfl hS) (fun nb => And.intro rfl (And.intro ⟨rfl, vp⟩ (And.intro (fun _ => End_of rfl hS) (fun f1 => And.intro rfl (And.intro ⟨rfl, vq⟩ (And.intro (fun f2 => ?_) (fun _ => End_of rfl hS)))))))))
                refine absurd ?_ ok
                obtain ⟨a, ha, rfl⟩ := nI_of na
                obtain ⟨b, hb, rfl⟩ := nI_of nb
                obtain ⟨c, hc, rfl⟩ := nI_of nc
                have f1' : ¬ nI sp - nI b < nI a := by rw [← p4, ← cp]; exact f1
                have f2' : ¬ nI sq - nI b < nI c := by rw [← q4, ← cq]; exact Int32.not_lt.mpr f2
                rw [sub_lt (by omega) ha hb] at f1'
                rw [sub_lt (by omega) hc hb] at f2'
                exact ⟨⟨a, b, rfl, rfl, by omega⟩, ⟨c, b, rfl, rfl, by omega⟩⟩
              have key := hK _ _ _ _ _ _ _ hM
              refine am_wq_T (cut := fun _ _ => false) (inl := fun z => !((Nat.beq z 110 || Nat.beq z 37))) 120 _ _ _ ?_
              refine And.intro rfl (c_sheetAt_y hp a0 a1 (And.intro rfl (c_sheetAt_y hq b0 b1 (And.intro (fun z => absurd z hpz) (fun _ => And.intro (fun z => absurd z hqz) (fun _ => And.intro (kS hp) (And.intro (fun z => absurd z g1) (fun _ => And.intro (kS hq) (And.intro (fun _ => And.intro (kS hp) (And.intro (kS hq) (And.intro (fun _ => ?_) (fun z => absurd g5 z)))) (fun z => absurd g3 z))))))))))
              exact And.intro (kS hp) (c_hasAll (kS hp) p3 hsp (fun o1 => And.intro (fun z => absurd z m1z) (fun _ => And.intro (kS hq) (c_hasAll (kS hq) q3 hsq (fun o2 => absurd ⟨o1, o2⟩ ok) (fun _ => And.intro (fun z => absurd rfl z) (fun _ => key))))) (fun _ => And.intro (fun _ => key) (fun z => absurd rfl z)))
          · have g5 : ¬ I (79 + 2 * p) 0 = I (79 + 2 * q) 0 := by rw [p1, q1]; exact kk
            have g6 : ¬ I 125 (nI p).toNatClampNeg = I 125 (nI q).toNatClampNeg := by rw [cp, cq]; exact kk
            have hM : sg_Mid L xs I n s (195, 2, 0, [.ref 107, .int (nI p), .int i, .int (nI q), .int j, .int z, .null], []) (-1000000012) kt I J T n s := by
              refine ⟨h13, rfl, ?_⟩
              exact mid g2 g4 (fun z => absurd z g6) (fun _ => End_of rfl hS)
            have key := hK _ _ _ _ _ _ _ hM
            refine am_wq_T (cut := fun _ _ => false) (inl := fun z => !((Nat.beq z 110 || Nat.beq z 37))) 120 _ _ _ ?_
            exact And.intro rfl (c_sheetAt_y hp a0 a1 (And.intro rfl (c_sheetAt_y hq b0 b1 (And.intro (fun z => absurd z hpz) (fun _ => And.intro (fun z => absurd z hqz) (fun _ => And.intro (kS hp) (And.intro (fun z => absurd z g1) (fun _ => And.intro (kS hq) (And.intro (fun _ => And.intro (kS hp) (And.intro (kS hq) (And.intro (fun z => absurd z g5) (fun _ => key)))) (fun z => absurd g3 z))))))))))
    all_goals
      have key := bady a0 a1 (by first | exact .inl b0 | exact .inr ⟨b0, b1⟩)
      refine am_wq_T (cut := fun _ _ => false) (inl := fun z => !((Nat.beq z 110 || Nat.beq z 37))) 120 _ _ _ ?_
      refine And.intro rfl (c_sheetAt_y hp a0 a1 (And.intro rfl ?_))
      first | exact c_sheetAt_n0 b0 (And.intro (fun z => absurd z hpz) (fun _ => And.intro (fun _ => key) (fun z => absurd rfl z))) | exact c_sheetAt_n1 b0 b1 (And.intro (fun z => absurd z hpz) (fun _ => And.intro (fun _ => key) (fun z => absurd rfl z)))
  all_goals
    have key := badx (by first | exact .inl a0 | exact .inr ⟨a0, a1⟩)
    refine am_wq_T (cut := fun _ _ => false) (inl := fun z => !((Nat.beq z 110 || Nat.beq z 37))) 120 _ _ _ ?_
    first | exact And.intro rfl (c_sheetAt_n0 a0 (And.intro rfl (c_sheetAt_any fun ra => And.intro (fun _ => key) (fun z => absurd rfl z)))) | exact And.intro rfl (c_sheetAt_n1 a0 a1 (And.intro rfl (c_sheetAt_any fun ra => And.intro (fun _ => key) (fun z => absurd rfl z))))
end T83
