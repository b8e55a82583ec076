/-! dug -/
section T85
variable {kt : Nat → Nat × Nat} {I I' : Nat → Nat → Int32} {J J' : Nat → Nat → Int64} {T T' : Nat → Nat → Nat} {n s : Nat} {L : Nat} {xs : Nat → Int32} {K : Option Value → am_M → Prop} {N N' S : Nat → Int32} {hc wc tc h w q size : Nat} {D : Nat → Nat → Int32} {A B : Nat → Nat}
/-- how far apart -/
def adf (v d : Int32) : Nat := (d.toInt - v.toInt).natAbs
theorem ofI (v : Int32) : v = Int32.ofInt v.toInt := (Int32.ofInt_toInt v).symm
theorem adf_le {v d : Int32} (hd : sg_in d 0 99) (hv : sg_in v (-99999) 99999) : adf v d ≤ 100098 := by
  unfold adf sg_in at *
  omega
theorem abs_eq {v d : Int32} (hd : sg_in d 0 99) (hv : sg_in v (-99999) 99999) : (if 0 ≤ d - v then d - v else 0 - (d - v)) = nI (adf v d) := by
  have hb := adf_le hd hv
  have e : d - v = Int32.ofInt (d.toInt - v.toInt) := by rw [Int32.ofInt_sub, ← ofI, ← ofI]
  have e2 : (d - v).toInt = d.toInt - v.toInt := by
    rw [e, Int32.toInt_ofInt_of_le (by unfold sg_in at *; omega) (by unfold sg_in at *; omega)]
  have e3 : (0 - (d - v)).toInt = 0 - (d.toInt - v.toInt) := by
    rw [e, show (0 : Int32) = Int32.ofInt 0 from rfl, ← Int32.ofInt_sub, Int32.toInt_ofInt_of_le (by unfold sg_in at *; omega) (by unfold sg_in at *; omega)]
  by_cases c : 0 ≤ d - v
  · rw [if_pos c]
    rw [Int32.le_iff_toInt_le, e2] at c
    have c' : 0 ≤ d.toInt - v.toInt := c
    exact Int32.toInt_inj.mp (by rw [e2, nI_toInt (by omega)]; unfold adf; omega)
  · rw [if_neg c]
    rw [Int32.le_iff_toInt_le, e2] at c
    have c' : ¬ 0 ≤ d.toInt - v.toInt := c
    exact Int32.toInt_inj.mp (by rw [e3, nI_toInt (by omega)]; unfold adf; omega)
theorem lo64 (v : Int32) : v.toInt64 = lo v.toInt := Int64.toInt_inj.mp (by
  have h1 := Int32.le_toInt v
  have h2 := Int32.toInt_lt v
  rw [Int32.toInt_toInt64, lo_toInt (by omega)])
theorem labs_y {v d : Int32} (hd : sg_in d 0 99) (hv : sg_in v (-99999) 99999) (c : 0 ≤ lg_cmp (v.toInt64 - d.toInt64) 0) : v.toInt64 - d.toInt64 = lo (adf v d : Nat) := by
  rw [lg_cmp_ge, lo64, lo64, lo_sub, show (0 : Int64) = lo 0 from rfl, Int64.le_iff_toInt_le, lo_toInt (by omega), lo_toInt (by unfold sg_in at *; omega)] at c
  rw [lo64, lo64, lo_sub]
  unfold adf
  rw [show ((d.toInt - v.toInt).natAbs : Int) = v.toInt - d.toInt by omega]
theorem labs_n {v d : Int32} (hd : sg_in d 0 99) (hv : sg_in v (-99999) 99999) (c : ¬ 0 ≤ lg_cmp (v.toInt64 - d.toInt64) 0) : -(v.toInt64 - d.toInt64) = lo (adf v d : Nat) := by
  rw [lg_cmp_ge, lo64, lo64, lo_sub, show (0 : Int64) = lo 0 from rfl, Int64.le_iff_toInt_le, lo_toInt (by omega), lo_toInt (by unfold sg_in at *; omega)] at c
  rw [lo64, lo64, lo_sub]
  unfold adf
  rw [show ((d.toInt - v.toInt).natAbs : Int) = -(v.toInt - d.toInt) by omega]
  exact (Int64.ofInt_neg _).symm
/-- what a hole's differences come to -/
def smv (S : Nat → Int32) (q : Nat) (D : Nat → Nat → Int32) (i : Nat) : Nat → Nat
  | 0 => 0
  | k + 1 => smv S q D i k + if S (24 * q + k) = -1000000005 then 0 else adf (S (24 * q + k)) (D k (21 + 5 * i + 2))
theorem smv_le (hS : ∀ k, k < 24 → sg_num (S (24 * q + k))) (hD : ∀ k, HB (D k) hc) {i : Nat} (hi : i < hc) : ∀ k, k ≤ 24 → smv S q D i k ≤ 100098 * k
  | 0, _ => Nat.le_refl _
  | k + 1, hk => by
    have key := smv_le hS hD hi k (by omega)
    show smv S q D i k + (if S (24 * q + k) = -1000000005 then 0 else adf (S (24 * q + k)) (D k (21 + 5 * i + 2))) ≤ _
    by_cases c : S (24 * q + k) = -1000000005
    · rw [if_pos c]; omega
    · rw [if_neg c]
      have := adf_le (hD k i hi).2.2.1 ((hS k (by omega)).resolve_left c)
      omega
/-- which of the first holes has least: the first of them -/
def mnI (A : Nat → Nat) : Nat → Nat
  | 0 => 0
  | i + 1 => if A i < A (mnI A i) then i else mnI A i
theorem mnI_le (A : Nat → Nat) : ∀ i, mnI A (i + 1) ≤ i
  | 0 => by
    show (if A 0 < A 0 then 0 else 0) ≤ 0
    split <;> omega
  | i + 1 => by
    have := mnI_le A i
    show (if A (i + 1) < A (mnI A (i + 1)) then i + 1 else mnI A (i + 1)) ≤ i + 1
    split <;> omega
theorem mnI_1 (A : Nat → Nat) : mnI A (0 + 1) = 0 := by
  have := mnI_le A 0
  omega
/-! the class -/
theorem c_dg_i {k : Nat} {v : Int32} (hq : q < 4) (hz : size ≤ 24) (hk : k < size) {I0 : Nat → Nat → Int32} {N : Nat → Int32} (hv : I0 (80 + 2 * q) k = v) (hv1 : ¬ v = -1000000005) (hv2 : sg_in v (-99999) 99999) (s3 : I0 (79 + 2 * q) 1 = nI size) (hR : sg_LR kt I0 T n 37 N hc wc tc) (hB : HB N hc) (hA : ∀ i, i < hc → A i ≤ 100098 * k) (hBe : ∀ i, i < hc → B i = adf v (N (21 + 5 * i + 2))) (hK : ∀ I' v3, ch (fun r => r = 78) I0 I' → (∀ i, i < hc → I' 78 i = nI (A i + B i)) → am_T am_C (109, 5, 87, [.ref 20, .ref (79 + 2 * q), .int (nI k), v3], []) (am_mk kt I' J T n s) K) : ∀ (j i : Nat) (I : Nat → Nat → Int32), i + j = hc → ch (fun r => r = 78) I0 I → (∀ m, m < hc → I 78 m = nI (if m < i then A m + B m else A m)) → am_T am_C (109, 5, 31, [.ref 20, .ref (79 + 2 * q), .int (nI k), .int (nI i)], []) (am_mk kt I J T n s) K := by
  have h10 := hR.1
  intro j
  induction j with
  | zero =>
    intro i I hi hI hX
    have : i = hc := by omega
    subst this
    have c1 : I 37 1 ≤ nI i := by rw [hI 37 (by omega), hR.2.2.2.2.2.2.1]; exact nI_le (Nat.le_refl _) (by omega)
    have key := hK I (.int (nI i)) hI (fun m hm => by rw [hX m hm, if_pos hm])
    refine am_wq_T (cut := fun z pc => ((Nat.beq z 109 && Nat.beq pc 21) || ((Nat.beq z 109 && Nat.beq pc 31) || (Nat.beq z 109 && Nat.beq pc 87)))) (inl := fun z => !(Nat.beq z 38)) 120 _ _ _ ?_
    exact And.intro rfl (And.intro rfl (And.intro (fun _ => key) (fun z => absurd c1 z)))
  | succ j ih =>
    intro i I hi hI hX
    have c1 : ¬ I 37 1 ≤ nI i := by rw [hI 37 (by omega), hR.2.2.2.2.2.2.1]; exact nI_ge (by omega) (by omega)
    have s3' : I (79 + 2 * q) 1 = nI size := by rw [hI _ (by omega)]; exact s3
    have hv' : I (80 + 2 * q) k = v := by rw [hI _ (by omega)]; exact hv
    have v10 : vp_in (nI i) 10 := vpl (by omega) (by decide)
    have er : am_R (am_k kt, I, J, am_r T, n, s) (am_R (am_k kt, I, J, am_r T, n, s) (am_R (am_k kt, I, J, am_r T, n, s) 20 1) 0) (nI i).toNatClampNeg = 43 + i := rL37 (by omega)
    have er2 : am_R (am_k kt, I, J, am_r T, n, s) (79 + 2 * q) 2 = 80 + 2 * q := rS2 hq
    have k2 : (am_k kt (80 + 2 * q)).1 = 20 := by rw [kS2 hq]
    have vi : vp_in (nI k) (am_k kt (80 + 2 * q)).2 := by rw [kS2 hq]; exact vpl (by omega) (by decide)
    have ci : (nI i).toNatClampNeg = i := nI_clamp (by omega)
    have ck : (nI k).toNatClampNeg = k := nI_clamp (by omega)
    have hd : I (43 + i) 2 = N (21 + 5 * i + 2) := by
      rw [hI (43 + i) (by omega)]
      exact hR.2.2.2.2.2.2.2.2.2.1 i (by omega) 2 (by decide)
    have hdb := (hB i (by omega)).2.2.1
    have ev : I 78 (nI i).toNatClampNeg + (if 0 ≤ I (43 + i) 2 - I (80 + 2 * q) (nI k).toNatClampNeg then I (43 + i) 2 - I (80 + 2 * q) (nI k).toNatClampNeg else 0 - (I (43 + i) 2 - I (80 + 2 * q) (nI k).toNatClampNeg)) = nI (A i + B i) := by
      rw [ci, ck, hd, hv', abs_eq hdb hv2, hX i (by omega), if_neg (by omega), nI_add, hBe i (by omega)]
    have key := ih (i + 1) (am_up I 78 i (nI (A i + B i))) (by omega) (ch_tr hI (ch_up (P := fun r => r = 78) rfl) fun r q => q.elim id id) (fun m hm => by
      by_cases e : m = i
      · subst e
        rw [up_eq, if_pos (by omega)]
      · rw [up_ne (by omega), hX m hm]
        by_cases e2 : m < i
        · rw [if_pos e2, if_pos (by omega)]
        · rw [if_neg e2, if_neg (by omega)])
    rw [nI_succ] at key
    have key2 : am_T am_C (109, 5, 31, [.ref 20, .ref (79 + 2 * q), .int (nI k), .int (nI i + 1)], []) (am_mk kt (am_up I 78 (nI i).toNatClampNeg (I 78 (nI i).toNatClampNeg + (if 0 ≤ I (43 + i) 2 - I (80 + 2 * q) (nI k).toNatClampNeg then I (43 + i) 2 - I (80 + 2 * q) (nI k).toNatClampNeg else 0 - (I (43 + i) 2 - I (80 + 2 * q) (nI k).toNatClampNeg)))) J T n s) K := by
      rw [ev, ci]
      exact key
    refine am_wq_T (cut := fun z pc => ((Nat.beq z 109 && Nat.beq pc 21) || ((Nat.beq z 109 && Nat.beq pc 31) || (Nat.beq z 109 && Nat.beq pc 87)))) (inl := fun z => !(Nat.beq z 38)) 120 _ _ _ ?_
    refine And.intro rfl (And.intro rfl (And.intro (fun z => absurd z c1) (fun _ => And.intro (kS hq) (c_isNum_y hq hz s3' hk (by rw [hv']; exact hv1) (And.intro (fun z => absurd z m1z) (fun _ => And.intro rfl (And.intro ⟨rfl, v10⟩ (And.intro rfl (And.intro rfl (And.intro ⟨rfl, v10⟩ ?_))))))))))
    rw [er]
    refine And.intro (kL37 (by omega)) (And.intro (kS hq) ?_)
    rw [er2]
    exact And.intro ⟨k2, vi⟩ (And.intro ⟨rfl, v10⟩ key2)
theorem c_dg_k (hq : q < 4) (hz : size ≤ 24) {I0 : Nat → Nat → Int32} (hr : RB N hc wc tc) (hS : ∀ k, k < 24 → I0 (80 + 2 * q) k = S (24 * q + k) ∧ sg_num (S (24 * q + k))) (s3 : I0 (79 + 2 * q) 1 = nI size) (hK : ∀ I', ch (fun r => r = 78 ∨ PB 37 r) I0 I' → (∀ i, i < hc → I' 78 i = nI (smv S q (dys tc hc N) i size)) → K none (am_mk kt I' J T n s)) : ∀ (j k : Nat) (v3 : Value) (I : Nat → Nat → Int32), k + j = size → ch (fun r => r = 78 ∨ PB 37 r) I0 I → sg_LR kt I T n 37 (dys tc hc N k) hc wc tc → (∀ i, i < hc → I 78 i = nI (smv S q (dys tc hc N) i k)) → am_T am_C (109, 5, 21, [.ref 20, .ref (79 + 2 * q), .int (nI k), v3], []) (am_mk kt I J T n s) K := by
  have h10 := hr.2.2.2
  intro j
  induction j with
  | zero =>
    intro k v3 I hk hI hR hX
    have : k = size := by omega
    subst this
    have c1 : I (79 + 2 * q) 1 ≤ nI k := by rw [hI _ (by unfold PB CT; omega), s3]; exact nI_le (Nat.le_refl _) (by omega)
    have key := hK I hI hX
    refine am_wq_T (cut := fun z pc => ((Nat.beq z 109 && Nat.beq pc 21) || ((Nat.beq z 109 && Nat.beq pc 31) || (Nat.beq z 109 && Nat.beq pc 87)))) (inl := fun z => !(Nat.beq z 25)) 120 _ _ _ ?_
    exact And.intro (kS hq) (And.intro (fun _ => key) (fun z => absurd c1 z))
  | succ j ih =>
    intro k v3 I hk hI hR hX
    have a79 : I (79 + 2 * q) = I0 (79 + 2 * q) := hI _ (by unfold PB CT; omega)
    have a80 : I (80 + 2 * q) = I0 (80 + 2 * q) := hI _ (by unfold PB CT; omega)
    have s3' : I (79 + 2 * q) 1 = nI size := by rw [a79]; exact s3
    have c1 : ¬ I (79 + 2 * q) 1 ≤ nI k := by rw [s3']; exact nI_ge (by omega) (by omega)
    have hrk := dys_RB hr k
    have day : ∀ (I1 : Nat → Nat → Int32) (v3 : Value), ch (fun r => r = 78) I I1 → (∀ i, i < hc → I1 78 i = nI (smv S q (dys tc hc N) i (k + 1))) → am_T am_C (109, 5, 87, [.ref 20, .ref (79 + 2 * q), .int (nI k), v3], []) (am_mk kt I1 J T n s) K := fun I1 v3 a b => by
      have hR1 : sg_LR kt I1 T n 37 (dys tc hc N k) hc wc tc := LR_cg (fun r k hr => by rw [a r (by omega)]) hR
      have key := fun I2 c d e => ih (k + 1) v3 I2 (by omega) c d e
      rw [nI_succ] at key
      refine am_wq_T (cut := fun z pc => ((Nat.beq z 109 && Nat.beq pc 21) || ((Nat.beq z 109 && Nat.beq pc 31) || (Nat.beq z 109 && Nat.beq pc 87)))) (inl := fun z => !(Nat.beq z 25)) 120 _ _ _ ?_
      refine And.intro rfl (And.intro rfl (c_day37 hR1 hrk.2.1 fun I2 c d => ?_))
      exact key I2 (ch_tr (ch_tr hI a (S := fun r => r = 78 ∨ PB 37 r) fun r q => q.elim id .inl) c fun r q => q.elim id .inr) d (fun i hi => by rw [c 78 (by unfold PB CT; omega)]; exact b i hi)
    by_cases c : S (24 * q + k) = -1000000005
    · have sm : ∀ i, smv S q (dys tc hc N) i (k + 1) = smv S q (dys tc hc N) i k := fun i => by
        show smv S q (dys tc hc N) i k + (if S (24 * q + k) = -1000000005 then 0 else _) = _
        rw [if_pos c]; rfl
      have key := day I (.int 0) ch_rfl (fun i hi => by rw [sm]; exact hX i hi)
      by_cases h0 : hc = 0
      · have c2 : I 37 1 ≤ 0 := by rw [hR.2.2.2.2.2.2.1, h0]; decide
        refine am_wq_T (cut := fun z pc => ((Nat.beq z 109 && Nat.beq pc 21) || (Nat.beq z 109 && Nat.beq pc 87))) (inl := fun z => !(Nat.beq z 38)) 120 _ _ _ ?_
        exact And.intro (kS hq) (And.intro (fun z => absurd z c1) (fun _ => And.intro rfl (And.intro rfl (And.intro (fun _ => key) (fun z => absurd c2 z)))))
      · have c2 : ¬ I 37 1 ≤ 0 := by rw [hR.2.2.2.2.2.2.1]; exact nI_ge (a := 0) (by omega) (by omega)
        refine am_wq_T (cut := fun z pc => ((Nat.beq z 109 && Nat.beq pc 21) || (Nat.beq z 109 && Nat.beq pc 87))) (inl := fun z => !(Nat.beq z 38)) 120 _ _ _ ?_
        exact And.intro (kS hq) (And.intro (fun z => absurd z c1) (fun _ => And.intro rfl (And.intro rfl (And.intro (fun z => absurd z c2) (fun _ => And.intro (kS hq) (c_isNum_n hq hz s3' (by omega) (fun _ => by rw [a80, (hS k (by omega)).1]; exact c) (And.intro (fun _ => key) (fun z => absurd rfl z))))))))
    · have sm : ∀ i, smv S q (dys tc hc N) i (k + 1) = smv S q (dys tc hc N) i k + adf (S (24 * q + k)) (dys tc hc N k (21 + 5 * i + 2)) := fun i => by
        show smv S q (dys tc hc N) i k + (if S (24 * q + k) = -1000000005 then 0 else _) = _
        rw [if_neg c]
      have inner := c_dg_i (kt := kt) (J := J) (T := T) (n := n) (s := s) (K := K) (A := fun i => smv S q (dys tc hc N) i k) (B := fun i => adf (S (24 * q + k)) (dys tc hc N k (21 + 5 * i + 2))) hq hz (k := k) (by omega) (I0 := I) (by rw [a80]; exact (hS k (by omega)).1) c ((hS k (by omega)).2.resolve_left c) s3' hR hrk.2.1 (fun i hi => smv_le (fun k hk => (hS k hk).2) (fun k => (dys_RB hr k).2.1) hi k (by omega)) (fun i _ => rfl) (fun I1 v3 a b => day I1 v3 a (fun i hi => by rw [sm]; exact b i hi)) hc 0 I (by omega) ch_rfl (fun m hm => by rw [if_neg (by omega)]; exact hX m hm)
      refine am_wq_T (cut := fun z pc => ((Nat.beq z 109 && Nat.beq pc 21) || ((Nat.beq z 109 && Nat.beq pc 31) || (Nat.beq z 109 && Nat.beq pc 87)))) (inl := fun z => !(Nat.beq z 25)) 120 _ _ _ ?_
      exact And.intro (kS hq) (And.intro (fun z => absurd z c1) (fun _ => inner))
theorem c_addD (hq : q < 4) (hz : size ≤ 24) (hR : sg_LR kt I T n 21 N hc wc tc) (hr : RB N hc wc tc) (hS : ∀ k, k < 24 → I (80 + 2 * q) k = S (24 * q + k) ∧ sg_num (S (24 * q + k))) (s3 : I (79 + 2 * q) 1 = nI size) (hK : ∀ I' T', ch (fun r => r = 78 ∨ (37 ≤ r ∧ r < 53) ∨ CT r) I I' → chT (fun r => r = 41) T T' → (∀ i, i < hc → I' 78 i = nI (smv S q (dys tc hc N) i size)) → K none (am_mk kt I' J T' n s)) : am_T am_C (109, 5, 0, [.ref 20, .ref (79 + 2 * q), .null, .null], []) (am_mk kt I J T n s) K := by
  have h10 := hr.2.2.2
  have k78 : am_k kt 78 = (20, 10) := rfl
  refine am_wq_T (cut := fun z pc => ((Nat.beq z 109 && Nat.beq pc 21) || ((Nat.beq z 109 && Nat.beq pc 31) || (Nat.beq z 109 && Nat.beq pc 87)))) (inl := fun z => !((Nat.beq z 217 || Nat.beq z 14))) 120 _ _ _ ?_
  refine And.intro rfl (c_fillI (a := 78) (m := 10) k78 (by decide) ?_)
  obtain ⟨I1, e1⟩ : ∃ I1, I1 = am_row I 78 (cpN (I 78) (fun _ => (0 : Int32)) 10) := ⟨_, rfl⟩
  have off : ∀ r, r ≠ 78 → I1 r = I r := fun r hr => by rw [e1, row_off hr]
  have z78 : ∀ i, i < 10 → I1 78 i = 0 := fun i hi => by rw [e1, row_eq]; unfold cpN; rw [if_pos hi]
  rw [← e1]
  have hR1 : sg_LR kt I1 T n 21 N hc wc tc := LR_cg (fun r k hr => by rw [off r (by omega)]) hR
  refine And.intro rfl (And.intro rfl (And.intro rfl (c_become37_21 hR1 fun I2 T2 a b c => ?_)))
  refine c_dg_k (S := S) hq hz (I0 := I2) hr (fun k hk => by rw [a _ (by omega), off _ (by omega)]; exact hS k hk) (by rw [a _ (by omega), off _ (by omega)]; exact s3) (fun I3 d e => ?_) size 0 _ I2 (by omega) ch_rfl c (fun i hi => by rw [a 78 (by omega), z78 i (by omega)]; rfl)
  exact hK I3 T2 (fun r hr => by rw [d r (by unfold PB; omega), a r (by omega), off r (by omega)]) b e
theorem c_mn {x y : Int32} (hA : ∀ i, i < hc → A i < 100000000) (h10 : hc ≤ 10) (hcn : I 21 1 = nI hc) (hX : ∀ i, i < hc → I 78 i = nI (A i)) (hK : am_T am_C (84, 6, 95, [.ref 20, .int x, .int y, .ref (79 + 2 * q), .int (nI (mnI A hc)), .int (nI hc)], []) (am_mk kt I J T n s) K) : ∀ (j i : Nat), i + 1 + j = hc → am_T am_C (84, 6, 56, [.ref 20, .int x, .int y, .ref (79 + 2 * q), .int (nI (mnI A (i + 1))), .int (nI (i + 1))], []) (am_mk kt I J T n s) K
  | 0, i, hi => by
    have : i + 1 = hc := by omega
    subst this
    have c1 : I 21 1 ≤ nI (i + 1) := by rw [hcn]; exact nI_le (Nat.le_refl _) (by omega)
    refine am_wq_T (cut := fun z pc => ((Nat.beq z 84 && Nat.beq pc 56) || (Nat.beq z 84 && Nat.beq pc 95))) (inl := fun _ => false) 120 _ _ _ ?_
    exact And.intro rfl (And.intro rfl (And.intro (fun _ => hK) (fun z => absurd c1 z)))
  | j + 1, i, hi => by
    have c1 : ¬ I 21 1 ≤ nI (i + 1) := by rw [hcn]; exact nI_ge (by omega) (by omega)
    have hm := mnI_le A i
    have v1 : vp_in (nI (i + 1)) 10 := vpl (by omega) (by decide)
    have v2 : vp_in (nI (mnI A (i + 1))) 10 := vpl (by omega) (by decide)
    have e1 : I 78 (nI (i + 1)).toNatClampNeg = nI (A (i + 1)) := by rw [nI_clamp (by omega)]; exact hX _ (by omega)
    have e2 : I 78 (nI (mnI A (i + 1))).toNatClampNeg = nI (A (mnI A (i + 1))) := by rw [nI_clamp (by omega)]; exact hX _ (by omega)
    have b1 := hA (i + 1) (by omega)
    have b2 := hA (mnI A (i + 1)) (by omega)
    have key := c_mn hA h10 hcn hX hK j (i + 1) (by omega)
    rw [nI_succ (i + 1)] at key
    have il : nI (A (mnI A (i + 1))) ≤ nI (A (i + 1)) ↔ A (mnI A (i + 1)) ≤ A (i + 1) := nI_leI (by omega) (by omega)
    have em : mnI A (i + 1 + 1) = if A (i + 1) < A (mnI A (i + 1)) then i + 1 else mnI A (i + 1) := rfl
    refine am_wq_T (cut := fun z pc => ((Nat.beq z 84 && Nat.beq pc 56) || (Nat.beq z 84 && Nat.beq pc 95))) (inl := fun _ => false) 120 _ _ _ ?_
    refine And.intro rfl (And.intro rfl (And.intro (fun z => absurd z c1) (fun _ => And.intro rfl (And.intro ⟨rfl, v1⟩ (And.intro rfl (And.intro ⟨rfl, v2⟩ (And.intro (fun z => ?_) (fun z => ?_))))))))
    · have z2 : I 78 (nI (mnI A (i + 1))).toNatClampNeg ≤ I 78 (nI (i + 1)).toNatClampNeg := z
      rw [e1, e2, il] at z2
      rw [em, if_neg (by omega)] at key
      exact key
    · have z2 : ¬ I 78 (nI (mnI A (i + 1))).toNatClampNeg ≤ I 78 (nI (i + 1)).toNatClampNeg := z
      rw [e1, e2, il] at z2
      rw [em, if_pos (by omega)] at key
      exact key
end T85
section T85b
variable {kt : Nat → Nat × Nat} {I I' : Nat → Nat → Int32} {J J' : Nat → Nat → Int64} {T T' : Nat → Nat → Nat} {n s : Nat} {L : Nat} {xs : Nat → Int32} {K : Option Value → am_M → Prop} {N N' S : Nat → Int32} {hc wc tc h w q size : Nat} {D : Nat → Nat → Int32} {A B : Nat → Nat}
theorem m_dg_0 {y : Int32} {v4 v5 v6 v7 : Value} {J0 : Nat → Nat → Int64} (hK : ∀ J' v3, chJ (fun r => r = 116) J0 J' → (∀ m, m < 10 → J' 116 m = 0) → am_T am_C (168, 4, 52, [.ref 107, .int (nI q), .int y, v3, v4, v5, v6, v7], []) (am_mk kt I J' T n s) K) : ∀ (j i : Nat) (J : Nat → Nat → Int64), i + j = 10 → chJ (fun r => r = 116) J0 J → (∀ m, m < i → J 116 m = 0) → am_T am_C (168, 4, 33, [.ref 107, .int (nI q), .int y, .int (nI i), v4, v5, v6, v7], []) (am_mk kt I J T n s) K
  | 0, i, J, hi, hJ, hX => by
    have : i = 10 := by omega
    subst this
    have c1 : (10 : Int32) ≤ nI 10 := by decide
    have kk := hK J (.int (nI 10)) hJ hX
    refine am_wq_T (cut := fun z pc => ((Nat.beq z 168 && Nat.beq pc 33) || (Nat.beq z 168 && Nat.beq pc 52))) (inl := fun _ => false) 120 _ _ _ ?_
    exact And.intro (fun _ => kk) (fun z => absurd c1 z)
  | j + 1, i, J, hi, hJ, hX => by
    have c1 : ¬ (10 : Int32) ≤ nI i := nI_ge (a := i) (b := 10) (by omega) (by omega)
    have v10 : vp_in (nI i) 10 := vpl (by omega) (by decide)
    have ci : (nI i).toNatClampNeg = i := nI_clamp (by omega)
    have kk := m_dg_0 hK j (i + 1) (am_up J 116 i 0) (by omega) (chJ_tr hJ (chJ_up (P := fun r => r = 116) rfl) fun r q => q.elim id id) (fun m hm => by
      by_cases e : m = i
      · subst e; exact upJ_eq _ _ _ _
      · rw [upJ_ne (by omega)]; exact hX m (by omega))
    rw [nI_succ] at kk
    have kk2 : am_T am_C (168, 4, 33, [.ref 107, .int (nI q), .int y, .int (nI i + 1), v4, v5, v6, v7], []) (am_mk kt I (am_up J 116 (nI i).toNatClampNeg 0) T n s) K := by
      rw [ci]
      exact kk
    refine am_wq_T (cut := fun z pc => ((Nat.beq z 168 && Nat.beq pc 33) || (Nat.beq z 168 && Nat.beq pc 52))) (inl := fun _ => false) 120 _ _ _ ?_
    exact And.intro (fun z => absurd z c1) (fun _ => And.intro rfl (And.intro ⟨rfl, v10⟩ kk2))
theorem m_dg_i {y v : Int32} {k : Nat} (h10 : hc ≤ 10) (hv1 : ¬ v = -1000000005) (hv2 : sg_in v (-99999) 99999) (hN : I 108 = N) (hcn : N 1 = nI hc) (hB : HB N hc) (hA : ∀ i, i < hc → A i ≤ 100098 * k) (hk : k < 24) (hBe : ∀ i, i < hc → B i = adf v (N (21 + 5 * i + 2))) {J0 : Nat → Nat → Int64} (hK : ∀ J' v5 v6 v7, chJ (fun r => r = 116) J0 J' → (∀ i, i < hc → J' 116 i = lo (A i + B i : Nat)) → am_T am_C (168, 4, 147, [.ref 107, .int (nI q), .int y, .int (nI k), .int v, v5, v6, v7], []) (am_mk kt I J' T n s) K) : ∀ (j i : Nat) (v6 v7 : Value) (J : Nat → Nat → Int64), i + j = hc → chJ (fun r => r = 116) J0 J → (∀ m, m < hc → J 116 m = lo ((if m < i then A m + B m else A m : Nat))) → am_T am_C (168, 4, 84, [.ref 107, .int (nI q), .int y, .int (nI k), .int v, .int (nI i), v6, v7], []) (am_mk kt I J T n s) K := by
  intro j
  induction j with
  | zero =>
    intro i v6 v7 J hi hJ hX
    have : i = hc := by omega
    subst this
    have c1 : I 108 1 ≤ nI i := by rw [hN, hcn]; exact nI_le (Nat.le_refl _) (by omega)
    have kk := hK J (.int (nI i)) v6 v7 hJ (fun m hm => by rw [hX m hm, if_pos hm])
    refine am_wq_T (cut := fun z pc => ((Nat.beq z 168 && Nat.beq pc 58) || ((Nat.beq z 168 && Nat.beq pc 84) || (Nat.beq z 168 && Nat.beq pc 147)))) (inl := fun z => !(Nat.beq z 121)) 120 _ _ _ ?_
    exact And.intro rfl (And.intro ⟨rfl, vp1N⟩ (And.intro (fun _ => kk) (fun z => absurd c1 z)))
  | succ j ih =>
    intro i v6 v7 J hi hJ hX
    have c1 : ¬ I 108 1 ≤ nI i := by rw [hN, hcn]; exact nI_ge (by omega) (by omega)
    have v10 : vp_in (nI i) 10 := vpl (by omega) (by decide)
    have ci : (nI i).toNatClampNeg = i := nI_clamp (by omega)
    have hdb := (hB i (by omega)).2.2.1
    have hx := hX i (by omega)
    rw [if_neg (by omega)] at hx
    have kk := fun v6 v7 => ih (i + 1) v6 v7 (am_up J 116 i (lo (A i + B i : Nat))) (by omega) (chJ_tr hJ (chJ_up (P := fun r => r = 116) rfl) fun r q => q.elim id id) (fun m hm => by
      by_cases e : m = i
      · subst e
        rw [upJ_eq, if_pos (by omega)]
      · rw [upJ_ne (by omega), hX m hm]
        by_cases e2 : m < i
        · rw [if_pos e2, if_pos (by omega)]
        · rw [if_neg e2, if_neg (by omega)])
    rw [nI_succ] at kk
    have es : lo (A i : Nat) + lo (B i : Nat) = lo (A i + B i : Nat) := lo_add _ _
    refine am_wq_T (cut := fun z pc => ((Nat.beq z 168 && Nat.beq pc 58) || ((Nat.beq z 168 && Nat.beq pc 84) || (Nat.beq z 168 && Nat.beq pc 147)))) (inl := fun z => !(Nat.beq z 121)) 120 _ _ _ ?_
    refine And.intro rfl (And.intro ⟨rfl, vp1N⟩ (And.intro (fun z => absurd z c1) (fun _ => And.intro (fun z => absurd z hv1) (fun _ => And.intro rfl (m_ofV (N := N) (h := i) (w := 2) hN rfl rfl (by omega) (by decide) rfl ?_)))))
    refine And.intro rfl (And.intro ⟨rfl, v10⟩ (And.intro (fun z => And.intro ⟨rfl, v10⟩ ?_) (fun z => And.intro ⟨rfl, v10⟩ ?_)))
    · have kk2 : am_T am_C (168, 4, 84, [.ref 107, .int (nI q), .int y, .int (nI k), .int v, .int (nI i + 1), .long (v.toInt64 - (N (21 + 5 * i + 2)).toInt64), .null], []) (am_mk kt I (am_up J 116 (nI i).toNatClampNeg (J 116 (nI i).toNatClampNeg + (v.toInt64 - (N (21 + 5 * i + 2)).toInt64))) T n s) K := by
        rw [ci, hx, labs_y hdb hv2 z, ← hBe i (by omega), es]
        exact kk _ _
      exact kk2
    · have kk2 : am_T am_C (168, 4, 84, [.ref 107, .int (nI q), .int y, .int (nI k), .int v, .int (nI i + 1), .long (v.toInt64 - (N (21 + 5 * i + 2)).toInt64), .null], []) (am_mk kt I (am_up J 116 (nI i).toNatClampNeg (J 116 (nI i).toNatClampNeg + -(v.toInt64 - (N (21 + 5 * i + 2)).toInt64))) T n s) K := by
        rw [labs_n hdb hv2 z, ← hBe i (by omega), ci, hx, es]
        exact kk _ _
      exact kk2
theorem m_dg_k {y : Int32} (hq : q < 4) (hz : size ≤ 24) {I0 : Nat → Nat → Int32} {J0 : Nat → Nat → Int64} (hr : RB N hc wc tc) (hS : ∀ k, k < 24 → sg_num (I0 127 (24 * q + k))) (s4 : I0 126 q = nI size) (hK : ∀ I' J' v3 v4 v5 v6 v7, ch PD I0 I' → I' 108 = dys tc hc N size → chJ (fun r => r = 116) J0 J' → (∀ i, i < hc → J' 116 i = lo (smv (I0 127) q (dys tc hc N) i size : Nat)) → am_T am_C (168, 4, 157, [.ref 107, .int (nI q), .int y, v3, v4, v5, v6, v7], []) (am_mk kt I' J' T n s) K) : ∀ (j k : Nat) (v4 v5 v6 v7 : Value) (I : Nat → Nat → Int32) (J : Nat → Nat → Int64), k + j = size → ch PD I0 I → I 108 = dys tc hc N k → chJ (fun r => r = 116) J0 J → (∀ i, i < hc → J 116 i = lo (smv (I0 127) q (dys tc hc N) i k : Nat)) → am_T am_C (168, 4, 58, [.ref 107, .int (nI q), .int y, .int (nI k), v4, v5, v6, v7], []) (am_mk kt I J T n s) K := by
  have h10 := hr.2.2.2
  have vq : vp_in (nI q) 4 := vpl hq (by decide)
  intro j
  induction j with
  | zero =>
    intro k v4 v5 v6 v7 I J hk hI hN hJ hX
    have : k = size := by omega
    subst this
    have c1 : I 126 (nI q).toNatClampNeg ≤ nI k := by rw [nI_clamp (by omega), hI 126 (by unfold PD PF; omega), s4]; exact nI_le (Nat.le_refl _) (by omega)
    have kk := hK I J (.int (nI k)) v4 v5 v6 v7 hI hN hJ hX
    refine am_wq_T (cut := fun z pc => ((Nat.beq z 168 && Nat.beq pc 58) || ((Nat.beq z 168 && Nat.beq pc 84) || ((Nat.beq z 168 && Nat.beq pc 147) || (Nat.beq z 168 && Nat.beq pc 157))))) (inl := fun z => !(Nat.beq z 157)) 120 _ _ _ ?_
    exact And.intro rfl (And.intro ⟨rfl, vq⟩ (And.intro (fun _ => kk) (fun z => absurd c1 z)))
  | succ j ih =>
    intro k v4 v5 v6 v7 I J hk hI hN hJ hX
    have c1 : ¬ I 126 (nI q).toNatClampNeg ≤ nI k := by rw [nI_clamp (by omega), hI 126 (by unfold PD PF; omega), s4]; exact nI_ge (by omega) (by omega)
    have v1 : vp_in (24 * nI q + nI k) 96 := vpS hq (by omega)
    have ev : I 127 (24 * nI q + nI k).toNatClampNeg = I0 127 (24 * q + k) := by rw [ixS (by omega) (by omega), hI 127 (by unfold PD PF; omega)]
    have hrk := dys_RB hr k
    obtain ⟨v, hv⟩ : ∃ v, v = I0 127 (24 * q + k) := ⟨_, rfl⟩
    have day : ∀ (J1 : Nat → Nat → Int64) (v5 v6 v7 : Value), chJ (fun r => r = 116) J J1 → (∀ i, i < hc → J1 116 i = lo (smv (I0 127) q (dys tc hc N) i (k + 1) : Nat)) → am_T am_C (168, 4, 147, [.ref 107, .int (nI q), .int y, .int (nI k), .int v, v5, v6, v7], []) (am_mk kt I J1 T n s) K := fun J1 v5 v6 v7 a b => by
      have kk := fun I2 c d => ih (k + 1) (.int v) v5 v6 v7 I2 J1 (by omega) c d (chJ_tr hJ a fun r q => q.elim id id) b
      rw [nI_succ] at kk
      refine am_wq_T (cut := fun z pc => ((Nat.beq z 168 && Nat.beq pc 58) || ((Nat.beq z 168 && Nat.beq pc 84) || ((Nat.beq z 168 && Nat.beq pc 147) || (Nat.beq z 168 && Nat.beq pc 157))))) (inl := fun z => !(Nat.beq z 157)) 120 _ _ _ ?_
      refine And.intro rfl (m_day h10 hN hrk.1 hrk.2.1 fun I2 c d => ?_)
      exact kk I2 (ch_tr hI c fun r q => q.elim id id) d
    by_cases c : v = -1000000005
    · have sm : ∀ i, smv (I0 127) q (dys tc hc N) i (k + 1) = smv (I0 127) q (dys tc hc N) i k := fun i => by
        show smv (I0 127) q (dys tc hc N) i k + (if I0 127 (24 * q + k) = -1000000005 then 0 else _) = _
        rw [if_pos (hv.symm.trans c)]; rfl
      have kk := fun v6 v7 => day J (.int 0) v6 v7 chJ_rfl (fun i hi => by rw [sm]; exact hX i hi)
      have kk84 : am_T am_C (168, 4, 84, [.ref 107, .int (nI q), .int y, .int (nI k), .int v, .int 0, v6, v7], []) (am_mk kt I J T n s) K := by
        by_cases h0 : hc = 0
        · have c2 : I 108 1 ≤ 0 := by rw [hN, hrk.1.2.2.2.1, h0]; decide
          refine am_wq_T (cut := fun z pc => ((Nat.beq z 168 && Nat.beq pc 58) || ((Nat.beq z 168 && Nat.beq pc 84) || ((Nat.beq z 168 && Nat.beq pc 147) || (Nat.beq z 168 && Nat.beq pc 157))))) (inl := fun z => !(Nat.beq z 121)) 120 _ _ _ ?_
          exact And.intro rfl (And.intro ⟨rfl, vp1N⟩ (And.intro (fun _ => kk _ _) (fun z => absurd c2 z)))
        · have c2 : ¬ I 108 1 ≤ 0 := by rw [hN, hrk.1.2.2.2.1]; exact nI_ge (a := 0) (by omega) (by omega)
          refine am_wq_T (cut := fun z pc => ((Nat.beq z 168 && Nat.beq pc 58) || ((Nat.beq z 168 && Nat.beq pc 84) || ((Nat.beq z 168 && Nat.beq pc 147) || (Nat.beq z 168 && Nat.beq pc 157))))) (inl := fun z => !(Nat.beq z 121)) 120 _ _ _ ?_
          exact And.intro rfl (And.intro ⟨rfl, vp1N⟩ (And.intro (fun z => absurd z c2) (fun _ => And.intro (fun _ => kk _ _) (fun z => absurd c z))))
      rw [hv, ← ev] at kk84
      refine am_wq_T (cut := fun z pc => ((Nat.beq z 168 && Nat.beq pc 58) || ((Nat.beq z 168 && Nat.beq pc 84) || ((Nat.beq z 168 && Nat.beq pc 147) || (Nat.beq z 168 && Nat.beq pc 157))))) (inl := fun z => !(Nat.beq z 157)) 120 _ _ _ ?_
      exact And.intro rfl (And.intro ⟨rfl, vq⟩ (And.intro (fun z => absurd z c1) (fun _ => And.intro rfl (And.intro ⟨rfl, v1⟩ kk84))))
    · have sm : ∀ i, smv (I0 127) q (dys tc hc N) i (k + 1) = smv (I0 127) q (dys tc hc N) i k + adf v (dys tc hc N k (21 + 5 * i + 2)) := fun i => by
        show smv (I0 127) q (dys tc hc N) i k + (if I0 127 (24 * q + k) = -1000000005 then 0 else _) = _
        rw [if_neg (fun z => c (hv.trans z)), hv]
      have kk84 := m_dg_i (kt := kt) (I := I) (T := T) (n := n) (s := s) (K := K) (q := q) (y := y) (k := k) (v := v) (N := dys tc hc N k) (A := fun i => smv (I0 127) q (dys tc hc N) i k) (B := fun i => adf v (dys tc hc N k (21 + 5 * i + 2))) h10 c ((hv ▸ hS k (by omega) : sg_num v).resolve_left c) hN hrk.1.2.2.2.1 hrk.2.1 (fun i hi => smv_le hS (fun k => (dys_RB hr k).2.1) hi k (by omega)) (by omega) (fun i _ => rfl) (J0 := J) (fun J1 v5 v6 v7 a b => day J1 v5 v6 v7 a (fun i hi => by rw [sm]; exact b i hi)) hc 0 v6 v7 J (by omega) chJ_rfl (fun m hm => by rw [if_neg (by omega)]; exact hX m hm)
      rw [hv, ← ev] at kk84
      refine am_wq_T (cut := fun z pc => ((Nat.beq z 168 && Nat.beq pc 58) || ((Nat.beq z 168 && Nat.beq pc 84) || ((Nat.beq z 168 && Nat.beq pc 147) || (Nat.beq z 168 && Nat.beq pc 157))))) (inl := fun z => !(Nat.beq z 157)) 120 _ _ _ ?_
      exact And.intro rfl (And.intro ⟨rfl, vq⟩ (And.intro (fun z => absurd z c1) (fun _ => And.intro rfl (And.intro ⟨rfl, v1⟩ kk84))))
theorem m_mn {y : Int32} {v5 v6 v7 : Value} (hA : ∀ i, i < hc → A i < 100000000) (h10 : hc ≤ 10) (hcn : I 108 1 = nI hc) (hX : ∀ i, i < hc → J 116 i = lo (A i : Nat)) (hK : am_T am_C (168, 4, 211, [.ref 107, .int (nI q), .int y, .int (nI (mnI A hc)), .int (nI hc), v5, v6, v7], []) (am_mk kt I J T n s) K) : ∀ (j i : Nat), i + 1 + j = hc → am_T am_C (168, 4, 166, [.ref 107, .int (nI q), .int y, .int (nI (mnI A (i + 1))), .int (nI (i + 1)), v5, v6, v7], []) (am_mk kt I J T n s) K
  | 0, i, hi => by
    have : i + 1 = hc := by omega
    subst this
    have c1 : I 108 1 ≤ nI (i + 1) := by rw [hcn]; exact nI_le (Nat.le_refl _) (by omega)
    refine am_wq_T (cut := fun z pc => ((Nat.beq z 168 && Nat.beq pc 166) || (Nat.beq z 168 && Nat.beq pc 211))) (inl := fun _ => false) 120 _ _ _ ?_
    exact And.intro rfl (And.intro ⟨rfl, vp1N⟩ (And.intro (fun _ => hK) (fun z => absurd c1 z)))
  | j + 1, i, hi => by
    have c1 : ¬ I 108 1 ≤ nI (i + 1) := by rw [hcn]; exact nI_ge (by omega) (by omega)
    have hm := mnI_le A i
    have v1 : vp_in (nI (i + 1)) 10 := vpl (by omega) (by decide)
    have v2 : vp_in (nI (mnI A (i + 1))) 10 := vpl (by omega) (by decide)
    have p2 : ¬ nI (mnI A (i + 1)) < 0 := nI_nlt (b := 0) (by omega) (by omega)
    have e1 : J 116 (nI (i + 1)).toNatClampNeg = lo (A (i + 1) : Nat) := by rw [nI_clamp (by omega)]; exact hX _ (by omega)
    have e2 : J 116 (nI (mnI A (i + 1))).toNatClampNeg = lo (A (mnI A (i + 1)) : Nat) := by rw [nI_clamp (by omega)]; exact hX _ (by omega)
    have b1 := hA (i + 1) (by omega)
    have b2 := hA (mnI A (i + 1)) (by omega)
    have kk := m_mn hA h10 hcn hX hK j (i + 1) (by omega)
    rw [nI_succ (i + 1)] at kk
    have il : 0 ≤ lg_cmp (J 116 (nI (i + 1)).toNatClampNeg) (J 116 (nI (mnI A (i + 1))).toNatClampNeg) ↔ A (mnI A (i + 1)) ≤ A (i + 1) := by
      rw [e1, e2, lg_cmp_ge, Int64.le_iff_toInt_le, lo_toInt (by omega), lo_toInt (by omega)]
      omega
    have em : mnI A (i + 1 + 1) = if A (i + 1) < A (mnI A (i + 1)) then i + 1 else mnI A (i + 1) := rfl
    refine am_wq_T (cut := fun z pc => ((Nat.beq z 168 && Nat.beq pc 166) || (Nat.beq z 168 && Nat.beq pc 211))) (inl := fun _ => false) 120 _ _ _ ?_
    refine And.intro rfl (And.intro ⟨rfl, vp1N⟩ (And.intro (fun z => absurd z c1) (fun _ => And.intro (fun z => absurd z p2) (fun _ => And.intro rfl (And.intro ⟨rfl, v1⟩ (And.intro rfl (And.intro ⟨rfl, v2⟩ (And.intro (fun z => ?_) (fun z => ?_)))))))))
    · have z2 := il.mp z
      rw [em, if_neg (by omega)] at kk
      exact kk
    · have z2 : ¬ A (mnI A (i + 1)) ≤ A (i + 1) := fun u => z (il.mpr u)
      rw [em, if_pos (by omega)] at kk
      exact kk
/-- what dug answers -/
def dgR (A : Nat → Nat) (hc : Nat) (y : Int32) : Int32 := if hc = 0 then -1000000005 else if y = 0 then nI (mnI A hc) else nI (A (mnI A hc))
theorem m_dug {y : Int32} {v3 v4 v5 v6 v7 : Value} (hq : q < 4) (hz : size ≤ 24) (hN : I 108 = N) (hr : RB N hc wc tc) (hS : ∀ k, k < 24 → sg_num (I 127 (24 * q + k))) (s4 : I 126 q = nI size) (hK : ∀ I' J', ch NR I I' → chJ (fun r => r = 116) J J' → K (some (.int (dgR (fun i => smv (I 127) q (dys tc hc N) i size) hc y))) (am_mk kt I' J' T n s)) : am_T am_C (168, 4, 33, [.ref 107, .int (nI q), .int y, .int (nI 0), v4, v5, v6, v7], []) (am_mk kt I J T n s) K := by
  have h10 := hr.2.2.2
  refine m_dg_0 (J0 := J) (fun J1 v3 a b => ?_) 10 0 J (by omega) chJ_rfl (fun m hm => absurd hm (Nat.not_lt_zero m))
  refine am_wq_T (cut := fun z pc => ((Nat.beq z 168 && Nat.beq pc 58) || (Nat.beq z 168 && Nat.beq pc 52))) (inl := fun z => !(Nat.beq z 160)) 120 _ _ _ ?_
  refine And.intro rfl (m_aside hr hN fun I1 c d e => ?_)
  have x126 : I1 126 = I 126 := c 126 (by unfold NR CT; omega)
  have x127 : I1 127 = I 127 := c 127 (by unfold NR CT; omega)
  refine m_dg_k (I0 := I1) (J0 := J1) hq hz hr (by rw [x127]; exact hS) (by rw [x126]; exact s4) (fun I2 J2 v3 v4 v5 v6 v7 f g i j => ?_) size 0 v4 v5 v6 v7 I1 J1 (by omega) ch_rfl d chJ_rfl (fun i hi => by rw [b i (by omega)]; rfl)
  rw [x127] at j
  refine am_wq_T (cut := fun z pc => ((Nat.beq z 168 && Nat.beq pc 157) || (Nat.beq z 168 && Nat.beq pc 166))) (inl := fun z => !(Nat.beq z 161)) 120 _ _ _ ?_
  refine And.intro rfl (m_putsBack (N := N) (fun k hk => by rw [g, dys_76 h10 (by omega)]) (fun k hk => by rw [f 115 (by unfold PD PF; omega)]; exact e k hk) fun I3 l m => ?_)
  have fin := hK I3 J2 (fun r hr => by
    by_cases e8 : r = 108
    · subst e8; rw [m, hN]
    · rw [l r e8, f r (fun u => (PD_ne u).elim e8 hr), c r hr]) (chJ_tr a i fun r q => q.elim id id)
  have c3 : I3 108 1 = nI hc := by rw [m]; exact hr.1.2.2.2.1
  show am_T am_C (168, 4, 166, [.ref 107, .int (nI q), .int y, .int (-1), .int 0, v5, v6, v7], []) (am_mk kt I3 J2 T n s) K
  by_cases h0 : hc = 0
  · have c1 : I3 108 1 ≤ 0 := by rw [c3, h0]; decide
    have n1 : ¬ (0 : Int32) ≤ -1 := by decide
    have kk := fin
    unfold dgR at kk
    rw [if_pos h0] at kk
    refine am_wq_T (cut := fun z pc => (Nat.beq z 168 && Nat.beq pc 166)) (inl := fun _ => false) 120 _ _ _ ?_
    exact And.intro rfl (And.intro ⟨rfl, vp1N⟩ (And.intro (fun _ => And.intro (fun z => absurd z n1) (fun _ => kk)) (fun z => absurd c1 z)))
  · have c1 : ¬ I3 108 1 ≤ 0 := by rw [c3]; exact nI_ge (a := 0) (by omega) (by omega)
    have n1 : (-1 : Int32) < 0 := by decide
    obtain ⟨A, hA⟩ : ∃ A, A = fun i => smv (I 127) q (dys tc hc N) i size := ⟨_, rfl⟩
    have hAb : ∀ i, i < hc → A i < 100000000 := fun i hi => by
      rw [hA]
      have := smv_le (D := dys tc hc N) hS (fun k => (dys_RB hr k).2.1) hi size hz
      show smv (I 127) q (dys tc hc N) i size < _
      omega
    have hX : ∀ i, i < hc → J2 116 i = lo (A i : Nat) := fun i hi => by rw [hA]; exact j i hi
    have hm : mnI A hc < hc := by
      have := mnI_le A (hc - 1)
      rw [show hc - 1 + 1 = hc by omega] at this
      omega
    have kk := fin
    rw [← hA] at kk
    unfold dgR at kk
    rw [if_neg h0] at kk
    have p2 : 0 ≤ nI (mnI A hc) := nI_pos' (by omega)
    have v2 : vp_in (nI (mnI A hc)) 10 := vpl (by omega) (by decide)
    have e2 : (J2 116 (nI (mnI A hc)).toNatClampNeg).toInt32 = nI (A (mnI A hc)) := by
      rw [nI_clamp (by omega), hX _ hm]
      exact Int64.toInt32_ofInt
    have tl : ∀ v5 v6 v7, am_T am_C (168, 4, 211, [.ref 107, .int (nI q), .int y, .int (nI (mnI A hc)), .int (nI hc), v5, v6, v7], []) (am_mk kt I3 J2 T n s) K := fun v5 v6 v7 => by
      by_cases y0 : y = 0
      · rw [if_pos y0] at kk
        refine am_wq_T (cut := fun z pc => (Nat.beq z 168 && Nat.beq pc 211)) (inl := fun _ => false) 120 _ _ _ ?_
        exact And.intro (fun _ => And.intro (fun z => absurd y0 z) (fun _ => kk)) (fun z => absurd p2 z)
      · rw [if_neg y0, ← e2] at kk
        refine am_wq_T (cut := fun z pc => (Nat.beq z 168 && Nat.beq pc 211)) (inl := fun _ => false) 120 _ _ _ ?_
        exact And.intro (fun _ => And.intro (fun _ => And.intro rfl (And.intro ⟨rfl, v2⟩ kk)) (fun z => absurd y0 z)) (fun z => absurd p2 z)
    have mn := m_mn (kt := kt) (I := I3) (J := J2) (T := T) (n := n) (s := s) (K := K) (q := q) (y := y) (A := A) (v5 := v5) (v6 := v6) (v7 := v7) hAb h10 c3 hX (tl _ _ _) (hc - 1) 0 (by omega)
    rw [mnI_1] at mn
    refine am_wq_T (cut := fun z pc => ((Nat.beq z 168 && Nat.beq pc 166) || (Nat.beq z 168 && Nat.beq pc 211))) (inl := fun _ => false) 120 _ _ _ ?_
    exact And.intro rfl (And.intro ⟨rfl, vp1N⟩ (And.intro (fun z => absurd z c1) (fun _ => And.intro (fun _ => mn) (fun z => absurd n1 z))))
theorem L_dug (x y : Int32) : sg_Call (84, 6, 0, [.ref 20, .int x, .int y, .null, .null, .null], []) (168, 4, 0, [.ref 107, .int x, .int y, .null, .null, .null, .null, .null], []) := by
  intro L xs kt I J T n s K hS hK
  have h13 := hS.1.2.2.2.1
  obtain ⟨hc, wc, tc, hR, hB⟩ := hS.2.1
  have hr := RB_of hR hB
  have h10 := hR.1
  rcases rng x 0 3 with ⟨a0, a1⟩ | a0 | ⟨a0, a1⟩
  · obtain ⟨q, hq3, rfl⟩ := in_of (m := 3) (by decide) a0 a1
    have hq : q < 4 := by omega
    have v4 : vp_in (nI q) 4 := vpl hq (by decide)
    have cq : (nI q).toNatClampNeg = q := nI_clamp (by omega)
    have hnz : ¬ 79 + 2 * q = 0 := by omega
    obtain ⟨size, hz, s1, s2, s3, s4, s5⟩ := hS.2.2.2.2.1 q hq
    rcases rng y 0 1 with ⟨b0, b1⟩ | b0 | ⟨b0, b1⟩
    · by_cases km : I 125 q = -1
      · have c1 : I (79 + 2 * q) 0 = -1 := s1.trans km
        have c2 : ¬ 0 ≤ I 125 (nI q).toNatClampNeg := by rw [cq, km]; decide
        have hM : sg_Mid L xs I n s (168, 4, 0, [.ref 107, .int (nI q), .int y, .null, .null, .null, .null, .null], []) (-1000000011) kt I J T n s := by
          refine ⟨h13, rfl, ?_⟩
          refine am_wq_T (cut := fun z pc => (Nat.beq z 168 && Nat.beq pc 33)) (inl := fun z => !((Nat.beq z 189 || Nat.beq z 113))) 120 _ _ _ ?_
          exact m_isSheet_y a0 a1 (And.intro (fun z => absurd z m1z) (fun _ => m_in_y b0 b1 (And.intro (fun _ => And.intro rfl (And.intro ⟨rfl, v4⟩ (And.intro (fun z => absurd z c2) (fun _ => End_of rfl hS)))) (fun z => absurd m1z z))))
        have kk := hK _ _ _ _ _ _ _ hM
        refine am_wq_T (cut := fun z pc => (Nat.beq z 84 && Nat.beq pc 56)) (inl := fun z => !((Nat.beq z 110 || (Nat.beq z 105 || Nat.beq z 109)))) 120 _ _ _ ?_
        exact And.intro rfl (c_sheetAt_y hq a0 a1 (And.intro (fun z => absurd z hnz) (fun _ => c_within_y b0 b1 (And.intro (fun _ => And.intro (kS hq) (And.intro (fun z => absurd c1 z) (fun _ => kk))) (fun z => absurd m1z z)))))
      · have c1 : ¬ I (79 + 2 * q) 0 = -1 := by rw [s1]; exact km
        have kp : 0 ≤ I 125 q := by rcases kind3 s2 with e | e | e; exact absurd e km; all_goals rw [e]; decide
        have hcn : I 21 1 = nI hc := hR.2.2.2.2.2.2.1
        have fin : ∀ I1 T1, ch (fun r => r = 78 ∨ (37 ≤ r ∧ r < 53) ∨ CT r) I I1 → chT (fun r => r = 41) T T1 → sg_Mid L xs I n s (168, 4, 0, [.ref 107, .int (nI q), .int y, .null, .null, .null, .null, .null], []) (dgR (fun i => smv (I 127) q (dys tc hc (I 108)) i size) hc y) kt I1 J T1 n s := fun I1 T1 a b => by
          have a1' : ch NR I I1 := ch_w a fun r q => q.elim (fun z => by unfold NR; omega) fun z => z.elim (fun y => by unfold NR; omega) CT_NR
          have x108 : I1 108 = I 108 := a1' 108 (by unfold NR CT; omega)
          have x125 : I1 125 = I 125 := a1' 125 (by unfold NR CT; omega)
          have x126 : I1 126 = I 126 := a1' 126 (by unfold NR CT; omega)
          have x127 : I1 127 = I 127 := a1' 127 (by unfold NR CT; omega)
          have c2 : 0 ≤ I1 125 (nI q).toNatClampNeg := by rw [cq, x125]; exact kp
          refine ⟨h13, a1' 13 (by unfold NR CT; omega), ?_⟩
          have kk := m_dug (kt := kt) (I := I1) (J := J) (T := T1) (n := n) (s := s) (K := sg_End L xs n s (dgR (fun i => smv (I 127) q (dys tc hc (I 108)) i size) hc y)) (y := y) (N := I 108) (v3 := .null) (v4 := .null) (v5 := .null) (v6 := .null) (v7 := .null) hq hz x108 hr (by rw [x127]; exact fun k hk => (s5 k hk).2) (by rw [x126]; exact s4) (fun I2 J2 c d => by
            rw [x127]
            exact End_of rfl (sim_T (T := T) (fun r k hr => by rw [b r hr]) (sim_eq (fun r k u => by rw [c r (rv_NR u), a1' r (rv_NR u)]) (fun r u => d r (by omega)) hS)))
          refine am_wq_T (cut := fun z pc => (Nat.beq z 168 && Nat.beq pc 33)) (inl := fun z => !((Nat.beq z 189 || Nat.beq z 113))) 120 _ _ _ ?_
          exact m_isSheet_y a0 a1 (And.intro (fun z => absurd z m1z) (fun _ => m_in_y b0 b1 (And.intro (fun _ => And.intro rfl (And.intro ⟨rfl, v4⟩ (And.intro (fun _ => kk) (fun z => absurd c2 z)))) (fun z => absurd m1z z))))
        by_cases h0 : hc = 0
        · have d1 : ¬ ¬ I 21 1 = 0 := fun z => z (by rw [hcn, h0]; rfl)
          have kk := hK _ _ _ _ _ _ _ (fin I T ch_rfl (fun _ _ => rfl))
          unfold dgR at kk
          rw [if_pos h0] at kk
          refine am_wq_T (cut := fun z pc => (Nat.beq z 84 && Nat.beq pc 56)) (inl := fun z => !((Nat.beq z 110 || (Nat.beq z 105 || Nat.beq z 109)))) 120 _ _ _ ?_
          exact And.intro rfl (c_sheetAt_y hq a0 a1 (And.intro (fun z => absurd z hnz) (fun _ => c_within_y b0 b1 (And.intro (fun _ => And.intro (kS hq) (And.intro (fun _ => And.intro rfl (And.intro rfl (And.intro (fun z => absurd z d1) (fun _ => kk)))) (fun z => absurd c1 z))) (fun z => absurd m1z z)))))
        · have d1 : ¬ I 21 1 = 0 := by rw [hcn]; exact nI_ne0 (by omega) (by omega)
          refine am_wq_T (cut := fun z pc => (Nat.beq z 84 && Nat.beq pc 56)) (inl := fun z => !((Nat.beq z 110 || (Nat.beq z 105 || Nat.beq z 109)))) 120 _ _ _ ?_
          refine And.intro rfl (c_sheetAt_y hq a0 a1 (And.intro (fun z => absurd z hnz) (fun _ => c_within_y b0 b1 (And.intro (fun _ => And.intro (kS hq) (And.intro (fun _ => And.intro rfl (And.intro rfl (And.intro (fun _ => And.intro rfl ?_) (fun z => absurd d1 z)))) (fun z => absurd c1 z))) (fun z => absurd m1z z)))))
          refine c_addD (S := I 127) hq hz hR hr s5 s3 fun I1 T1 a b c => ?_
          have kk := hK _ _ _ _ _ _ _ (fin I1 T1 a b)
          obtain ⟨A, hA⟩ : ∃ A, A = fun i => smv (I 127) q (dys tc hc (I 108)) i size := ⟨_, rfl⟩
          have hAb : ∀ i, i < hc → A i < 100000000 := fun i hi => by
            rw [hA]
            have := smv_le (S := I 127) (q := q) (D := dys tc hc (I 108)) (fun k hk => (s5 k hk).2) (fun k => (dys_RB hr k).2.1) hi size hz
            show smv (I 127) q (dys tc hc (I 108)) i size < _
            omega
          have hX : ∀ i, i < hc → I1 78 i = nI (A i) := fun i hi => by rw [hA]; exact c i hi
          have hm : mnI A hc < hc := by
            have := mnI_le A (hc - 1)
            rw [show hc - 1 + 1 = hc by omega] at this
            omega
          have hcn1 : I1 21 1 = nI hc := by rw [a 21 (by unfold CT; omega)]; exact hcn
          rw [← hA] at kk
          unfold dgR at kk
          rw [if_neg h0] at kk
          have v2 : vp_in (nI (mnI A hc)) 10 := vpl (by omega) (by decide)
          have e2 : I1 78 (nI (mnI A hc)).toNatClampNeg = nI (A (mnI A hc)) := by
            rw [nI_clamp (by omega)]
            exact hX _ hm
          have tl : am_T am_C (84, 6, 95, [.ref 20, .int (nI q), .int y, .ref (79 + 2 * q), .int (nI (mnI A hc)), .int (nI hc)], []) (am_mk kt I1 J T1 n s) K := by
            by_cases y0 : y = 0
            · rw [if_pos y0] at kk
              refine am_wq_T (cut := fun z pc => (Nat.beq z 84 && Nat.beq pc 95)) (inl := fun _ => false) 120 _ _ _ ?_
              exact And.intro (fun z => absurd y0 z) (fun _ => kk)
            · rw [if_neg y0, ← e2] at kk
              refine am_wq_T (cut := fun z pc => (Nat.beq z 84 && Nat.beq pc 95)) (inl := fun _ => false) 120 _ _ _ ?_
              exact And.intro (fun _ => And.intro rfl (And.intro ⟨rfl, v2⟩ kk)) (fun z => absurd y0 z)
          have k4 := c_mn (kt := kt) (I := I1) (J := J) (T := T1) (n := n) (s := s) (K := K) (q := q) (x := nI q) (y := y) (A := A) hAb h10 hcn1 hX tl (hc - 1) 0 (by omega)
          rw [mnI_1] at k4
          exact k4
    all_goals
      have hM : sg_Mid L xs I n s (168, 4, 0, [.ref 107, .int (nI q), .int y, .null, .null, .null, .null, .null], []) (-1000000001) kt I J T n s := by
        refine ⟨h13, rfl, ?_⟩
        refine am_wq_T (cut := fun z pc => (Nat.beq z 168 && Nat.beq pc 33)) (inl := fun z => !((Nat.beq z 189 || Nat.beq z 113))) 120 _ _ _ ?_
        refine m_isSheet_y a0 a1 (And.intro (fun z => absurd z m1z) (fun _ => ?_))
        first | exact m_in_n0 b0 (And.intro (fun z => absurd rfl z) (fun _ => End_of rfl hS)) | exact m_in_n1 b0 b1 (And.intro (fun z => absurd rfl z) (fun _ => End_of rfl hS))
      have kk := hK _ _ _ _ _ _ _ hM
      refine am_wq_T (cut := fun z pc => (Nat.beq z 84 && Nat.beq pc 56)) (inl := fun z => !((Nat.beq z 110 || (Nat.beq z 105 || Nat.beq z 109)))) 120 _ _ _ ?_
      refine And.intro rfl (c_sheetAt_y hq a0 a1 (And.intro (fun z => absurd z hnz) (fun _ => ?_)))
      first | exact c_within_n0 b0 (And.intro (fun z => absurd rfl z) (fun _ => kk)) | exact c_within_n1 b0 b1 (And.intro (fun z => absurd rfl z) (fun _ => kk))
  all_goals
    have hM : sg_Mid L xs I n s (168, 4, 0, [.ref 107, .int x, .int y, .null, .null, .null, .null, .null], []) (-1000000001) kt I J T n s := by
      refine ⟨h13, rfl, ?_⟩
      refine am_wq_T (cut := fun z pc => (Nat.beq z 168 && Nat.beq pc 33)) (inl := fun z => !((Nat.beq z 189 || Nat.beq z 113))) 120 _ _ _ ?_
      first | exact m_isSheet_n0 a0 (And.intro (fun _ => End_of rfl hS) (fun z => absurd rfl z)) | exact m_isSheet_n1 a0 a1 (And.intro (fun _ => End_of rfl hS) (fun z => absurd rfl z))
    have kk := hK _ _ _ _ _ _ _ hM
    refine am_wq_T (cut := fun z pc => (Nat.beq z 84 && Nat.beq pc 56)) (inl := fun z => !((Nat.beq z 110 || (Nat.beq z 105 || Nat.beq z 109)))) 120 _ _ _ ?_
    first | exact And.intro rfl (c_sheetAt_n0 a0 (And.intro (fun _ => kk) (fun z => absurd rfl z))) | exact And.intro rfl (c_sheetAt_n1 a0 a1 (And.intro (fun _ => kk) (fun z => absurd rfl z)))
end T85b
