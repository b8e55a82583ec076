/-! pour -/
section T79
variable {kt : Nat → Nat × Nat} {I I' : Nat → Nat → Int32} {J J' : Nat → Nat → Int64} {T T' : Nat → Nat → Nat} {n s : Nat} {L : Nat} {xs : Nat → Int32} {K : Option Value → am_M → Prop} {N N' S : Nat → Int32} {hc wc tc h w q size : Nat} {f : Nat → Int32 → Int32}
/-- what is poured into a hole -/
def pof (S : Nat → Int32) (q size : Nat) (i : Nat) (d : Int32) : Int32 := if i < size ∧ ¬ S (24 * q + i) = -1000000005 then wth (S (24 * q + i)) 0 99 else d
/-- the first holes, poured; how many changed -/
def poN (N : Nat → Int32) (f : Nat → Int32 → Int32) : Nat → Nat → Int32
  | 0 => N
  | i + 1 => upN (poN N f i) (21 + 5 * i + 2) (f i (poN N f i (21 + 5 * i + 2)))
def poC (N : Nat → Int32) (f : Nat → Int32 → Int32) : Nat → Int32
  | 0 => 0
  | i + 1 => if f i (poN N f i (21 + 5 * i + 2)) = poN N f i (21 + 5 * i + 2) then poC N f i else poC N f i + 1
theorem upN_same (N : Nat → Int32) (j : Nat) : upN N j (N j) = N := by
  funext k
  unfold upN
  by_cases e : k = j
  · subst e; rw [if_pos rfl]
  · rw [if_neg e]
theorem po_stop (hf : ∀ i, size ≤ i → ∀ d, f i d = d) : ∀ (j i : Nat), size ≤ i → poN N f (i + j) = poN N f i ∧ poC N f (i + j) = poC N f i
  | 0, i, _ => ⟨rfl, rfl⟩
  | j + 1, i, hi => by
    have key := po_stop hf j i hi
    refine ⟨?_, ?_⟩
    · show upN (poN N f (i + j)) (21 + 5 * (i + j) + 2) (f (i + j) (poN N f (i + j) (21 + 5 * (i + j) + 2))) = _
      rw [hf (i + j) (by omega), upN_same]
      exact key.1
    · show (if f (i + j) (poN N f (i + j) (21 + 5 * (i + j) + 2)) = poN N f (i + j) (21 + 5 * (i + j) + 2) then poC N f (i + j) else poC N f (i + j) + 1) = _
      rw [if_pos (hf (i + j) (by omega) _)]
      exact key.2
theorem wth_in (v : Int32) : sg_in (wth v 0 99) 0 99 := wth_b (m := 99) (by decide)
theorem po_LB (hw : wc ≤ 6) (hf : ∀ i d, sg_in d 0 99 → sg_in (f i d) 0 99) (hB : sg_LB N hc wc) : ∀ i, i ≤ hc → sg_LB (poN N f i) hc wc
  | 0, _ => hB
  | i + 1, hi => by
    have key := po_LB hw hf hB i (by omega)
    exact LB_hole (h := i) (k := 2) hw (by decide) (hf i _ (key.1 i (by omega)).2.2.1) key
theorem c_held99 {v w : Int32} (hv : wth v 0 99 = w) (hK : K (some (.int w)) (am_mk kt I J T n s)) : am_T am_C (107, 0, 0, [.int v, .int 99], []) (am_mk kt I J T n s) K := by
  subst hv
  rw [← held99] at hK
  refine am_wq_T (cut := fun _ _ => false) (inl := fun _ => true) 120 _ _ _ ?_
  exact hK
theorem c_isNum_y {i : Nat} (hq : q < 4) (hz : size ≤ 24) (s3 : I (79 + 2 * q) 1 = nI size) (hi : i < size) (hv : ¬ I (80 + 2 * q) i = -1000000005) (hK : K (some (.int 1)) (am_mk kt I J T n s)) : am_T am_C (38, 1, 0, [.ref (79 + 2 * q), .int (nI i)], []) (am_mk kt I J T n s) K := by
  have i0 : ¬ nI i < 0 := nI_nlt (a := i) (b := 0) (by omega) (by omega)
  have i1 : ¬ I (79 + 2 * q) 1 ≤ nI i := by rw [s3]; exact nI_ge hi (by omega)
  have k2 : (am_k kt (80 + 2 * q)).1 = 20 := by rw [kS2 hq]
  have vi : vp_in (nI i) (am_k kt (80 + 2 * q)).2 := by rw [kS2 hq]; exact vpl (by omega) (by decide)
  have er : am_R (am_k kt, I, J, am_r T, n, s) (79 + 2 * q) 2 = 80 + 2 * q := rS2 hq
  rw [← nI_clamp (n := i) (by omega)] at hv
  refine am_wq_T (cut := fun _ _ => false) (inl := fun z => !(Nat.beq z 36)) 120 _ _ _ ?_
  refine And.intro (kS hq) (c_has_y (kS hq) i0 i1 (And.intro (fun z => absurd z m1z) (fun _ => And.intro (kS hq) ?_)))
  rw [er]
  exact And.intro ⟨k2, vi⟩ (And.intro (fun z => absurd z hv) (fun _ => And.intro rfl hK))
theorem c_isNum_n {i : Nat} (hq : q < 4) (hz : size ≤ 24) (s3 : I (79 + 2 * q) 1 = nI size) (hi : i < 1000000) (hv : i < size → I (80 + 2 * q) i = -1000000005) (hK : K (some (.int 0)) (am_mk kt I J T n s)) : am_T am_C (38, 1, 0, [.ref (79 + 2 * q), .int (nI i)], []) (am_mk kt I J T n s) K := by
  have i0 : ¬ nI i < 0 := nI_nlt (a := i) (b := 0) (by omega) (by omega)
  by_cases c : i < size
  · have i1 : ¬ I (79 + 2 * q) 1 ≤ nI i := by rw [s3]; exact nI_ge c (by omega)
    have k2 : (am_k kt (80 + 2 * q)).1 = 20 := by rw [kS2 hq]
    have vi : vp_in (nI i) (am_k kt (80 + 2 * q)).2 := by rw [kS2 hq]; exact vpl (by omega) (by decide)
    have er : am_R (am_k kt, I, J, am_r T, n, s) (79 + 2 * q) 2 = 80 + 2 * q := rS2 hq
    have hv := hv c
    rw [← nI_clamp (n := i) (by omega)] at hv
    refine am_wq_T (cut := fun _ _ => false) (inl := fun z => !(Nat.beq z 36)) 120 _ _ _ ?_
    refine And.intro (kS hq) (c_has_y (kS hq) i0 i1 (And.intro (fun z => absurd z m1z) (fun _ => And.intro (kS hq) ?_)))
    rw [er]
    exact And.intro ⟨k2, vi⟩ (And.intro (fun _ => And.intro rfl hK) (fun z => absurd hv z))
  · have i1 : I (79 + 2 * q) 1 ≤ nI i := by rw [s3]; exact nI_le (by omega) (by omega)
    refine am_wq_T (cut := fun _ _ => false) (inl := fun z => !(Nat.beq z 36)) 120 _ _ _ ?_
    exact And.intro (kS hq) (c_has_n1 (kS hq) i0 i1 (And.intro (fun _ => And.intro rfl hK) (fun z => absurd rfl z)))
theorem c_pour_s {i : Nat} {w d c : Int32} (hh : i < 10) (hd : I (27 + i) 2 = d) (hK : am_T am_C (93, 2, 29, [.ref 20, .int (nI q), .ref (79 + 2 * q), .int (if w = d then c else c + 1), .int (nI (i + 1)), .ref (27 + i), .int w], []) (am_mk kt (am_up I (27 + i) 2 w) J T n s) K) : am_T am_C (93, 2, 84, [.ref 20, .int (nI q), .ref (79 + 2 * q), .int c, .int (nI i), .ref (27 + i), .int w], []) (am_mk kt I J T n s) K := by
  rw [nI_succ] at hK
  refine am_wq_T (cut := fun z pc => (Nat.beq z 93 && Nat.beq pc 29)) (inl := fun _ => false) 120 _ _ _ ?_
  refine And.intro (kL21 hh) (And.intro (fun z => ?_) (fun z => ?_))
  · rw [if_pos (show w = d from z.trans hd)] at hK
    exact And.intro (kL21 hh) hK
  · rw [if_neg (show ¬ w = d from fun y => z (y.trans hd.symm))] at hK
    exact And.intro (kL21 hh) hK
theorem c_pour_l (hq : q < 4) (hz : size ≤ 24) {I0 : Nat → Nat → Int32} (hf : f = pof S q size) (s3 : I0 (79 + 2 * q) 1 = nI size) (s5 : ∀ k, k < 24 → I0 (80 + 2 * q) k = S (24 * q + k)) (hK : ∀ I', ch (fun r => 27 ≤ r ∧ r < 37) I0 I' → sg_LR kt I' T n 21 (poN N f hc) hc wc tc → K (some (.int (poC N f hc))) (am_mk kt I' J T n s)) : ∀ (j i : Nat) (v5 v6 : Value) (I : Nat → Nat → Int32), i + j = hc → ch (fun r => 27 ≤ r ∧ r < 37) I0 I → sg_LR kt I T n 21 (poN N f i) hc wc tc → am_T am_C (93, 2, 29, [.ref 20, .int (nI q), .ref (79 + 2 * q), .int (poC N f i), .int (nI i), v5, v6], []) (am_mk kt I J T n s) K
  | 0, i, v5, v6, I, hi, hI, hR => by
    have : i = hc := by omega
    subst this
    have h10 := hR.1
    have c1 : I 21 1 ≤ nI i := by rw [hR.2.2.2.2.2.2.1]; exact nI_le (by omega) (by omega)
    refine am_wq_T (cut := fun z pc => (Nat.beq z 93 && Nat.beq pc 29)) (inl := fun _ => false) 120 _ _ _ ?_
    exact And.intro rfl (And.intro rfl (And.intro (fun _ => hK I hI hR) (fun z => absurd c1 z)))
  | j + 1, i, v5, v6, I, hi, hI, hR => by
    have h10 := hR.1
    have c1 : ¬ I 21 1 ≤ nI i := by rw [hR.2.2.2.2.2.2.1]; exact nI_ge (by omega) (by omega)
    have v10 : vp_in (nI i) 10 := vpl (by omega) (by decide)
    have er : am_R (am_k kt, I, J, am_r T, n, s) (am_R (am_k kt, I, J, am_r T, n, s) (am_R (am_k kt, I, J, am_r T, n, s) 20 0) 0) (nI i).toNatClampNeg = 27 + i := rL21 (by omega)
    have er2 : am_R (am_k kt, I, J, am_r T, n, s) (79 + 2 * q) 2 = 80 + 2 * q := rS2 hq
    have k2 : (am_k kt (80 + 2 * q)).1 = 20 := by rw [kS2 hq]
    have hd : I (27 + i) 2 = poN N f i (21 + 5 * i + 2) := hR.2.2.2.2.2.2.2.2.2.1 i (by omega) 2 (by decide)
    have s3' : I (79 + 2 * q) 1 = nI size := by rw [hI _ (by omega)]; exact s3
    have s5' : ∀ k, k < 24 → I (80 + 2 * q) k = S (24 * q + k) := fun k hk => by rw [hI _ (by omega)]; exact s5 k hk
    have key := fun v5 v6 => c_pour_l hq hz hf s3 s5 hK j (i + 1) v5 v6 (am_up I (27 + i) 2 (f i (poN N f i (21 + 5 * i + 2)))) (by omega) (ch_tr hI (ch_up (P := fun r => 27 ≤ r ∧ r < 37) (by omega)) fun r q => q.elim id id) (LR_up (r := 27 + i) (k := 2) (j := 21 + 5 * i + 2) (by decide) (by unfold cellR; omega) hR)
    have key2 : ∀ w, w = f i (poN N f i (21 + 5 * i + 2)) → am_T am_C (93, 2, 84, [.ref 20, .int (nI q), .ref (79 + 2 * q), .int (poC N f i), .int (nI i), .ref (27 + i), .int w], []) (am_mk kt I J T n s) K := fun w ew => by
      refine c_pour_s (by omega) hd ?_
      rw [ew]
      exact key _ _
    by_cases c : i < size ∧ ¬ S (24 * q + i) = -1000000005
    · have vi : vp_in (nI i) (am_k kt (80 + 2 * q)).2 := by rw [kS2 hq]; exact vpl (by omega) (by decide)
      have ev : I (80 + 2 * q) (nI i).toNatClampNeg = S (24 * q + i) := by rw [nI_clamp (by omega)]; exact s5' i (by omega)
      have ew : wth (I (80 + 2 * q) (nI i).toNatClampNeg) 0 99 = f i (poN N f i (21 + 5 * i + 2)) := by
        rw [ev, hf]; unfold pof; rw [if_pos c]
      refine am_wq_T (cut := fun z pc => ((Nat.beq z 93 && Nat.beq pc 29) || (Nat.beq z 93 && Nat.beq pc 84))) (inl := fun z => !((Nat.beq z 38 || Nat.beq z 107))) 120 _ _ _ ?_
      refine And.intro rfl (And.intro rfl (And.intro (fun z => absurd z c1) (fun _ => And.intro rfl (And.intro rfl (And.intro ⟨rfl, v10⟩ ?_)))))
      rw [er]
      refine And.intro (kS hq) (c_isNum_y hq hz s3' c.1 (by rw [s5' i (by omega)]; exact c.2) (And.intro (fun z => absurd z m1z) (fun _ => And.intro (kS hq) ?_)))
      rw [er2]
      exact And.intro ⟨k2, vi⟩ (c_held99 ew (key2 _ rfl))
    · have ew : I (27 + i) 2 = f i (poN N f i (21 + 5 * i + 2)) := by
        rw [hd, hf]; unfold pof; rw [if_neg c]
      have hv : i < size → I (80 + 2 * q) i = -1000000005 := fun z => by
        rw [s5' i (by omega)]
        exact Decidable.not_not.mp fun y => c ⟨z, y⟩
      refine am_wq_T (cut := fun z pc => ((Nat.beq z 93 && Nat.beq pc 29) || (Nat.beq z 93 && Nat.beq pc 84))) (inl := fun z => !((Nat.beq z 38 || Nat.beq z 107))) 120 _ _ _ ?_
      refine And.intro rfl (And.intro rfl (And.intro (fun z => absurd z c1) (fun _ => And.intro rfl (And.intro rfl (And.intro ⟨rfl, v10⟩ ?_)))))
      rw [er]
      exact And.intro (kS hq) (c_isNum_n hq hz s3' (by omega) hv (And.intro (fun _ => And.intro (kL21 (by omega)) (key2 _ ew)) (fun z => absurd rfl z)))
theorem m_pour_s {i : Nat} {w d c : Int32} {v : Value} (hh : i < 10) (hd : I 108 (21 + 5 * i + 2) = d) (hK : ∀ v, am_T am_C (193, 2, 26, [.ref 107, .int (nI q), .int (if w = d then c else c + 1), .int (nI (i + 1)), v, .int w], []) (am_mk kt (am_up I 108 (21 + 5 * i + 2) w) J T n s) K) : am_T am_C (193, 2, 85, [.ref 107, .int (nI q), .int c, .int (nI i), v, .int w], []) (am_mk kt I J T n s) K := by
  rw [nI_succ] at hK
  refine am_wq_T (cut := fun z pc => ((Nat.beq z 193 && Nat.beq pc 26) || (Nat.beq z 193 && Nat.beq pc 85))) (inl := fun z => !(Nat.beq z 123)) 120 _ _ _ ?_
  refine And.intro rfl (m_becomes (j := 21 + 5 * i + 2) (ix_of i 2) (by omega) ?_)
  rw [hd]
  refine And.intro (fun z => ?_) (fun z => ?_)
  · rw [if_neg (show ¬ w = d from fun y => z y.symm)] at hK
    exact hK v
  · rw [if_pos (show w = d from (Decidable.not_not.mp z).symm), ← Int32.add_zero c] at hK
    exact hK v
theorem m_pour_l (hq : q < 4) (hz : size ≤ 24) (h10 : hc ≤ 10) {I0 : Nat → Nat → Int32} (hf : f = pof (I0 127) q size) (s4 : I0 126 q = nI size) (hn : ∀ i, poN N f i 1 = nI hc) (hK : ∀ I', ch (fun r => r = 108) I0 I' → I' 108 = poN N f hc → K (some (.int (poC N f hc))) (am_mk kt I' J T n s)) : ∀ (j i : Nat) (v4 v5 : Value) (I : Nat → Nat → Int32), i + j = hc → ch (fun r => r = 108) I0 I → I 108 = poN N f i → am_T am_C (193, 2, 26, [.ref 107, .int (nI q), .int (poC N f i), .int (nI i), v4, v5], []) (am_mk kt I J T n s) K := by
  intro j
  induction j with
  | zero =>
    intro i v4 v5 I hi hI hN
    have : i = hc := by omega
    subst this
    have vq : vp_in (nI q) 4 := vpl hq (by decide)
    have c2 : I 108 1 ≤ nI i := by rw [hN, hn]; exact nI_le (by omega) (by omega)
    have key := hK I hI hN
    refine am_wq_T (cut := fun z pc => (Nat.beq z 193 && Nat.beq pc 26)) (inl := fun z => !((Nat.beq z 123 || (Nat.beq z 121 || Nat.beq z 114)))) 120 _ _ _ ?_
    exact And.intro rfl (And.intro ⟨rfl, vq⟩ (And.intro (fun _ => key) (fun _ => And.intro rfl (And.intro ⟨rfl, vp1N⟩ (And.intro (fun _ => key) (fun z => absurd c2 z))))))
  | succ j ih =>
    intro i v4 v5 I hi hI hN
    have vq : vp_in (nI q) 4 := vpl hq (by decide)
    have e126 : I 126 (nI q).toNatClampNeg = nI size := by rw [nI_clamp (by omega), hI 126 (by omega)]; exact s4
    by_cases c : size ≤ i
    · have c1 : I 126 (nI q).toNatClampNeg ≤ nI i := by rw [e126]; exact nI_le c (by omega)
      have stop := po_stop (N := N) (f := f) (size := size) (fun i hi d => by rw [hf]; unfold pof; rw [if_neg (fun z => absurd z.1 (by omega))]) (hc - i) i c
      rw [show i + (hc - i) = hc by omega] at stop
      have key := hK I hI (hN.trans stop.1.symm)
      rw [stop.2] at key
      refine am_wq_T (cut := fun z pc => (Nat.beq z 193 && Nat.beq pc 26)) (inl := fun z => !((Nat.beq z 123 || (Nat.beq z 121 || Nat.beq z 114)))) 120 _ _ _ ?_
      exact And.intro rfl (And.intro ⟨rfl, vq⟩ (And.intro (fun _ => key) (fun z => absurd c1 z)))
    · have c1 : ¬ I 126 (nI q).toNatClampNeg ≤ nI i := by rw [e126]; exact nI_ge (by omega) (by omega)
      have c2 : ¬ I 108 1 ≤ nI i := by rw [hN, hn]; exact nI_ge (by omega) (by omega)
      have v1 : vp_in (24 * nI q + nI i) 96 := vpS hq (by omega)
      have ev : I 127 (24 * nI q + nI i).toNatClampNeg = I0 127 (24 * q + i) := by rw [ixS (by omega) (by omega), hI 127 (by omega)]
      have hd : I 108 (21 + 5 * i + 2) = poN N f i (21 + 5 * i + 2) := by rw [hN]
      have key := fun v5 v6 => ih (i + 1) v5 v6 (am_up I 108 (21 + 5 * i + 2) (f i (poN N f i (21 + 5 * i + 2)))) (by omega) (ch_tr hI (ch_up (P := fun r => r = 108) rfl) fun r q => q.elim id id) (by rw [up_row, hN]; rfl)
      have key2 : ∀ w v, w = f i (poN N f i (21 + 5 * i + 2)) → am_T am_C (193, 2, 85, [.ref 107, .int (nI q), .int (poC N f i), .int (nI i), v, .int w], []) (am_mk kt I J T n s) K := fun w v ew => by
        refine m_pour_s (by omega) hd fun v => ?_
        rw [ew]
        exact key _ _
      by_cases d : I0 127 (24 * q + i) = -1000000005
      · have d2 : ¬ ¬ I 127 (24 * nI q + nI i).toNatClampNeg = -1000000005 := by rw [ev]; exact fun z => z d
        have ew : poN N f i (21 + 5 * i + 2) = f i (poN N f i (21 + 5 * i + 2)) := by
          rw [hf]; unfold pof; rw [if_neg (fun z => z.2 d)]
        refine am_wq_T (cut := fun z pc => ((Nat.beq z 193 && Nat.beq pc 26) || (Nat.beq z 193 && Nat.beq pc 85))) (inl := fun z => !((Nat.beq z 123 || (Nat.beq z 121 || Nat.beq z 114)))) 120 _ _ _ ?_
        exact And.intro rfl (And.intro ⟨rfl, vq⟩ (And.intro (fun z => absurd z c1) (fun _ => And.intro rfl (And.intro ⟨rfl, vp1N⟩ (And.intro (fun z => absurd z c2) (fun _ => And.intro rfl (And.intro ⟨rfl, v1⟩ (And.intro (fun z => absurd z d2) (fun _ => And.intro rfl (m_ofV (N := I 108) (h := i) (w := 2) rfl rfl rfl (by omega) (by decide) hd (key2 _ _ ew)))))))))))
      · have d2 : ¬ I 127 (24 * nI q + nI i).toNatClampNeg = -1000000005 := by rw [ev]; exact d
        have ew : wth (I 127 (24 * nI q + nI i).toNatClampNeg) 0 99 = f i (poN N f i (21 + 5 * i + 2)) := by
          rw [ev, hf]; unfold pof; rw [if_pos ⟨by omega, d⟩]
        refine am_wq_T (cut := fun z pc => ((Nat.beq z 193 && Nat.beq pc 26) || (Nat.beq z 193 && Nat.beq pc 85))) (inl := fun z => !((Nat.beq z 123 || (Nat.beq z 121 || Nat.beq z 114)))) 120 _ _ _ ?_
        exact And.intro rfl (And.intro ⟨rfl, vq⟩ (And.intro (fun z => absurd z c1) (fun _ => And.intro rfl (And.intro ⟨rfl, vp1N⟩ (And.intro (fun z => absurd z c2) (fun _ => And.intro rfl (And.intro ⟨rfl, v1⟩ (And.intro (fun _ => m_withinV ew (key2 _ _ rfl)) (fun z => absurd d2 z)))))))))
theorem po_1 : ∀ i, poN N f i 1 = N 1
  | 0 => rfl
  | i + 1 => (upN_ne (by omega)).trans (po_1 i)
theorem L_pour (x : Int32) : sg_Call (93, 2, 0, [.ref 20, .int x, .null, .null, .null, .null, .null], []) (193, 2, 0, [.ref 107, .int x, .null, .null, .null, .null], []) := by
  intro L xs kt I J T n s K hS hK
  have h13 := hS.1.2.2.2.1
  obtain ⟨hc, wc, tc, hR, hB⟩ := hS.2.1
  have h10 := hR.1
  rcases rng x 0 3 with ⟨a0, a1⟩ | a0 | ⟨a0, a1⟩
  · obtain ⟨q, hq3, rfl⟩ := in_of (m := 3) (by decide) a0 a1
    have hq : q < 4 := by omega
    have v4 : vp_in (nI q) 4 := vpl hq (by decide)
    have cq : (nI q).toNatClampNeg = q := nI_clamp (by omega)
    have hnz : ¬ 79 + 2 * q = 0 := by omega
    obtain ⟨size, hz, s1, s2, s3, s4, s5⟩ := hS.2.2.2.2.1 q hq
    by_cases km : I 125 q = -1
    · have c1 : I (79 + 2 * q) 0 = -1 := s1.trans km
      have c2 : ¬ 0 ≤ I 125 (nI q).toNatClampNeg := by rw [cq, km]; decide
      have hM : sg_Mid L xs I n s (193, 2, 0, [.ref 107, .int (nI q), .null, .null, .null, .null], []) (-1000000011) kt I J T n s := by
        refine ⟨h13, rfl, ?_⟩
        refine am_wq_T (cut := fun z pc => (Nat.beq z 193 && Nat.beq pc 26)) (inl := fun z => !(Nat.beq z 189)) 120 _ _ _ ?_
        exact m_isSheet_y a0 a1 (And.intro (fun _ => And.intro rfl (And.intro ⟨rfl, v4⟩ (And.intro (fun z => absurd z c2) (fun _ => End_of rfl hS)))) (fun z => absurd m1z z))
      have key := hK _ _ _ _ _ _ _ hM
      refine am_wq_T (cut := fun z pc => (Nat.beq z 93 && Nat.beq pc 29)) (inl := fun z => !(Nat.beq z 110)) 120 _ _ _ ?_
      exact And.intro rfl (c_sheetAt_y hq a0 a1 (And.intro (fun z => absurd z hnz) (fun _ => And.intro (kS hq) (And.intro (fun z => absurd c1 z) (fun _ => key)))))
    · have c1 : ¬ I (79 + 2 * q) 0 = -1 := by rw [s1]; exact km
      have kp : 0 ≤ I 125 q := by rcases kind3 s2 with e | e | e; exact absurd e km; all_goals rw [e]; decide
      have key := c_pour_l (kt := kt) (J := J) (T := T) (n := n) (s := s) (K := K) (N := I 108) (S := I 127) (f := pof (I 127) q size) (hc := hc) (wc := wc) (tc := tc) hq hz (I0 := I) rfl s3 (fun k hk => (s5 k hk).1) (fun I1 x y => by
        have x13 : I1 13 = I 13 := x 13 (by omega)
        have x125 : I1 125 = I 125 := x 125 (by omega)
        have x126 : I1 126 = I 126 := x 126 (by omega)
        have x127 : I1 127 = I 127 := x 127 (by omega)
        have x108 : I1 108 = I 108 := x 108 (by omega)
        have c2 : 0 ≤ I1 125 (nI q).toNatClampNeg := by rw [cq, x125]; exact kp
        refine hK _ kt I1 J T n s ⟨h13, x13, ?_⟩
        have k2 := m_pour_l (kt := kt) (J := J) (T := T) (n := n) (s := s) (K := sg_End L xs n s (poC (I 108) (pof (I 127) q size) hc)) (N := I 108) (f := pof (I 127) q size) (size := size) hq hz h10 (I0 := I1) (by rw [x127]) (by rw [x126]; exact s4) (fun i => (po_1 i).trans hR.2.2.2.1) (fun I2 a b => End_of rfl (sim_land (fun r k _ p1 p2 => by rw [a r p2, x r (by omega)]) (fun _ _ => rfl) (by
          rw [b]
          refine ⟨hc, wc, tc, LR_cg (fun r k hr => by rw [a r (by omega)]) y, po_LB hR.2.1 (fun i d hd => ?_) hB hc (Nat.le_refl _)⟩
          unfold pof
          split
          · exact wth_in _
          · exact hd) hS)) hc 0
        refine am_wq_T (cut := fun z pc => (Nat.beq z 193 && Nat.beq pc 26)) (inl := fun z => !(Nat.beq z 189)) 120 _ _ _ ?_
        exact m_isSheet_y a0 a1 (And.intro (fun _ => And.intro rfl (And.intro ⟨rfl, v4⟩ (And.intro (fun _ => k2 _ _ I1 (by omega) ch_rfl x108) (fun z => absurd c2 z)))) (fun z => absurd m1z z))) hc 0
      refine am_wq_T (cut := fun z pc => (Nat.beq z 93 && Nat.beq pc 29)) (inl := fun z => !(Nat.beq z 110)) 120 _ _ _ ?_
      exact And.intro rfl (c_sheetAt_y hq a0 a1 (And.intro (fun z => absurd z hnz) (fun _ => And.intro (kS hq) (And.intro (fun _ => key _ _ I (by omega) ch_rfl hR) (fun z => absurd c1 z)))))
  all_goals
    have hM : sg_Mid L xs I n s (193, 2, 0, [.ref 107, .int x, .null, .null, .null, .null], []) (-1000000001) kt I J T n s := by
      refine ⟨h13, rfl, ?_⟩
      refine am_wq_T (cut := fun z pc => (Nat.beq z 193 && Nat.beq pc 26)) (inl := fun z => !(Nat.beq z 189)) 120 _ _ _ ?_
      first | exact m_isSheet_n0 a0 (And.intro (fun z => absurd rfl z) (fun _ => End_of rfl hS)) | exact m_isSheet_n1 a0 a1 (And.intro (fun z => absurd rfl z) (fun _ => End_of rfl hS))
    have key := hK _ _ _ _ _ _ _ hM
    refine am_wq_T (cut := fun z pc => (Nat.beq z 93 && Nat.beq pc 29)) (inl := fun z => !(Nat.beq z 110)) 120 _ _ _ ?_
    first | exact And.intro rfl (c_sheetAt_n0 a0 (And.intro (fun _ => key) (fun z => absurd rfl z))) | exact And.intro rfl (c_sheetAt_n1 a0 a1 (And.intro (fun _ => key) (fun z => absurd rfl z)))
end T79
