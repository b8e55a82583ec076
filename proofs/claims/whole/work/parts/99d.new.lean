/-! a text of the class comes to be -/
section T99d
variable {kt : Nat → Nat × Nat} {I I' I0 : Nat → Nat → Int32} {J J' : Nat → Nat → Int64} {T T' : Nat → Nat → Nat} {n s : Nat} {K : Option Value → am_M → Prop} {m x t c : Nat}
/-- one kind more -/
def kU (kt : Nat → Nat × Nat) (n : Nat) (x : Nat × Nat) : Nat → Nat × Nat := fun b => if b = n then x else kt b
theorem kU_eq {y : Nat × Nat} (hn : 134 ≤ n) : am_k (kU kt n y) n = y := by
  rw [kr_own hn]
  exact if_pos rfl
theorem kU_ne {r : Nat} {y : Nat × Nat} (h : r ≠ n) : am_k (kU kt n y) r = am_k kt r := by
  unfold am_k kU
  rw [if_neg h]
theorem k_new {y : Nat × Nat} (hn : 134 ≤ n) : (fun b => if b = n then y else am_k kt b) = am_k (kU kt n y) := by
  funext b
  by_cases h : b = n
  · rw [if_pos h, h, kU_eq hn]
  · rw [if_neg h, kU_ne h]
theorem nth_RO {a : Nat} (ha : 134 ≤ a) : am_nth [] am_RO a = [] := nth_none [] am_RO a (Nat.le_trans (by decide +kernel) ha)
theorem r_new (hn : 134 ≤ n) : am_row (am_r T) n (fun _ => 0) = am_r (am_row T n (fun _ => 0)) := by
  funext a k
  show (if a = n then 0 else am_r T a k) = am_od (if a = n then 0 else T a k) (am_nth none (am_nth [] am_RO a) k)
  by_cases h : a = n
  · rw [if_pos h, if_pos h, h, nth_RO hn]; rfl
  · rw [if_neg h, if_neg h]; rfl
theorem new_eq {y len : Nat} (hn : 134 ≤ n) : am_new (am_k kt, I, J, am_r T, n, s) y len = am_mk (kU kt n (y, len)) (am_row I n (fun _ => 0)) (am_row J n (fun _ => 0)) (am_row T n (fun _ => 0)) (n + 1) (s + len) := by
  show (_, _, _, _, _, _) = (_, _, _, _, _, _)
  rw [k_new hn, r_new hn]
theorem c_cpy17 (hk : am_k kt x = (20, m)) (hx : x ≠ 74) (hm : m < 96) (hK : K (some (.ref x)) (am_mk kt (am_row I x (va_cpy (I 74) (I x) 0 0 m)) J T n s)) : am_T am_C (218, 0, 17, [.ref 74, .int (nI m), .null], [.ref x]) (am_mk kt I J T n s) K := by
  have em : (if nI m < Int32.ofNat 96 then nI m else Int32.ofNat 96) = nI m := if_pos (nI_lt (b := 96) hm (by decide))
  have cm : (nI m).toNatClampNeg = m := nI_clamp (by omega)
  have k1 : (am_k kt x).1 = 20 := by rw [hk]
  have z0 : ¬ (0 : Int32) < 0 := by decide
  have zm : ¬ (if nI m < Int32.ofNat 96 then nI m else Int32.ofNat 96) < 0 := by rw [em]; exact nI_pos (by omega)
  have l1 : Int32.toNatClampNeg 0 + (if nI m < Int32.ofNat 96 then nI m else Int32.ofNat 96).toNatClampNeg ≤ 96 := by rw [em, cm]; show 0 + m ≤ 96; omega
  have l2 : Int32.toNatClampNeg 0 + (if nI m < Int32.ofNat 96 then nI m else Int32.ofNat 96).toNatClampNeg ≤ (am_k kt x).2 := by rw [em, cm, hk]; show 0 + m ≤ m; omega
  have kk : K (some (.ref x)) (am_mk kt (am_row I x (va_cpy (I 74) (I x) (Int32.toNatClampNeg 0) (Int32.toNatClampNeg 0) (if nI m < Int32.ofNat 96 then nI m else Int32.ofNat 96).toNatClampNeg)) J T n s) := by
    rw [em, cm]
    exact hK
  refine am_wq_T (cut := fun z pc => (Nat.beq z 218 && Nat.beq pc 17)) (inl := fun _ => false) 120 _ _ _ ?_
  exact And.intro rfl (And.intro ⟨rfl, k1, z0, z0, zm, l1, l2⟩ kk)
theorem c_copyOf (hn : 134 ≤ n) (hm : m < 96) (hK : ∀ I' J' T', (∀ r, r ≠ n → I' r = I r ∧ J' r = J r ∧ T' r = T r) → (∀ k, k < m → I' n k = I 74 k) → K (some (.ref n)) (am_mk (kU kt n (20, m)) I' J' T' (n + 1) (s + m))) : am_T am_C (218, 0, 0, [.ref 74, .int (nI m), .null], []) (am_mk kt I J T n s) K := by
  have c1 : ¬ nI m = Int32.ofNat 96 := fun z => by have := (nI_eq (b := 96) (by omega) (by decide)).mp z; omega
  have cm : (nI m).toNatClampNeg = m := nI_clamp (by omega)
  have z1 : ¬ nI m < 0 := nI_pos (by omega)
  have z2 : (nI m).toNatClampNeg ≤ 100000 := by rw [cm]; omega
  refine am_wq_T (cut := fun z pc => (Nat.beq z 218 && Nat.beq pc 17)) (inl := fun _ => false) 120 _ _ _ ?_
  refine And.intro rfl (And.intro (fun _ => And.intro ⟨z1, z2⟩ ?_) (fun z => absurd c1 z))
  show am_T am_C (218, 0, 17, [.ref 74, .int (nI m), .null], [.ref n]) (am_new (am_k kt, I, J, am_r T, n, s) 20 (nI m).toNatClampNeg) K
  rw [new_eq hn, cm]
  refine c_cpy17 (kU_eq hn) (by omega) hm (hK _ _ _ (fun r hr => ⟨?_, ?_, ?_⟩) (fun k hk => ?_))
  · rw [row_off hr, row_off hr]
  · exact funext fun _ => if_neg hr
  · exact funext fun _ => if_neg hr
  · rw [row_eq]
    show va_cpy _ _ 0 0 m k = _
    unfold va_cpy
    rw [if_pos (by omega), row_off (by omega), Nat.zero_add, Nat.sub_zero]
theorem c_tinit {k p : Int32} (hn : 134 ≤ n) (ht : 134 ≤ t) (htn : t < n) (hc : 20 ≤ c) (hm : m < 96) (hk : am_k kt t = (6, 4)) (hk2 : am_k kt c = (20, m)) (hK : ∀ I' J' T', (∀ r, r ≠ n → r ≠ t → I' r = I r ∧ T' r = T r) → (∀ r, r ≠ n → J' r = J r) → I' t 0 = k → I' t 1 = p → T' t 2 = c → T' t 3 = n → K none (am_mk (kU kt n (20, m)) I' J' T' (n + 1) (s + m))) : am_T am_C (57, 0, 0, [.ref t, .int k, .int p, .ref c], []) (am_mk kt I J T n s) K := by
  have t0 : ¬ t = 0 := by omega
  have k1 : (am_k kt c).1 = 20 := by rw [hk2]
  have e2 : Int32.ofNat (am_k kt c).2 = nI m := by rw [hk2]; rfl
  have cm : (nI m).toNatClampNeg = m := nI_clamp (by omega)
  have z1 : ¬ Int32.ofNat (am_k kt c).2 < 0 := by rw [e2]; exact nI_pos (by omega)
  have z2 : (Int32.ofNat (am_k kt c).2).toNatClampNeg ≤ 100000 := by rw [e2, cm]; omega
  have q2 : c = 0 ∨ 20 ≤ c := .inr hc
  refine am_wq_T (cut := fun z pc => (Nat.beq z 57 && Nat.beq pc 24)) (inl := fun _ => false) 120 _ _ _ ?_
  refine And.intro t0 (And.intro hk (And.intro hk (And.intro ⟨hk, q2⟩ (And.intro k1 (And.intro ⟨z1, z2⟩ ?_)))))
  show am_T am_C (57, 0, 24, [.ref t, .int k, .int p, .ref c], [.ref n, .ref t]) (am_new (am_k kt, am_up (am_up I t 0 k) t 1 p, J, am_up (am_r T) t 2 c, n, s) 20 (Int32.ofNat (am_k kt c).2).toNatClampNeg) K
  rw [rT_up (nth_RO ht), new_eq hn, e2, cm]
  have kk := hK (am_row (am_up (am_up I t 0 k) t 1 p) n (fun _ => 0)) (am_row J n (fun _ => 0)) (am_up (am_row (am_up T t 2 c) n (fun _ => 0)) t 3 n) (fun r h1 h2 => ⟨by rw [row_off h1, up_off h2, up_off h2], by
    rw [upT_off h2]
    exact funext fun _ => (if_neg h1).trans (if_neg fun z => h2 z.1)⟩) (fun r h1 => funext fun _ => if_neg h1) (by rw [row_off (by omega), up_ne (by omega), up_eq]) (by rw [row_off (by omega), up_eq]) (by
    rw [upT_ne (by omega)]
    exact (if_neg (by omega)).trans (upT_eq T t 2 c)) (upT_eq _ t 3 n)
  have kt1 : am_k (kU kt n (20, m)) t = (6, 4) := by rw [kU_ne (by omega)]; exact hk
  have q3 : n = 0 ∨ 20 ≤ n := .inr (by omega)
  have kk2 : K none (am_k (kU kt n (20, m)), am_row (am_up (am_up I t 0 k) t 1 p) n (fun _ => 0), am_row J n (fun _ => 0), am_up (am_r (am_row (am_up T t 2 c) n (fun _ => 0))) t 3 n, n + 1, s + m) := by
    rw [rT_up (nth_RO ht)]
    exact kk
  refine am_wq_T (cut := fun z pc => (Nat.beq z 57 && Nat.beq pc 24)) (inl := fun _ => false) 120 _ _ _ ?_
  exact And.intro ⟨kt1, q3⟩ kk2
/-- kinds with a text more -/
def kU3 (kt : Nat → Nat × Nat) (n m : Nat) : Nat → Nat × Nat := kU (kU (kU kt n (6, 4)) (n + 1) (20, m)) (n + 1 + 1) (20, m)
theorem c_mk73 {key : Nat} {p : Int32} (hn : 134 ≤ n) (hm : m < 96) (h5 : I 72 5 = nI key) (h6 : I 72 6 = p) (h10 : I 72 10 = nI m) (hK : ∀ I' J' T', (∀ r, r < n → I' r = I r ∧ J' r = J r ∧ T' r = T r) → I' n 0 = nI key → I' n 1 = p → T' n 2 = n + 1 → T' n 3 = n + 1 + 1 → (∀ k, k < m → I' (n + 1) k = I 74 k) → K (some (.ref n)) (am_mk (kU3 kt n m) I' J' T' (n + 1 + 1 + 1) (s + 4 + m + m))) : am_T am_C (42, 201, 73, [.ref 72], []) (am_mk kt I J T n s) K := by
  have goal2 : am_T am_C (42, 201, 76, [.ref 72], [.ref n]) (am_mk (kU kt n (6, 4)) (am_row I n (fun _ => 0)) (am_row J n (fun _ => 0)) (am_row T n (fun _ => 0)) (n + 1) (s + 4)) K := by
    obtain ⟨I1, e1⟩ : ∃ I1, I1 = am_row I n (fun _ => (0 : Int32)) := ⟨_, rfl⟩
    obtain ⟨J1, f1⟩ : ∃ J1, J1 = am_row J n (fun _ => (0 : Int64)) := ⟨_, rfl⟩
    obtain ⟨T1, g1⟩ : ∃ T1, T1 = am_row T n (fun _ => (0 : Nat)) := ⟨_, rfl⟩
    have o1 : ∀ r, r ≠ n → I1 r = I r ∧ J1 r = J r ∧ T1 r = T r := fun r hr => ⟨by rw [e1, row_off hr], by rw [f1]; exact funext fun _ => if_neg hr, by rw [g1]; exact funext fun _ => if_neg hr⟩
    rw [← e1, ← f1, ← g1]
    have i5 : I1 72 5 = nI key := by rw [(o1 72 (by omega)).1]; exact h5
    have i6 : I1 72 6 = p := by rw [(o1 72 (by omega)).1]; exact h6
    have i10 : I1 72 10 = nI m := by rw [(o1 72 (by omega)).1]; exact h10
    refine am_wq_T (cut := fun z pc => ((Nat.beq z 42 && Nat.beq pc 73) || (Nat.beq z 42 && Nat.beq pc 76))) (inl := fun z => !((Nat.beq z 218 || Nat.beq z 57))) 120 _ _ _ ?_
    refine And.intro rfl (And.intro rfl (And.intro rfl (And.intro rfl ?_)))
    show am_T am_C (218, 0, 0, [.ref 74, .int (I1 72 10), .null], []) (am_mk (kU kt n (6, 4)) I1 J1 T1 (n + 1) (s + 4)) _
    rw [i10]
    refine c_copyOf (by omega) hm fun I2 J2 T2 a1 a2 => ?_
    have kt2 : am_k (kU (kU kt n (6, 4)) (n + 1) (20, m)) n = (6, 4) := by rw [kU_ne (by omega), kU_eq hn]
    refine And.intro kt2 ?_
    show am_T am_C (57, 0, 0, [.ref n, .int (I1 72 5), .int (I1 72 6), .ref (n + 1)], []) (am_mk (kU (kU kt n (6, 4)) (n + 1) (20, m)) I2 J2 T2 (n + 1 + 1) (s + 4 + m)) _
    rw [i5, i6]
    refine c_tinit (m := m) (by omega) hn (by omega) (by omega) hm kt2 (kU_eq (by omega)) fun I3 J3 T3 b1 b2 b3 b4 b5 b6 => ?_
    refine hK I3 J3 T3 (fun r hr => ⟨?_, ?_, ?_⟩) b3 b4 b5 b6 (fun k hk => ?_)
    · rw [(b1 r (by omega) (by omega)).1, (a1 r (by omega)).1, (o1 r (by omega)).1]
    · rw [b2 r (by omega), (a1 r (by omega)).2.1, (o1 r (by omega)).2.1]
    · rw [(b1 r (by omega) (by omega)).2, (a1 r (by omega)).2.2, (o1 r (by omega)).2.2]
    · rw [(b1 (n + 1) (by omega) (by omega)).1, a2 k hk, (o1 74 (by omega)).1]
  rw [← new_eq hn] at goal2
  refine am_wq_T (cut := fun z pc => ((Nat.beq z 42 && Nat.beq pc 73) || (Nat.beq z 42 && Nat.beq pc 76))) (inl := fun z => !((Nat.beq z 218 || Nat.beq z 57))) 120 _ _ _ ?_
  exact goal2
end T99d
