/-! the law: its cases and its loop (printed by wip/gen/gen99j.py) -/
section T99j
variable {kt : Nat → Nat × Nat} {I : Nat → Nat → Int32} {J : Nat → Nat → Int64} {T : Nat → Nat → Nat} {n s : Nat} {L : Nat} {xs : Nat → Int32} {K : Option Value → am_M → Prop} {i : Nat}
theorem lawV {k : Nat} (hL : L ≤ 3072) (hi : i + 6 ≤ L) (hk : k < 6) (h : am_k kt 13 = (50, L)) : vp_in (nI i + nI k) (am_k kt 13).2 := by
  rw [h, nI_add]
  exact vpl (by show i + k < L; omega) (by show L < 2147483648; omega)
theorem lawK (h : kt 13 = (50, L)) : am_k kt 13 = (50, L) := by
  unfold am_k
  rw [h]
  rfl
theorem law_hole (hL : L ≤ 3072) (hi : i + 6 ≤ L) (hS : sg_Sim L xs kt I J T n) (hK : ∀ kt' I' J' T' n' s', sg_Sim L xs kt' I' J' T' n' → n' ≤ n + 3 → s' ≤ s + 200 → am_T am_C (220, 203, 1489, [.ref 13, .ref 20, .ref 107, .int (nI i)], []) (am_mk kt' I' J' T' n' s') K) : am_T am_C (220, 203, 220, [.ref 13, .ref 20, .ref 107, .int (nI i)], []) (am_mk kt I J T n s) K := by
  have k1 := lawK hS.1.2.2.2.1
  have ka : (am_k kt 13).1 = 50 := by rw [k1]
  have va : ∀ k, k < 6 → vp_in (nI i + nI k) (am_k kt 13).2 := fun k hk => lawV hL hi hk k1
  refine am_wq_T (cut := fun z pc => (Nat.beq z 220 && Nat.beq pc 1489)) (inl := fun z => !((Nat.beq z 62 || Nat.beq z 126))) 120 _ _ _ ?_
  refine And.intro ⟨ka, va 1 (by decide)⟩ (And.intro ⟨ka, va 2 (by decide)⟩ (And.intro ⟨ka, va 3 (by decide)⟩ (And.intro ⟨ka, va 4 (by decide)⟩ (And.intro rfl (L_hole (I 13 (nI i + 1).toNatClampNeg) (I 13 (nI i + 2).toNatClampNeg) (I 13 (nI i + 3).toNatClampNeg) (I 13 (nI i + 4).toNatClampNeg) L xs kt I J T n s _ hS (fun v kt1 I1 J1 T1 n1 s1 hM => ?_))))))
  obtain ⟨h1, h2, h3⟩ := hM
  have k2 := lawK h1
  have ka2 : (am_k kt1 13).1 = 50 := by rw [k2]
  have va2 : ∀ k, k < 6 → vp_in (nI i + nI k) (am_k kt1 13).2 := fun k hk => lawV hL hi hk k2
  rw [← h2] at h3
  refine And.intro ⟨ka2, va2 1 (by decide)⟩ (And.intro ⟨ka2, va2 2 (by decide)⟩ (And.intro ⟨ka2, va2 3 (by decide)⟩ (And.intro ⟨ka2, va2 4 (by decide)⟩ (And.intro rfl (am_T_mono h3 (fun v2 M2 hE => ?_))))))
  obtain ⟨kt2, I2, J2, T2, n2, s2, rfl, rfl, hS2, b1, b2⟩ := hE
  exact And.intro (fun _ => hK kt2 I2 J2 T2 n2 s2 hS2 b1 b2) (fun z => absurd rfl z)
theorem law_told (hL : L ≤ 3072) (hi : i + 6 ≤ L) (hS : sg_Sim L xs kt I J T n) (hK : ∀ kt' I' J' T' n' s', sg_Sim L xs kt' I' J' T' n' → n' ≤ n + 3 → s' ≤ s + 200 → am_T am_C (220, 203, 1489, [.ref 13, .ref 20, .ref 107, .int (nI i)], []) (am_mk kt' I' J' T' n' s') K) : am_T am_C (220, 203, 273, [.ref 13, .ref 20, .ref 107, .int (nI i)], []) (am_mk kt I J T n s) K := by
  have k1 := lawK hS.1.2.2.2.1
  have ka : (am_k kt 13).1 = 50 := by rw [k1]
  have va : ∀ k, k < 6 → vp_in (nI i + nI k) (am_k kt 13).2 := fun k hk => lawV hL hi hk k1
  refine am_wq_T (cut := fun z pc => (Nat.beq z 220 && Nat.beq pc 1489)) (inl := fun z => !((Nat.beq z 63 || Nat.beq z 128))) 120 _ _ _ ?_
  refine And.intro ⟨ka, va 1 (by decide)⟩ (And.intro ⟨ka, va 2 (by decide)⟩ (And.intro rfl (L_told (I 13 (nI i + 1).toNatClampNeg) (I 13 (nI i + 2).toNatClampNeg) L xs kt I J T n s _ hS (fun v kt1 I1 J1 T1 n1 s1 hM => ?_))))
  obtain ⟨h1, h2, h3⟩ := hM
  have k2 := lawK h1
  have ka2 : (am_k kt1 13).1 = 50 := by rw [k2]
  have va2 : ∀ k, k < 6 → vp_in (nI i + nI k) (am_k kt1 13).2 := fun k hk => lawV hL hi hk k2
  rw [← h2] at h3
  refine And.intro ⟨ka2, va2 1 (by decide)⟩ (And.intro ⟨ka2, va2 2 (by decide)⟩ (And.intro rfl (am_T_mono h3 (fun v2 M2 hE => ?_))))
  obtain ⟨kt2, I2, J2, T2, n2, s2, rfl, rfl, hS2, b1, b2⟩ := hE
  exact And.intro (fun _ => hK kt2 I2 J2 T2 n2 s2 hS2 b1 b2) (fun z => absurd rfl z)
theorem law_as (hL : L ≤ 3072) (hi : i + 6 ≤ L) (hS : sg_Sim L xs kt I J T n) (hK : ∀ kt' I' J' T' n' s', sg_Sim L xs kt' I' J' T' n' → n' ≤ n + 3 → s' ≤ s + 200 → am_T am_C (220, 203, 1489, [.ref 13, .ref 20, .ref 107, .int (nI i)], []) (am_mk kt' I' J' T' n' s') K) : am_T am_C (220, 203, 306, [.ref 13, .ref 20, .ref 107, .int (nI i)], []) (am_mk kt I J T n s) K := by
  have k1 := lawK hS.1.2.2.2.1
  have ka : (am_k kt 13).1 = 50 := by rw [k1]
  have va : ∀ k, k < 6 → vp_in (nI i + nI k) (am_k kt 13).2 := fun k hk => lawV hL hi hk k1
  refine am_wq_T (cut := fun z pc => (Nat.beq z 220 && Nat.beq pc 1489)) (inl := fun z => !((Nat.beq z 64 || Nat.beq z 130))) 120 _ _ _ ?_
  refine And.intro ⟨ka, va 1 (by decide)⟩ (And.intro ⟨ka, va 2 (by decide)⟩ (And.intro rfl (L_as (I 13 (nI i + 1).toNatClampNeg) (I 13 (nI i + 2).toNatClampNeg) L xs kt I J T n s _ hS (fun v kt1 I1 J1 T1 n1 s1 hM => ?_))))
  obtain ⟨h1, h2, h3⟩ := hM
  have k2 := lawK h1
  have ka2 : (am_k kt1 13).1 = 50 := by rw [k2]
  have va2 : ∀ k, k < 6 → vp_in (nI i + nI k) (am_k kt1 13).2 := fun k hk => lawV hL hi hk k2
  rw [← h2] at h3
  refine And.intro ⟨ka2, va2 1 (by decide)⟩ (And.intro ⟨ka2, va2 2 (by decide)⟩ (And.intro rfl (am_T_mono h3 (fun v2 M2 hE => ?_))))
  obtain ⟨kt2, I2, J2, T2, n2, s2, rfl, rfl, hS2, b1, b2⟩ := hE
  exact And.intro (fun _ => hK kt2 I2 J2 T2 n2 s2 hS2 b1 b2) (fun z => absurd rfl z)
theorem law_turns (hL : L ≤ 3072) (hi : i + 6 ≤ L) (hS : sg_Sim L xs kt I J T n) (hK : ∀ kt' I' J' T' n' s', sg_Sim L xs kt' I' J' T' n' → n' ≤ n + 3 → s' ≤ s + 200 → am_T am_C (220, 203, 1489, [.ref 13, .ref 20, .ref 107, .int (nI i)], []) (am_mk kt' I' J' T' n' s') K) : am_T am_C (220, 203, 339, [.ref 13, .ref 20, .ref 107, .int (nI i)], []) (am_mk kt I J T n s) K := by
  have k1 := lawK hS.1.2.2.2.1
  have ka : (am_k kt 13).1 = 50 := by rw [k1]
  have va : ∀ k, k < 6 → vp_in (nI i + nI k) (am_k kt 13).2 := fun k hk => lawV hL hi hk k1
  refine am_wq_T (cut := fun z pc => (Nat.beq z 220 && Nat.beq pc 1489)) (inl := fun z => !((Nat.beq z 65 || Nat.beq z 131))) 120 _ _ _ ?_
  refine And.intro ⟨ka, va 1 (by decide)⟩ (And.intro ⟨ka, va 2 (by decide)⟩ (And.intro rfl (L_turns (I 13 (nI i + 1).toNatClampNeg) (I 13 (nI i + 2).toNatClampNeg) L xs kt I J T n s _ hS (fun v kt1 I1 J1 T1 n1 s1 hM => ?_))))
  obtain ⟨h1, h2, h3⟩ := hM
  have k2 := lawK h1
  have ka2 : (am_k kt1 13).1 = 50 := by rw [k2]
  have va2 : ∀ k, k < 6 → vp_in (nI i + nI k) (am_k kt1 13).2 := fun k hk => lawV hL hi hk k2
  rw [← h2] at h3
  refine And.intro ⟨ka2, va2 1 (by decide)⟩ (And.intro ⟨ka2, va2 2 (by decide)⟩ (And.intro rfl (am_T_mono h3 (fun v2 M2 hE => ?_))))
  obtain ⟨kt2, I2, J2, T2, n2, s2, rfl, rfl, hS2, b1, b2⟩ := hE
  exact And.intro (fun _ => hK kt2 I2 J2 T2 n2 s2 hS2 b1 b2) (fun z => absurd rfl z)
theorem law_set (hL : L ≤ 3072) (hi : i + 6 ≤ L) (hS : sg_Sim L xs kt I J T n) (hK : ∀ kt' I' J' T' n' s', sg_Sim L xs kt' I' J' T' n' → n' ≤ n + 3 → s' ≤ s + 200 → am_T am_C (220, 203, 1489, [.ref 13, .ref 20, .ref 107, .int (nI i)], []) (am_mk kt' I' J' T' n' s') K) : am_T am_C (220, 203, 372, [.ref 13, .ref 20, .ref 107, .int (nI i)], []) (am_mk kt I J T n s) K := by
  have k1 := lawK hS.1.2.2.2.1
  have ka : (am_k kt 13).1 = 50 := by rw [k1]
  have va : ∀ k, k < 6 → vp_in (nI i + nI k) (am_k kt 13).2 := fun k hk => lawV hL hi hk k1
  refine am_wq_T (cut := fun z pc => (Nat.beq z 220 && Nat.beq pc 1489)) (inl := fun z => !((Nat.beq z 66 || Nat.beq z 132))) 120 _ _ _ ?_
  refine And.intro ⟨ka, va 1 (by decide)⟩ (And.intro ⟨ka, va 2 (by decide)⟩ (And.intro ⟨ka, va 3 (by decide)⟩ (And.intro rfl (L_set (I 13 (nI i + 1).toNatClampNeg) (I 13 (nI i + 2).toNatClampNeg) (I 13 (nI i + 3).toNatClampNeg) L xs kt I J T n s _ hS (fun v kt1 I1 J1 T1 n1 s1 hM => ?_)))))
  obtain ⟨h1, h2, h3⟩ := hM
  have k2 := lawK h1
  have ka2 : (am_k kt1 13).1 = 50 := by rw [k2]
  have va2 : ∀ k, k < 6 → vp_in (nI i + nI k) (am_k kt1 13).2 := fun k hk => lawV hL hi hk k2
  rw [← h2] at h3
  refine And.intro ⟨ka2, va2 1 (by decide)⟩ (And.intro ⟨ka2, va2 2 (by decide)⟩ (And.intro ⟨ka2, va2 3 (by decide)⟩ (And.intro rfl (am_T_mono h3 (fun v2 M2 hE => ?_)))))
  obtain ⟨kt2, I2, J2, T2, n2, s2, rfl, rfl, hS2, b1, b2⟩ := hE
  exact And.intro (fun _ => hK kt2 I2 J2 T2 n2 s2 hS2 b1 b2) (fun z => absurd rfl z)
theorem law_settles (hL : L ≤ 3072) (hi : i + 6 ≤ L) (hS : sg_Sim L xs kt I J T n) (hK : ∀ kt' I' J' T' n' s', sg_Sim L xs kt' I' J' T' n' → n' ≤ n + 3 → s' ≤ s + 200 → am_T am_C (220, 203, 1489, [.ref 13, .ref 20, .ref 107, .int (nI i)], []) (am_mk kt' I' J' T' n' s') K) : am_T am_C (220, 203, 415, [.ref 13, .ref 20, .ref 107, .int (nI i)], []) (am_mk kt I J T n s) K := by
  have k1 := lawK hS.1.2.2.2.1
  have ka : (am_k kt 13).1 = 50 := by rw [k1]
  have va : ∀ k, k < 6 → vp_in (nI i + nI k) (am_k kt 13).2 := fun k hk => lawV hL hi hk k1
  refine am_wq_T (cut := fun z pc => (Nat.beq z 220 && Nat.beq pc 1489)) (inl := fun z => !((Nat.beq z 67 || Nat.beq z 134))) 120 _ _ _ ?_
  refine And.intro ⟨ka, va 1 (by decide)⟩ (And.intro ⟨ka, va 2 (by decide)⟩ (And.intro rfl (L_settles (I 13 (nI i + 1).toNatClampNeg) (I 13 (nI i + 2).toNatClampNeg) L xs kt I J T n s _ hS (fun v kt1 I1 J1 T1 n1 s1 hM => ?_))))
  obtain ⟨h1, h2, h3⟩ := hM
  have k2 := lawK h1
  have ka2 : (am_k kt1 13).1 = 50 := by rw [k2]
  have va2 : ∀ k, k < 6 → vp_in (nI i + nI k) (am_k kt1 13).2 := fun k hk => lawV hL hi hk k2
  rw [← h2] at h3
  refine And.intro ⟨ka2, va2 1 (by decide)⟩ (And.intro ⟨ka2, va2 2 (by decide)⟩ (And.intro rfl (am_T_mono h3 (fun v2 M2 hE => ?_))))
  obtain ⟨kt2, I2, J2, T2, n2, s2, rfl, rfl, hS2, b1, b2⟩ := hE
  exact And.intro (fun _ => hK kt2 I2 J2 T2 n2 s2 hS2 b1 b2) (fun z => absurd rfl z)
theorem law_rule (hL : L ≤ 3072) (hi : i + 6 ≤ L) (hS : sg_Sim L xs kt I J T n) (hK : ∀ kt' I' J' T' n' s', sg_Sim L xs kt' I' J' T' n' → n' ≤ n + 3 → s' ≤ s + 200 → am_T am_C (220, 203, 1489, [.ref 13, .ref 20, .ref 107, .int (nI i)], []) (am_mk kt' I' J' T' n' s') K) : am_T am_C (220, 203, 448, [.ref 13, .ref 20, .ref 107, .int (nI i)], []) (am_mk kt I J T n s) K := by
  have k1 := lawK hS.1.2.2.2.1
  have ka : (am_k kt 13).1 = 50 := by rw [k1]
  have va : ∀ k, k < 6 → vp_in (nI i + nI k) (am_k kt 13).2 := fun k hk => lawV hL hi hk k1
  refine am_wq_T (cut := fun z pc => (Nat.beq z 220 && Nat.beq pc 1489)) (inl := fun z => !((Nat.beq z 68 || Nat.beq z 135))) 120 _ _ _ ?_
  refine And.intro ⟨ka, va 1 (by decide)⟩ (And.intro ⟨ka, va 2 (by decide)⟩ (And.intro rfl (L_rule (I 13 (nI i + 1).toNatClampNeg) (I 13 (nI i + 2).toNatClampNeg) L xs kt I J T n s _ hS (fun v kt1 I1 J1 T1 n1 s1 hM => ?_))))
  obtain ⟨h1, h2, h3⟩ := hM
  have k2 := lawK h1
  have ka2 : (am_k kt1 13).1 = 50 := by rw [k2]
  have va2 : ∀ k, k < 6 → vp_in (nI i + nI k) (am_k kt1 13).2 := fun k hk => lawV hL hi hk k2
  rw [← h2] at h3
  refine And.intro ⟨ka2, va2 1 (by decide)⟩ (And.intro ⟨ka2, va2 2 (by decide)⟩ (And.intro rfl (am_T_mono h3 (fun v2 M2 hE => ?_))))
  obtain ⟨kt2, I2, J2, T2, n2, s2, rfl, rfl, hS2, b1, b2⟩ := hE
  exact And.intro (fun _ => hK kt2 I2 J2 T2 n2 s2 hS2 b1 b2) (fun z => absurd rfl z)
theorem law_deal (hL : L ≤ 3072) (hi : i + 6 ≤ L) (hS : sg_Sim L xs kt I J T n) (hK : ∀ kt' I' J' T' n' s', sg_Sim L xs kt' I' J' T' n' → n' ≤ n + 3 → s' ≤ s + 200 → am_T am_C (220, 203, 1489, [.ref 13, .ref 20, .ref 107, .int (nI i)], []) (am_mk kt' I' J' T' n' s') K) : am_T am_C (220, 203, 481, [.ref 13, .ref 20, .ref 107, .int (nI i)], []) (am_mk kt I J T n s) K := by
  have k1 := lawK hS.1.2.2.2.1
  have ka : (am_k kt 13).1 = 50 := by rw [k1]
  have va : ∀ k, k < 6 → vp_in (nI i + nI k) (am_k kt 13).2 := fun k hk => lawV hL hi hk k1
  refine am_wq_T (cut := fun z pc => (Nat.beq z 220 && Nat.beq pc 1489)) (inl := fun z => !((Nat.beq z 69 || Nat.beq z 137))) 120 _ _ _ ?_
  refine And.intro ⟨ka, va 1 (by decide)⟩ (And.intro rfl (L_deal (I 13 (nI i + 1).toNatClampNeg) L xs kt I J T n s _ hS (fun v kt1 I1 J1 T1 n1 s1 hM => ?_)))
  obtain ⟨h1, h2, h3⟩ := hM
  have k2 := lawK h1
  have ka2 : (am_k kt1 13).1 = 50 := by rw [k2]
  have va2 : ∀ k, k < 6 → vp_in (nI i + nI k) (am_k kt1 13).2 := fun k hk => lawV hL hi hk k2
  rw [← h2] at h3
  refine And.intro ⟨ka2, va2 1 (by decide)⟩ (And.intro rfl (am_T_mono h3 (fun v2 M2 hE => ?_)))
  obtain ⟨kt2, I2, J2, T2, n2, s2, rfl, rfl, hS2, b1, b2⟩ := hE
  exact And.intro (fun _ => hK kt2 I2 J2 T2 n2 s2 hS2 b1 b2) (fun z => absurd rfl z)
theorem law_seed (hL : L ≤ 3072) (hi : i + 6 ≤ L) (hS : sg_Sim L xs kt I J T n) (hK : ∀ kt' I' J' T' n' s', sg_Sim L xs kt' I' J' T' n' → n' ≤ n + 3 → s' ≤ s + 200 → am_T am_C (220, 203, 1489, [.ref 13, .ref 20, .ref 107, .int (nI i)], []) (am_mk kt' I' J' T' n' s') K) : am_T am_C (220, 203, 504, [.ref 13, .ref 20, .ref 107, .int (nI i)], []) (am_mk kt I J T n s) K := by
  have k1 := lawK hS.1.2.2.2.1
  have ka : (am_k kt 13).1 = 50 := by rw [k1]
  have va : ∀ k, k < 6 → vp_in (nI i + nI k) (am_k kt 13).2 := fun k hk => lawV hL hi hk k1
  refine am_wq_T (cut := fun z pc => (Nat.beq z 220 && Nat.beq pc 1489)) (inl := fun z => !((Nat.beq z 70 || Nat.beq z 138))) 120 _ _ _ ?_
  refine And.intro ⟨ka, va 1 (by decide)⟩ (And.intro rfl (L_seed (I 13 (nI i + 1).toNatClampNeg) L xs kt I J T n s _ hS (fun v kt1 I1 J1 T1 n1 s1 hM => ?_)))
  obtain ⟨h1, h2, h3⟩ := hM
  have k2 := lawK h1
  have ka2 : (am_k kt1 13).1 = 50 := by rw [k2]
  have va2 : ∀ k, k < 6 → vp_in (nI i + nI k) (am_k kt1 13).2 := fun k hk => lawV hL hi hk k2
  rw [← h2] at h3
  refine And.intro ⟨ka2, va2 1 (by decide)⟩ (And.intro rfl (am_T_mono h3 (fun v2 M2 hE => ?_)))
  obtain ⟨kt2, I2, J2, T2, n2, s2, rfl, rfl, hS2, b1, b2⟩ := hE
  exact And.intro (fun _ => hK kt2 I2 J2 T2 n2 s2 hS2 b1 b2) (fun z => absurd rfl z)
theorem law_takes (hL : L ≤ 3072) (hi : i + 6 ≤ L) (hS : sg_Sim L xs kt I J T n) (hK : ∀ kt' I' J' T' n' s', sg_Sim L xs kt' I' J' T' n' → n' ≤ n + 3 → s' ≤ s + 200 → am_T am_C (220, 203, 1489, [.ref 13, .ref 20, .ref 107, .int (nI i)], []) (am_mk kt' I' J' T' n' s') K) : am_T am_C (220, 203, 527, [.ref 13, .ref 20, .ref 107, .int (nI i)], []) (am_mk kt I J T n s) K := by
  have k1 := lawK hS.1.2.2.2.1
  have ka : (am_k kt 13).1 = 50 := by rw [k1]
  have va : ∀ k, k < 6 → vp_in (nI i + nI k) (am_k kt 13).2 := fun k hk => lawV hL hi hk k1
  refine am_wq_T (cut := fun z pc => (Nat.beq z 220 && Nat.beq pc 1489)) (inl := fun z => !((Nat.beq z 71 || Nat.beq z 143))) 120 _ _ _ ?_
  refine And.intro ⟨ka, va 1 (by decide)⟩ (And.intro ⟨ka, va 2 (by decide)⟩ (And.intro rfl (L_takes (I 13 (nI i + 1).toNatClampNeg) (I 13 (nI i + 2).toNatClampNeg) L xs kt I J T n s _ hS (fun v kt1 I1 J1 T1 n1 s1 hM => ?_))))
  obtain ⟨h1, h2, h3⟩ := hM
  have k2 := lawK h1
  have ka2 : (am_k kt1 13).1 = 50 := by rw [k2]
  have va2 : ∀ k, k < 6 → vp_in (nI i + nI k) (am_k kt1 13).2 := fun k hk => lawV hL hi hk k2
  rw [← h2] at h3
  refine And.intro ⟨ka2, va2 1 (by decide)⟩ (And.intro ⟨ka2, va2 2 (by decide)⟩ (And.intro rfl (am_T_mono h3 (fun v2 M2 hE => ?_))))
  obtain ⟨kt2, I2, J2, T2, n2, s2, rfl, rfl, hS2, b1, b2⟩ := hE
  exact And.intro (fun _ => hK kt2 I2 J2 T2 n2 s2 hS2 b1 b2) (fun z => absurd rfl z)
theorem law_dig (hL : L ≤ 3072) (hi : i + 6 ≤ L) (hS : sg_Sim L xs kt I J T n) (hK : ∀ kt' I' J' T' n' s', sg_Sim L xs kt' I' J' T' n' → n' ≤ n + 3 → s' ≤ s + 200 → am_T am_C (220, 203, 1489, [.ref 13, .ref 20, .ref 107, .int (nI i)], []) (am_mk kt' I' J' T' n' s') K) : am_T am_C (220, 203, 560, [.ref 13, .ref 20, .ref 107, .int (nI i)], []) (am_mk kt I J T n s) K := by
  have k1 := lawK hS.1.2.2.2.1
  have ka : (am_k kt 13).1 = 50 := by rw [k1]
  have va : ∀ k, k < 6 → vp_in (nI i + nI k) (am_k kt 13).2 := fun k hk => lawV hL hi hk k1
  refine am_wq_T (cut := fun z pc => (Nat.beq z 220 && Nat.beq pc 1489)) (inl := fun z => !((Nat.beq z 72 || Nat.beq z 144))) 120 _ _ _ ?_
  refine And.intro ⟨ka, va 1 (by decide)⟩ (And.intro ⟨ka, va 2 (by decide)⟩ (And.intro ⟨ka, va 3 (by decide)⟩ (And.intro ⟨ka, va 4 (by decide)⟩ (And.intro rfl (L_dig (I 13 (nI i + 1).toNatClampNeg) (I 13 (nI i + 2).toNatClampNeg) (I 13 (nI i + 3).toNatClampNeg) (I 13 (nI i + 4).toNatClampNeg) L xs kt I J T n s _ hS (fun v kt1 I1 J1 T1 n1 s1 hM => ?_))))))
  obtain ⟨h1, h2, h3⟩ := hM
  have k2 := lawK h1
  have ka2 : (am_k kt1 13).1 = 50 := by rw [k2]
  have va2 : ∀ k, k < 6 → vp_in (nI i + nI k) (am_k kt1 13).2 := fun k hk => lawV hL hi hk k2
  rw [← h2] at h3
  refine And.intro ⟨ka2, va2 1 (by decide)⟩ (And.intro ⟨ka2, va2 2 (by decide)⟩ (And.intro ⟨ka2, va2 3 (by decide)⟩ (And.intro ⟨ka2, va2 4 (by decide)⟩ (And.intro rfl (am_T_mono h3 (fun v2 M2 hE => ?_))))))
  obtain ⟨kt2, I2, J2, T2, n2, s2, rfl, rfl, hS2, b1, b2⟩ := hE
  exact And.intro (fun _ => hK kt2 I2 J2 T2 n2 s2 hS2 b1 b2) (fun z => absurd rfl z)
theorem law_want (hL : L ≤ 3072) (hi : i + 6 ≤ L) (hS : sg_Sim L xs kt I J T n) (hK : ∀ kt' I' J' T' n' s', sg_Sim L xs kt' I' J' T' n' → n' ≤ n + 3 → s' ≤ s + 200 → am_T am_C (220, 203, 1489, [.ref 13, .ref 20, .ref 107, .int (nI i)], []) (am_mk kt' I' J' T' n' s') K) : am_T am_C (220, 203, 613, [.ref 13, .ref 20, .ref 107, .int (nI i)], []) (am_mk kt I J T n s) K := by
  have k1 := lawK hS.1.2.2.2.1
  have ka : (am_k kt 13).1 = 50 := by rw [k1]
  have va : ∀ k, k < 6 → vp_in (nI i + nI k) (am_k kt 13).2 := fun k hk => lawV hL hi hk k1
  refine am_wq_T (cut := fun z pc => (Nat.beq z 220 && Nat.beq pc 1489)) (inl := fun z => !((Nat.beq z 73 || Nat.beq z 145))) 120 _ _ _ ?_
  refine And.intro ⟨ka, va 1 (by decide)⟩ (And.intro ⟨ka, va 2 (by decide)⟩ (And.intro rfl (L_want (I 13 (nI i + 1).toNatClampNeg) (I 13 (nI i + 2).toNatClampNeg) L xs kt I J T n s _ hS (fun v kt1 I1 J1 T1 n1 s1 hM => ?_))))
  obtain ⟨h1, h2, h3⟩ := hM
  have k2 := lawK h1
  have ka2 : (am_k kt1 13).1 = 50 := by rw [k2]
  have va2 : ∀ k, k < 6 → vp_in (nI i + nI k) (am_k kt1 13).2 := fun k hk => lawV hL hi hk k2
  rw [← h2] at h3
  refine And.intro ⟨ka2, va2 1 (by decide)⟩ (And.intro ⟨ka2, va2 2 (by decide)⟩ (And.intro rfl (am_T_mono h3 (fun v2 M2 hE => ?_))))
  obtain ⟨kt2, I2, J2, T2, n2, s2, rfl, rfl, hS2, b1, b2⟩ := hE
  exact And.intro (fun _ => hK kt2 I2 J2 T2 n2 s2 hS2 b1 b2) (fun z => absurd rfl z)
theorem law_forget (hL : L ≤ 3072) (hi : i + 6 ≤ L) (hS : sg_Sim L xs kt I J T n) (hK : ∀ kt' I' J' T' n' s', sg_Sim L xs kt' I' J' T' n' → n' ≤ n + 3 → s' ≤ s + 200 → am_T am_C (220, 203, 1489, [.ref 13, .ref 20, .ref 107, .int (nI i)], []) (am_mk kt' I' J' T' n' s') K) : am_T am_C (220, 203, 646, [.ref 13, .ref 20, .ref 107, .int (nI i)], []) (am_mk kt I J T n s) K := by
  have k1 := lawK hS.1.2.2.2.1
  have ka : (am_k kt 13).1 = 50 := by rw [k1]
  have va : ∀ k, k < 6 → vp_in (nI i + nI k) (am_k kt 13).2 := fun k hk => lawV hL hi hk k1
  refine am_wq_T (cut := fun z pc => (Nat.beq z 220 && Nat.beq pc 1489)) (inl := fun z => !((Nat.beq z 74 || Nat.beq z 146))) 120 _ _ _ ?_
  refine And.intro rfl (L_forget  L xs kt I J T n s _ hS (fun v kt1 I1 J1 T1 n1 s1 hM => ?_))
  obtain ⟨h1, h2, h3⟩ := hM
  have k2 := lawK h1
  have ka2 : (am_k kt1 13).1 = 50 := by rw [k2]
  have va2 : ∀ k, k < 6 → vp_in (nI i + nI k) (am_k kt1 13).2 := fun k hk => lawV hL hi hk k2
  refine And.intro rfl (am_T_mono h3 (fun v2 M2 hE => ?_))
  obtain ⟨kt2, I2, J2, T2, n2, s2, rfl, rfl, hS2, b1, b2⟩ := hE
  exact And.intro (fun _ => hK kt2 I2 J2 T2 n2 s2 hS2 b1 b2) (fun z => absurd rfl z)
theorem law_dealing (hL : L ≤ 3072) (hi : i + 6 ≤ L) (hS : sg_Sim L xs kt I J T n) (hK : ∀ kt' I' J' T' n' s', sg_Sim L xs kt' I' J' T' n' → n' ≤ n + 3 → s' ≤ s + 200 → am_T am_C (220, 203, 1489, [.ref 13, .ref 20, .ref 107, .int (nI i)], []) (am_mk kt' I' J' T' n' s') K) : am_T am_C (220, 203, 659, [.ref 13, .ref 20, .ref 107, .int (nI i)], []) (am_mk kt I J T n s) K := by
  have k1 := lawK hS.1.2.2.2.1
  have ka : (am_k kt 13).1 = 50 := by rw [k1]
  have va : ∀ k, k < 6 → vp_in (nI i + nI k) (am_k kt 13).2 := fun k hk => lawV hL hi hk k1
  refine am_wq_T (cut := fun z pc => (Nat.beq z 220 && Nat.beq pc 1489)) (inl := fun z => !((Nat.beq z 75 || Nat.beq z 152))) 120 _ _ _ ?_
  refine And.intro ⟨ka, va 1 (by decide)⟩ (And.intro rfl (L_dealing (I 13 (nI i + 1).toNatClampNeg) L xs kt I J T n s _ hS (fun v kt1 I1 J1 T1 n1 s1 hM => ?_)))
  obtain ⟨h1, h2, h3⟩ := hM
  have k2 := lawK h1
  have ka2 : (am_k kt1 13).1 = 50 := by rw [k2]
  have va2 : ∀ k, k < 6 → vp_in (nI i + nI k) (am_k kt1 13).2 := fun k hk => lawV hL hi hk k2
  rw [← h2] at h3
  refine And.intro ⟨ka2, va2 1 (by decide)⟩ (And.intro rfl (am_T_mono h3 (fun v2 M2 hE => ?_)))
  obtain ⟨kt2, I2, J2, T2, n2, s2, rfl, rfl, hS2, b1, b2⟩ := hE
  exact And.intro (fun _ => hK kt2 I2 J2 T2 n2 s2 hS2 b1 b2) (fun z => absurd rfl z)
theorem law_adds (hL : L ≤ 3072) (hi : i + 6 ≤ L) (hS : sg_Sim L xs kt I J T n) (hK : ∀ kt' I' J' T' n' s', sg_Sim L xs kt' I' J' T' n' → n' ≤ n + 3 → s' ≤ s + 200 → am_T am_C (220, 203, 1489, [.ref 13, .ref 20, .ref 107, .int (nI i)], []) (am_mk kt' I' J' T' n' s') K) : am_T am_C (220, 203, 682, [.ref 13, .ref 20, .ref 107, .int (nI i)], []) (am_mk kt I J T n s) K := by
  have k1 := lawK hS.1.2.2.2.1
  have ka : (am_k kt 13).1 = 50 := by rw [k1]
  have va : ∀ k, k < 6 → vp_in (nI i + nI k) (am_k kt 13).2 := fun k hk => lawV hL hi hk k1
  refine am_wq_T (cut := fun z pc => (Nat.beq z 220 && Nat.beq pc 1489)) (inl := fun z => !((Nat.beq z 76 || Nat.beq z 153))) 120 _ _ _ ?_
  refine And.intro ⟨ka, va 1 (by decide)⟩ (And.intro rfl (L_adds (I 13 (nI i + 1).toNatClampNeg) L xs kt I J T n s _ hS (fun v kt1 I1 J1 T1 n1 s1 hM => ?_)))
  obtain ⟨h1, h2, h3⟩ := hM
  have k2 := lawK h1
  have ka2 : (am_k kt1 13).1 = 50 := by rw [k2]
  have va2 : ∀ k, k < 6 → vp_in (nI i + nI k) (am_k kt1 13).2 := fun k hk => lawV hL hi hk k2
  rw [← h2] at h3
  refine And.intro ⟨ka2, va2 1 (by decide)⟩ (And.intro rfl (am_T_mono h3 (fun v2 M2 hE => ?_)))
  obtain ⟨kt2, I2, J2, T2, n2, s2, rfl, rfl, hS2, b1, b2⟩ := hE
  exact And.intro (fun _ => hK kt2 I2 J2 T2 n2 s2 hS2 b1 b2) (fun z => absurd rfl z)
theorem law_frees (hL : L ≤ 3072) (hi : i + 6 ≤ L) (hS : sg_Sim L xs kt I J T n) (hK : ∀ kt' I' J' T' n' s', sg_Sim L xs kt' I' J' T' n' → n' ≤ n + 3 → s' ≤ s + 200 → am_T am_C (220, 203, 1489, [.ref 13, .ref 20, .ref 107, .int (nI i)], []) (am_mk kt' I' J' T' n' s') K) : am_T am_C (220, 203, 705, [.ref 13, .ref 20, .ref 107, .int (nI i)], []) (am_mk kt I J T n s) K := by
  have k1 := lawK hS.1.2.2.2.1
  have ka : (am_k kt 13).1 = 50 := by rw [k1]
  have va : ∀ k, k < 6 → vp_in (nI i + nI k) (am_k kt 13).2 := fun k hk => lawV hL hi hk k1
  refine am_wq_T (cut := fun z pc => (Nat.beq z 220 && Nat.beq pc 1489)) (inl := fun z => !((Nat.beq z 77 || Nat.beq z 154))) 120 _ _ _ ?_
  refine And.intro ⟨ka, va 1 (by decide)⟩ (And.intro rfl (L_frees (I 13 (nI i + 1).toNatClampNeg) L xs kt I J T n s _ hS (fun v kt1 I1 J1 T1 n1 s1 hM => ?_)))
  obtain ⟨h1, h2, h3⟩ := hM
  have k2 := lawK h1
  have ka2 : (am_k kt1 13).1 = 50 := by rw [k2]
  have va2 : ∀ k, k < 6 → vp_in (nI i + nI k) (am_k kt1 13).2 := fun k hk => lawV hL hi hk k2
  rw [← h2] at h3
  refine And.intro ⟨ka2, va2 1 (by decide)⟩ (And.intro rfl (am_T_mono h3 (fun v2 M2 hE => ?_)))
  obtain ⟨kt2, I2, J2, T2, n2, s2, rfl, rfl, hS2, b1, b2⟩ := hE
  exact And.intro (fun _ => hK kt2 I2 J2 T2 n2 s2 hS2 b1 b2) (fun z => absurd rfl z)
theorem law_days (hL : L ≤ 3072) (hi : i + 6 ≤ L) (hS : sg_Sim L xs kt I J T n) (hK : ∀ kt' I' J' T' n' s', sg_Sim L xs kt' I' J' T' n' → n' ≤ n + 3 → s' ≤ s + 200 → am_T am_C (220, 203, 1489, [.ref 13, .ref 20, .ref 107, .int (nI i)], []) (am_mk kt' I' J' T' n' s') K) : am_T am_C (220, 203, 728, [.ref 13, .ref 20, .ref 107, .int (nI i)], []) (am_mk kt I J T n s) K := by
  have k1 := lawK hS.1.2.2.2.1
  have ka : (am_k kt 13).1 = 50 := by rw [k1]
  have va : ∀ k, k < 6 → vp_in (nI i + nI k) (am_k kt 13).2 := fun k hk => lawV hL hi hk k1
  refine am_wq_T (cut := fun z pc => (Nat.beq z 220 && Nat.beq pc 1489)) (inl := fun z => !((Nat.beq z 78 || Nat.beq z 159))) 120 _ _ _ ?_
  refine And.intro ⟨ka, va 1 (by decide)⟩ (And.intro rfl (L_days (I 13 (nI i + 1).toNatClampNeg) L xs kt I J T n s _ hS (fun v kt1 I1 J1 T1 n1 s1 hM => ?_)))
  obtain ⟨h1, h2, h3⟩ := hM
  have k2 := lawK h1
  have ka2 : (am_k kt1 13).1 = 50 := by rw [k2]
  have va2 : ∀ k, k < 6 → vp_in (nI i + nI k) (am_k kt1 13).2 := fun k hk => lawV hL hi hk k2
  rw [← h2] at h3
  refine And.intro ⟨ka2, va2 1 (by decide)⟩ (And.intro rfl (am_T_mono h3 (fun v2 M2 hE => ?_)))
  obtain ⟨kt2, I2, J2, T2, n2, s2, rfl, rfl, hS2, b1, b2⟩ := hE
  exact And.intro (fun _ => hK kt2 I2 J2 T2 n2 s2 hS2 b1 b2) (fun z => absurd rfl z)
theorem law_behind (hL : L ≤ 3072) (hi : i + 6 ≤ L) (hS : sg_Sim L xs kt I J T n) (hK : ∀ kt' I' J' T' n' s', sg_Sim L xs kt' I' J' T' n' → n' ≤ n + 3 → s' ≤ s + 200 → am_T am_C (220, 203, 1489, [.ref 13, .ref 20, .ref 107, .int (nI i)], []) (am_mk kt' I' J' T' n' s') K) : am_T am_C (220, 203, 751, [.ref 13, .ref 20, .ref 107, .int (nI i)], []) (am_mk kt I J T n s) K := by
  have k1 := lawK hS.1.2.2.2.1
  have ka : (am_k kt 13).1 = 50 := by rw [k1]
  have va : ∀ k, k < 6 → vp_in (nI i + nI k) (am_k kt 13).2 := fun k hk => lawV hL hi hk k1
  refine am_wq_T (cut := fun z pc => (Nat.beq z 220 && Nat.beq pc 1489)) (inl := fun z => !((Nat.beq z 79 || Nat.beq z 162))) 120 _ _ _ ?_
  refine And.intro ⟨ka, va 1 (by decide)⟩ (And.intro ⟨ka, va 2 (by decide)⟩ (And.intro rfl (L_behind (I 13 (nI i + 1).toNatClampNeg) (I 13 (nI i + 2).toNatClampNeg) L xs kt I J T n s _ hS (fun v kt1 I1 J1 T1 n1 s1 hM => ?_))))
  obtain ⟨h1, h2, h3⟩ := hM
  have k2 := lawK h1
  have ka2 : (am_k kt1 13).1 = 50 := by rw [k2]
  have va2 : ∀ k, k < 6 → vp_in (nI i + nI k) (am_k kt1 13).2 := fun k hk => lawV hL hi hk k2
  rw [← h2] at h3
  refine And.intro ⟨ka2, va2 1 (by decide)⟩ (And.intro ⟨ka2, va2 2 (by decide)⟩ (And.intro rfl (am_T_mono h3 (fun v2 M2 hE => ?_))))
  obtain ⟨kt2, I2, J2, T2, n2, s2, rfl, rfl, hS2, b1, b2⟩ := hE
  exact And.intro (fun _ => hK kt2 I2 J2 T2 n2 s2 hS2 b1 b2) (fun z => absurd rfl z)
theorem law_paid (hL : L ≤ 3072) (hi : i + 6 ≤ L) (hS : sg_Sim L xs kt I J T n) (hK : ∀ kt' I' J' T' n' s', sg_Sim L xs kt' I' J' T' n' → n' ≤ n + 3 → s' ≤ s + 200 → am_T am_C (220, 203, 1489, [.ref 13, .ref 20, .ref 107, .int (nI i)], []) (am_mk kt' I' J' T' n' s') K) : am_T am_C (220, 203, 784, [.ref 13, .ref 20, .ref 107, .int (nI i)], []) (am_mk kt I J T n s) K := by
  have k1 := lawK hS.1.2.2.2.1
  have ka : (am_k kt 13).1 = 50 := by rw [k1]
  have va : ∀ k, k < 6 → vp_in (nI i + nI k) (am_k kt 13).2 := fun k hk => lawV hL hi hk k1
  refine am_wq_T (cut := fun z pc => (Nat.beq z 220 && Nat.beq pc 1489)) (inl := fun z => !((Nat.beq z 80 || Nat.beq z 163))) 120 _ _ _ ?_
  refine And.intro rfl (L_paid  L xs kt I J T n s _ hS (fun v kt1 I1 J1 T1 n1 s1 hM => ?_))
  obtain ⟨h1, h2, h3⟩ := hM
  have k2 := lawK h1
  have ka2 : (am_k kt1 13).1 = 50 := by rw [k2]
  have va2 : ∀ k, k < 6 → vp_in (nI i + nI k) (am_k kt1 13).2 := fun k hk => lawV hL hi hk k2
  refine And.intro rfl (am_T_mono h3 (fun v2 M2 hE => ?_))
  obtain ⟨kt2, I2, J2, T2, n2, s2, rfl, rfl, hS2, b1, b2⟩ := hE
  exact And.intro (fun _ => hK kt2 I2 J2 T2 n2 s2 hS2 b1 b2) (fun z => absurd rfl z)
theorem law_best (hL : L ≤ 3072) (hi : i + 6 ≤ L) (hS : sg_Sim L xs kt I J T n) (hK : ∀ kt' I' J' T' n' s', sg_Sim L xs kt' I' J' T' n' → n' ≤ n + 3 → s' ≤ s + 200 → am_T am_C (220, 203, 1489, [.ref 13, .ref 20, .ref 107, .int (nI i)], []) (am_mk kt' I' J' T' n' s') K) : am_T am_C (220, 203, 797, [.ref 13, .ref 20, .ref 107, .int (nI i)], []) (am_mk kt I J T n s) K := by
  have k1 := lawK hS.1.2.2.2.1
  have ka : (am_k kt 13).1 = 50 := by rw [k1]
  have va : ∀ k, k < 6 → vp_in (nI i + nI k) (am_k kt 13).2 := fun k hk => lawV hL hi hk k1
  refine am_wq_T (cut := fun z pc => (Nat.beq z 220 && Nat.beq pc 1489)) (inl := fun z => !((Nat.beq z 81 || Nat.beq z 164))) 120 _ _ _ ?_
  refine And.intro ⟨ka, va 1 (by decide)⟩ (And.intro ⟨ka, va 2 (by decide)⟩ (And.intro rfl (L_best (I 13 (nI i + 1).toNatClampNeg) (I 13 (nI i + 2).toNatClampNeg) L xs kt I J T n s _ hS (fun v kt1 I1 J1 T1 n1 s1 hM => ?_))))
  obtain ⟨h1, h2, h3⟩ := hM
  have k2 := lawK h1
  have ka2 : (am_k kt1 13).1 = 50 := by rw [k2]
  have va2 : ∀ k, k < 6 → vp_in (nI i + nI k) (am_k kt1 13).2 := fun k hk => lawV hL hi hk k2
  rw [← h2] at h3
  refine And.intro ⟨ka2, va2 1 (by decide)⟩ (And.intro ⟨ka2, va2 2 (by decide)⟩ (And.intro rfl (am_T_mono h3 (fun v2 M2 hE => ?_))))
  obtain ⟨kt2, I2, J2, T2, n2, s2, rfl, rfl, hS2, b1, b2⟩ := hE
  exact And.intro (fun _ => hK kt2 I2 J2 T2 n2 s2 hS2 b1 b2) (fun z => absurd rfl z)
theorem law_owes (hL : L ≤ 3072) (hi : i + 6 ≤ L) (hS : sg_Sim L xs kt I J T n) (hK : ∀ kt' I' J' T' n' s', sg_Sim L xs kt' I' J' T' n' → n' ≤ n + 3 → s' ≤ s + 200 → am_T am_C (220, 203, 1489, [.ref 13, .ref 20, .ref 107, .int (nI i)], []) (am_mk kt' I' J' T' n' s') K) : am_T am_C (220, 203, 830, [.ref 13, .ref 20, .ref 107, .int (nI i)], []) (am_mk kt I J T n s) K := by
  have k1 := lawK hS.1.2.2.2.1
  have ka : (am_k kt 13).1 = 50 := by rw [k1]
  have va : ∀ k, k < 6 → vp_in (nI i + nI k) (am_k kt 13).2 := fun k hk => lawV hL hi hk k1
  refine am_wq_T (cut := fun z pc => (Nat.beq z 220 && Nat.beq pc 1489)) (inl := fun z => !((Nat.beq z 82 || Nat.beq z 166))) 120 _ _ _ ?_
  refine And.intro ⟨ka, va 1 (by decide)⟩ (And.intro rfl (L_owes (I 13 (nI i + 1).toNatClampNeg) L xs kt I J T n s _ hS (fun v kt1 I1 J1 T1 n1 s1 hM => ?_)))
  obtain ⟨h1, h2, h3⟩ := hM
  have k2 := lawK h1
  have ka2 : (am_k kt1 13).1 = 50 := by rw [k2]
  have va2 : ∀ k, k < 6 → vp_in (nI i + nI k) (am_k kt1 13).2 := fun k hk => lawV hL hi hk k2
  rw [← h2] at h3
  refine And.intro ⟨ka2, va2 1 (by decide)⟩ (And.intro rfl (am_T_mono h3 (fun v2 M2 hE => ?_)))
  obtain ⟨kt2, I2, J2, T2, n2, s2, rfl, rfl, hS2, b1, b2⟩ := hE
  exact And.intro (fun _ => hK kt2 I2 J2 T2 n2 s2 hS2 b1 b2) (fun z => absurd rfl z)
theorem law_debtor (hL : L ≤ 3072) (hi : i + 6 ≤ L) (hS : sg_Sim L xs kt I J T n) (hK : ∀ kt' I' J' T' n' s', sg_Sim L xs kt' I' J' T' n' → n' ≤ n + 3 → s' ≤ s + 200 → am_T am_C (220, 203, 1489, [.ref 13, .ref 20, .ref 107, .int (nI i)], []) (am_mk kt' I' J' T' n' s') K) : am_T am_C (220, 203, 853, [.ref 13, .ref 20, .ref 107, .int (nI i)], []) (am_mk kt I J T n s) K := by
  have k1 := lawK hS.1.2.2.2.1
  have ka : (am_k kt 13).1 = 50 := by rw [k1]
  have va : ∀ k, k < 6 → vp_in (nI i + nI k) (am_k kt 13).2 := fun k hk => lawV hL hi hk k1
  refine am_wq_T (cut := fun z pc => (Nat.beq z 220 && Nat.beq pc 1489)) (inl := fun z => !((Nat.beq z 83 || Nat.beq z 167))) 120 _ _ _ ?_
  refine And.intro rfl (L_debtor  L xs kt I J T n s _ hS (fun v kt1 I1 J1 T1 n1 s1 hM => ?_))
  obtain ⟨h1, h2, h3⟩ := hM
  have k2 := lawK h1
  have ka2 : (am_k kt1 13).1 = 50 := by rw [k2]
  have va2 : ∀ k, k < 6 → vp_in (nI i + nI k) (am_k kt1 13).2 := fun k hk => lawV hL hi hk k2
  refine And.intro rfl (am_T_mono h3 (fun v2 M2 hE => ?_))
  obtain ⟨kt2, I2, J2, T2, n2, s2, rfl, rfl, hS2, b1, b2⟩ := hE
  exact And.intro (fun _ => hK kt2 I2 J2 T2 n2 s2 hS2 b1 b2) (fun z => absurd rfl z)
theorem law_dug (hL : L ≤ 3072) (hi : i + 6 ≤ L) (hS : sg_Sim L xs kt I J T n) (hK : ∀ kt' I' J' T' n' s', sg_Sim L xs kt' I' J' T' n' → n' ≤ n + 3 → s' ≤ s + 200 → am_T am_C (220, 203, 1489, [.ref 13, .ref 20, .ref 107, .int (nI i)], []) (am_mk kt' I' J' T' n' s') K) : am_T am_C (220, 203, 866, [.ref 13, .ref 20, .ref 107, .int (nI i)], []) (am_mk kt I J T n s) K := by
  have k1 := lawK hS.1.2.2.2.1
  have ka : (am_k kt 13).1 = 50 := by rw [k1]
  have va : ∀ k, k < 6 → vp_in (nI i + nI k) (am_k kt 13).2 := fun k hk => lawV hL hi hk k1
  refine am_wq_T (cut := fun z pc => (Nat.beq z 220 && Nat.beq pc 1489)) (inl := fun z => !((Nat.beq z 84 || Nat.beq z 168))) 120 _ _ _ ?_
  refine And.intro ⟨ka, va 1 (by decide)⟩ (And.intro ⟨ka, va 2 (by decide)⟩ (And.intro rfl (L_dug (I 13 (nI i + 1).toNatClampNeg) (I 13 (nI i + 2).toNatClampNeg) L xs kt I J T n s _ hS (fun v kt1 I1 J1 T1 n1 s1 hM => ?_))))
  obtain ⟨h1, h2, h3⟩ := hM
  have k2 := lawK h1
  have ka2 : (am_k kt1 13).1 = 50 := by rw [k2]
  have va2 : ∀ k, k < 6 → vp_in (nI i + nI k) (am_k kt1 13).2 := fun k hk => lawV hL hi hk k2
  rw [← h2] at h3
  refine And.intro ⟨ka2, va2 1 (by decide)⟩ (And.intro ⟨ka2, va2 2 (by decide)⟩ (And.intro rfl (am_T_mono h3 (fun v2 M2 hE => ?_))))
  obtain ⟨kt2, I2, J2, T2, n2, s2, rfl, rfl, hS2, b1, b2⟩ := hE
  exact And.intro (fun _ => hK kt2 I2 J2 T2 n2 s2 hS2 b1 b2) (fun z => absurd rfl z)
theorem law_fine (hL : L ≤ 3072) (hi : i + 6 ≤ L) (hS : sg_Sim L xs kt I J T n) (hK : ∀ kt' I' J' T' n' s', sg_Sim L xs kt' I' J' T' n' → n' ≤ n + 3 → s' ≤ s + 200 → am_T am_C (220, 203, 1489, [.ref 13, .ref 20, .ref 107, .int (nI i)], []) (am_mk kt' I' J' T' n' s') K) : am_T am_C (220, 203, 899, [.ref 13, .ref 20, .ref 107, .int (nI i)], []) (am_mk kt I J T n s) K := by
  have k1 := lawK hS.1.2.2.2.1
  have ka : (am_k kt 13).1 = 50 := by rw [k1]
  have va : ∀ k, k < 6 → vp_in (nI i + nI k) (am_k kt 13).2 := fun k hk => lawV hL hi hk k1
  refine am_wq_T (cut := fun z pc => (Nat.beq z 220 && Nat.beq pc 1489)) (inl := fun z => !((Nat.beq z 85 || Nat.beq z 169))) 120 _ _ _ ?_
  refine And.intro ⟨ka, va 1 (by decide)⟩ (And.intro rfl (L_fine (I 13 (nI i + 1).toNatClampNeg) L xs kt I J T n s _ hS (fun v kt1 I1 J1 T1 n1 s1 hM => ?_)))
  obtain ⟨h1, h2, h3⟩ := hM
  have k2 := lawK h1
  have ka2 : (am_k kt1 13).1 = 50 := by rw [k2]
  have va2 : ∀ k, k < 6 → vp_in (nI i + nI k) (am_k kt1 13).2 := fun k hk => lawV hL hi hk k2
  rw [← h2] at h3
  refine And.intro ⟨ka2, va2 1 (by decide)⟩ (And.intro rfl (am_T_mono h3 (fun v2 M2 hE => ?_)))
  obtain ⟨kt2, I2, J2, T2, n2, s2, rfl, rfl, hS2, b1, b2⟩ := hE
  exact And.intro (fun _ => hK kt2 I2 J2 T2 n2 s2 hS2 b1 b2) (fun z => absurd rfl z)
theorem law_feed (hL : L ≤ 3072) (hi : i + 6 ≤ L) (hS : sg_Sim L xs kt I J T n) (hK : ∀ kt' I' J' T' n' s', sg_Sim L xs kt' I' J' T' n' → n' ≤ n + 3 → s' ≤ s + 200 → am_T am_C (220, 203, 1489, [.ref 13, .ref 20, .ref 107, .int (nI i)], []) (am_mk kt' I' J' T' n' s') K) : am_T am_C (220, 203, 922, [.ref 13, .ref 20, .ref 107, .int (nI i)], []) (am_mk kt I J T n s) K := by
  have k1 := lawK hS.1.2.2.2.1
  have ka : (am_k kt 13).1 = 50 := by rw [k1]
  have va : ∀ k, k < 6 → vp_in (nI i + nI k) (am_k kt 13).2 := fun k hk => lawV hL hi hk k1
  refine am_wq_T (cut := fun z pc => (Nat.beq z 220 && Nat.beq pc 1489)) (inl := fun z => !((Nat.beq z 86 || Nat.beq z 170))) 120 _ _ _ ?_
  refine And.intro ⟨ka, va 1 (by decide)⟩ (And.intro ⟨ka, va 2 (by decide)⟩ (And.intro ⟨ka, va 3 (by decide)⟩ (And.intro rfl (L_feed (I 13 (nI i + 1).toNatClampNeg) (I 13 (nI i + 2).toNatClampNeg) (I 13 (nI i + 3).toNatClampNeg) L xs kt I J T n s _ hS (fun v kt1 I1 J1 T1 n1 s1 hM => ?_)))))
  obtain ⟨h1, h2, h3⟩ := hM
  have k2 := lawK h1
  have ka2 : (am_k kt1 13).1 = 50 := by rw [k2]
  have va2 : ∀ k, k < 6 → vp_in (nI i + nI k) (am_k kt1 13).2 := fun k hk => lawV hL hi hk k2
  rw [← h2] at h3
  refine And.intro ⟨ka2, va2 1 (by decide)⟩ (And.intro ⟨ka2, va2 2 (by decide)⟩ (And.intro ⟨ka2, va2 3 (by decide)⟩ (And.intro rfl (am_T_mono h3 (fun v2 M2 hE => ?_)))))
  obtain ⟨kt2, I2, J2, T2, n2, s2, rfl, rfl, hS2, b1, b2⟩ := hE
  exact And.intro (fun _ => hK kt2 I2 J2 T2 n2 s2 hS2 b1 b2) (fun z => absurd rfl z)
theorem law_trim (hL : L ≤ 3072) (hi : i + 6 ≤ L) (hS : sg_Sim L xs kt I J T n) (hK : ∀ kt' I' J' T' n' s', sg_Sim L xs kt' I' J' T' n' → n' ≤ n + 3 → s' ≤ s + 200 → am_T am_C (220, 203, 1489, [.ref 13, .ref 20, .ref 107, .int (nI i)], []) (am_mk kt' I' J' T' n' s') K) : am_T am_C (220, 203, 965, [.ref 13, .ref 20, .ref 107, .int (nI i)], []) (am_mk kt I J T n s) K := by
  have k1 := lawK hS.1.2.2.2.1
  have ka : (am_k kt 13).1 = 50 := by rw [k1]
  have va : ∀ k, k < 6 → vp_in (nI i + nI k) (am_k kt 13).2 := fun k hk => lawV hL hi hk k1
  refine am_wq_T (cut := fun z pc => (Nat.beq z 220 && Nat.beq pc 1489)) (inl := fun z => !((Nat.beq z 87 || Nat.beq z 171))) 120 _ _ _ ?_
  refine And.intro ⟨ka, va 1 (by decide)⟩ (And.intro rfl (L_trim (I 13 (nI i + 1).toNatClampNeg) L xs kt I J T n s _ hS (fun v kt1 I1 J1 T1 n1 s1 hM => ?_)))
  obtain ⟨h1, h2, h3⟩ := hM
  have k2 := lawK h1
  have ka2 : (am_k kt1 13).1 = 50 := by rw [k2]
  have va2 : ∀ k, k < 6 → vp_in (nI i + nI k) (am_k kt1 13).2 := fun k hk => lawV hL hi hk k2
  rw [← h2] at h3
  refine And.intro ⟨ka2, va2 1 (by decide)⟩ (And.intro rfl (am_T_mono h3 (fun v2 M2 hE => ?_)))
  obtain ⟨kt2, I2, J2, T2, n2, s2, rfl, rfl, hS2, b1, b2⟩ := hE
  exact And.intro (fun _ => hK kt2 I2 J2 T2 n2 s2 hS2 b1 b2) (fun z => absurd rfl z)
theorem law_text (hL : L ≤ 3072) (hi : i + 6 ≤ L) (hS : sg_Sim L xs kt I J T n) (hK : ∀ kt' I' J' T' n' s', sg_Sim L xs kt' I' J' T' n' → n' ≤ n + 3 → s' ≤ s + 200 → am_T am_C (220, 203, 1489, [.ref 13, .ref 20, .ref 107, .int (nI i)], []) (am_mk kt' I' J' T' n' s') K) : am_T am_C (220, 203, 988, [.ref 13, .ref 20, .ref 107, .int (nI i)], []) (am_mk kt I J T n s) K := by
  have k1 := lawK hS.1.2.2.2.1
  have ka : (am_k kt 13).1 = 50 := by rw [k1]
  have va : ∀ k, k < 6 → vp_in (nI i + nI k) (am_k kt 13).2 := fun k hk => lawV hL hi hk k1
  refine am_wq_T (cut := fun z pc => (Nat.beq z 220 && Nat.beq pc 1489)) (inl := fun z => !((Nat.beq z 88 || Nat.beq z 183))) 120 _ _ _ ?_
  refine And.intro rfl (L_text  L xs kt I J T n s _ hS (fun v kt1 I1 J1 T1 n1 s1 hM => ?_))
  obtain ⟨h1, h2, h3⟩ := hM
  have k2 := lawK h1
  have ka2 : (am_k kt1 13).1 = 50 := by rw [k2]
  have va2 : ∀ k, k < 6 → vp_in (nI i + nI k) (am_k kt1 13).2 := fun k hk => lawV hL hi hk k2
  refine And.intro rfl (am_T_mono h3 (fun v2 M2 hE => ?_))
  obtain ⟨kt2, I2, J2, T2, n2, s2, rfl, rfl, hS2, b1, b2⟩ := hE
  exact And.intro (fun _ => hK kt2 I2 J2 T2 n2 s2 hS2 b1 b2) (fun z => absurd rfl z)
theorem law_textTold (hL : L ≤ 3072) (hi : i + 6 ≤ L) (hS : sg_Sim L xs kt I J T n) (hK : ∀ kt' I' J' T' n' s', sg_Sim L xs kt' I' J' T' n' → n' ≤ n + 3 → s' ≤ s + 200 → am_T am_C (220, 203, 1489, [.ref 13, .ref 20, .ref 107, .int (nI i)], []) (am_mk kt' I' J' T' n' s') K) : am_T am_C (220, 203, 1001, [.ref 13, .ref 20, .ref 107, .int (nI i)], []) (am_mk kt I J T n s) K := by
  have k1 := lawK hS.1.2.2.2.1
  have ka : (am_k kt 13).1 = 50 := by rw [k1]
  have va : ∀ k, k < 6 → vp_in (nI i + nI k) (am_k kt 13).2 := fun k hk => lawV hL hi hk k1
  refine am_wq_T (cut := fun z pc => (Nat.beq z 220 && Nat.beq pc 1489)) (inl := fun z => !((Nat.beq z 89 || Nat.beq z 184))) 120 _ _ _ ?_
  refine And.intro ⟨ka, va 1 (by decide)⟩ (And.intro ⟨ka, va 2 (by decide)⟩ (And.intro rfl (L_textTold (I 13 (nI i + 1).toNatClampNeg) (I 13 (nI i + 2).toNatClampNeg) L xs kt I J T n s _ hS (fun v kt1 I1 J1 T1 n1 s1 hM => ?_))))
  obtain ⟨h1, h2, h3⟩ := hM
  have k2 := lawK h1
  have ka2 : (am_k kt1 13).1 = 50 := by rw [k2]
  have va2 : ∀ k, k < 6 → vp_in (nI i + nI k) (am_k kt1 13).2 := fun k hk => lawV hL hi hk k2
  rw [← h2] at h3
  refine And.intro ⟨ka2, va2 1 (by decide)⟩ (And.intro ⟨ka2, va2 2 (by decide)⟩ (And.intro rfl (am_T_mono h3 (fun v2 M2 hE => ?_))))
  obtain ⟨kt2, I2, J2, T2, n2, s2, rfl, rfl, hS2, b1, b2⟩ := hE
  exact And.intro (fun _ => hK kt2 I2 J2 T2 n2 s2 hS2 b1 b2) (fun z => absurd rfl z)
theorem law_why (hL : L ≤ 3072) (hi : i + 6 ≤ L) (hS : sg_Sim L xs kt I J T n) (hK : ∀ kt' I' J' T' n' s', sg_Sim L xs kt' I' J' T' n' → n' ≤ n + 3 → s' ≤ s + 200 → am_T am_C (220, 203, 1489, [.ref 13, .ref 20, .ref 107, .int (nI i)], []) (am_mk kt' I' J' T' n' s') K) : am_T am_C (220, 203, 1034, [.ref 13, .ref 20, .ref 107, .int (nI i)], []) (am_mk kt I J T n s) K := by
  have k1 := lawK hS.1.2.2.2.1
  have ka : (am_k kt 13).1 = 50 := by rw [k1]
  have va : ∀ k, k < 6 → vp_in (nI i + nI k) (am_k kt 13).2 := fun k hk => lawV hL hi hk k1
  refine am_wq_T (cut := fun z pc => (Nat.beq z 220 && Nat.beq pc 1489)) (inl := fun z => !((Nat.beq z 90 || Nat.beq z 186))) 120 _ _ _ ?_
  refine And.intro ⟨ka, va 1 (by decide)⟩ (And.intro rfl (L_why (I 13 (nI i + 1).toNatClampNeg) L xs kt I J T n s _ hS (fun v kt1 I1 J1 T1 n1 s1 hM => ?_)))
  obtain ⟨h1, h2, h3⟩ := hM
  have k2 := lawK h1
  have ka2 : (am_k kt1 13).1 = 50 := by rw [k2]
  have va2 : ∀ k, k < 6 → vp_in (nI i + nI k) (am_k kt1 13).2 := fun k hk => lawV hL hi hk k2
  rw [← h2] at h3
  refine And.intro ⟨ka2, va2 1 (by decide)⟩ (And.intro rfl (am_T_mono h3 (fun v2 M2 hE => ?_)))
  obtain ⟨kt2, I2, J2, T2, n2, s2, rfl, rfl, hS2, b1, b2⟩ := hE
  exact And.intro (fun _ => hK kt2 I2 J2 T2 n2 s2 hS2 b1 b2) (fun z => absurd rfl z)
theorem law_sheet (hL : L ≤ 3072) (hi : i + 6 ≤ L) (hS : sg_Sim L xs kt I J T n) (hK : ∀ kt' I' J' T' n' s', sg_Sim L xs kt' I' J' T' n' → n' ≤ n + 3 → s' ≤ s + 200 → am_T am_C (220, 203, 1489, [.ref 13, .ref 20, .ref 107, .int (nI i)], []) (am_mk kt' I' J' T' n' s') K) : am_T am_C (220, 203, 1057, [.ref 13, .ref 20, .ref 107, .int (nI i)], []) (am_mk kt I J T n s) K := by
  have k1 := lawK hS.1.2.2.2.1
  have ka : (am_k kt 13).1 = 50 := by rw [k1]
  have va : ∀ k, k < 6 → vp_in (nI i + nI k) (am_k kt 13).2 := fun k hk => lawV hL hi hk k1
  refine am_wq_T (cut := fun z pc => (Nat.beq z 220 && Nat.beq pc 1489)) (inl := fun z => !((Nat.beq z 91 || Nat.beq z 191))) 120 _ _ _ ?_
  refine And.intro ⟨ka, va 1 (by decide)⟩ (And.intro ⟨ka, va 2 (by decide)⟩ (And.intro ⟨ka, va 3 (by decide)⟩ (And.intro rfl (L_sheet (I 13 (nI i + 1).toNatClampNeg) (I 13 (nI i + 2).toNatClampNeg) (I 13 (nI i + 3).toNatClampNeg) L xs kt I J T n s _ hS (fun v kt1 I1 J1 T1 n1 s1 hM => ?_)))))
  obtain ⟨h1, h2, h3⟩ := hM
  have k2 := lawK h1
  have ka2 : (am_k kt1 13).1 = 50 := by rw [k2]
  have va2 : ∀ k, k < 6 → vp_in (nI i + nI k) (am_k kt1 13).2 := fun k hk => lawV hL hi hk k2
  rw [← h2] at h3
  refine And.intro ⟨ka2, va2 1 (by decide)⟩ (And.intro ⟨ka2, va2 2 (by decide)⟩ (And.intro ⟨ka2, va2 3 (by decide)⟩ (And.intro rfl (am_T_mono h3 (fun v2 M2 hE => ?_)))))
  obtain ⟨kt2, I2, J2, T2, n2, s2, rfl, rfl, hS2, b1, b2⟩ := hE
  exact And.intro (fun _ => hK kt2 I2 J2 T2 n2 s2 hS2 b1 b2) (fun z => absurd rfl z)
theorem law_mark (hL : L ≤ 3072) (hi : i + 6 ≤ L) (hS : sg_Sim L xs kt I J T n) (hK : ∀ kt' I' J' T' n' s', sg_Sim L xs kt' I' J' T' n' → n' ≤ n + 3 → s' ≤ s + 200 → am_T am_C (220, 203, 1489, [.ref 13, .ref 20, .ref 107, .int (nI i)], []) (am_mk kt' I' J' T' n' s') K) : am_T am_C (220, 203, 1100, [.ref 13, .ref 20, .ref 107, .int (nI i)], []) (am_mk kt I J T n s) K := by
  have k1 := lawK hS.1.2.2.2.1
  have ka : (am_k kt 13).1 = 50 := by rw [k1]
  have va : ∀ k, k < 6 → vp_in (nI i + nI k) (am_k kt 13).2 := fun k hk => lawV hL hi hk k1
  refine am_wq_T (cut := fun z pc => (Nat.beq z 220 && Nat.beq pc 1489)) (inl := fun z => !((Nat.beq z 92 || Nat.beq z 192))) 120 _ _ _ ?_
  refine And.intro ⟨ka, va 1 (by decide)⟩ (And.intro ⟨ka, va 2 (by decide)⟩ (And.intro ⟨ka, va 3 (by decide)⟩ (And.intro rfl (L_mark (I 13 (nI i + 1).toNatClampNeg) (I 13 (nI i + 2).toNatClampNeg) (I 13 (nI i + 3).toNatClampNeg) L xs kt I J T n s _ hS (fun v kt1 I1 J1 T1 n1 s1 hM => ?_)))))
  obtain ⟨h1, h2, h3⟩ := hM
  have k2 := lawK h1
  have ka2 : (am_k kt1 13).1 = 50 := by rw [k2]
  have va2 : ∀ k, k < 6 → vp_in (nI i + nI k) (am_k kt1 13).2 := fun k hk => lawV hL hi hk k2
  rw [← h2] at h3
  refine And.intro ⟨ka2, va2 1 (by decide)⟩ (And.intro ⟨ka2, va2 2 (by decide)⟩ (And.intro ⟨ka2, va2 3 (by decide)⟩ (And.intro rfl (am_T_mono h3 (fun v2 M2 hE => ?_)))))
  obtain ⟨kt2, I2, J2, T2, n2, s2, rfl, rfl, hS2, b1, b2⟩ := hE
  exact And.intro (fun _ => hK kt2 I2 J2 T2 n2 s2 hS2 b1 b2) (fun z => absurd rfl z)
theorem law_pour (hL : L ≤ 3072) (hi : i + 6 ≤ L) (hS : sg_Sim L xs kt I J T n) (hK : ∀ kt' I' J' T' n' s', sg_Sim L xs kt' I' J' T' n' → n' ≤ n + 3 → s' ≤ s + 200 → am_T am_C (220, 203, 1489, [.ref 13, .ref 20, .ref 107, .int (nI i)], []) (am_mk kt' I' J' T' n' s') K) : am_T am_C (220, 203, 1143, [.ref 13, .ref 20, .ref 107, .int (nI i)], []) (am_mk kt I J T n s) K := by
  have k1 := lawK hS.1.2.2.2.1
  have ka : (am_k kt 13).1 = 50 := by rw [k1]
  have va : ∀ k, k < 6 → vp_in (nI i + nI k) (am_k kt 13).2 := fun k hk => lawV hL hi hk k1
  refine am_wq_T (cut := fun z pc => (Nat.beq z 220 && Nat.beq pc 1489)) (inl := fun z => !((Nat.beq z 93 || Nat.beq z 193))) 120 _ _ _ ?_
  refine And.intro ⟨ka, va 1 (by decide)⟩ (And.intro rfl (L_pour (I 13 (nI i + 1).toNatClampNeg) L xs kt I J T n s _ hS (fun v kt1 I1 J1 T1 n1 s1 hM => ?_)))
  obtain ⟨h1, h2, h3⟩ := hM
  have k2 := lawK h1
  have ka2 : (am_k kt1 13).1 = 50 := by rw [k2]
  have va2 : ∀ k, k < 6 → vp_in (nI i + nI k) (am_k kt1 13).2 := fun k hk => lawV hL hi hk k2
  rw [← h2] at h3
  refine And.intro ⟨ka2, va2 1 (by decide)⟩ (And.intro rfl (am_T_mono h3 (fun v2 M2 hE => ?_)))
  obtain ⟨kt2, I2, J2, T2, n2, s2, rfl, rfl, hS2, b1, b2⟩ := hE
  exact And.intro (fun _ => hK kt2 I2 J2 T2 n2 s2 hS2 b1 b2) (fun z => absurd rfl z)
theorem law_reads (hL : L ≤ 3072) (hi : i + 6 ≤ L) (hS : sg_Sim L xs kt I J T n) (hK : ∀ kt' I' J' T' n' s', sg_Sim L xs kt' I' J' T' n' → n' ≤ n + 3 → s' ≤ s + 200 → am_T am_C (220, 203, 1489, [.ref 13, .ref 20, .ref 107, .int (nI i)], []) (am_mk kt' I' J' T' n' s') K) : am_T am_C (220, 203, 1166, [.ref 13, .ref 20, .ref 107, .int (nI i)], []) (am_mk kt I J T n s) K := by
  have k1 := lawK hS.1.2.2.2.1
  have ka : (am_k kt 13).1 = 50 := by rw [k1]
  have va : ∀ k, k < 6 → vp_in (nI i + nI k) (am_k kt 13).2 := fun k hk => lawV hL hi hk k1
  refine am_wq_T (cut := fun z pc => (Nat.beq z 220 && Nat.beq pc 1489)) (inl := fun z => !((Nat.beq z 94 || Nat.beq z 194))) 120 _ _ _ ?_
  refine And.intro ⟨ka, va 1 (by decide)⟩ (And.intro rfl (L_reads (I 13 (nI i + 1).toNatClampNeg) L xs kt I J T n s _ hS (fun v kt1 I1 J1 T1 n1 s1 hM => ?_)))
  obtain ⟨h1, h2, h3⟩ := hM
  have k2 := lawK h1
  have ka2 : (am_k kt1 13).1 = 50 := by rw [k2]
  have va2 : ∀ k, k < 6 → vp_in (nI i + nI k) (am_k kt1 13).2 := fun k hk => lawV hL hi hk k2
  rw [← h2] at h3
  refine And.intro ⟨ka2, va2 1 (by decide)⟩ (And.intro rfl (am_T_mono h3 (fun v2 M2 hE => ?_)))
  obtain ⟨kt2, I2, J2, T2, n2, s2, rfl, rfl, hS2, b1, b2⟩ := hE
  exact And.intro (fun _ => hK kt2 I2 J2 T2 n2 s2 hS2 b1 b2) (fun z => absurd rfl z)
theorem law_copy (hL : L ≤ 3072) (hi : i + 6 ≤ L) (hS : sg_Sim L xs kt I J T n) (hK : ∀ kt' I' J' T' n' s', sg_Sim L xs kt' I' J' T' n' → n' ≤ n + 3 → s' ≤ s + 200 → am_T am_C (220, 203, 1489, [.ref 13, .ref 20, .ref 107, .int (nI i)], []) (am_mk kt' I' J' T' n' s') K) : am_T am_C (220, 203, 1189, [.ref 13, .ref 20, .ref 107, .int (nI i)], []) (am_mk kt I J T n s) K := by
  have k1 := lawK hS.1.2.2.2.1
  have ka : (am_k kt 13).1 = 50 := by rw [k1]
  have va : ∀ k, k < 6 → vp_in (nI i + nI k) (am_k kt 13).2 := fun k hk => lawV hL hi hk k1
  refine am_wq_T (cut := fun z pc => (Nat.beq z 220 && Nat.beq pc 1489)) (inl := fun z => !((Nat.beq z 95 || Nat.beq z 195))) 120 _ _ _ ?_
  refine And.intro ⟨ka, va 1 (by decide)⟩ (And.intro ⟨ka, va 2 (by decide)⟩ (And.intro ⟨ka, va 3 (by decide)⟩ (And.intro ⟨ka, va 4 (by decide)⟩ (And.intro ⟨ka, va 5 (by decide)⟩ (And.intro rfl (L_copy (I 13 (nI i + 1).toNatClampNeg) (I 13 (nI i + 2).toNatClampNeg) (I 13 (nI i + 3).toNatClampNeg) (I 13 (nI i + 4).toNatClampNeg) (I 13 (nI i + 5).toNatClampNeg) L xs kt I J T n s _ hS (fun v kt1 I1 J1 T1 n1 s1 hM => ?_)))))))
  obtain ⟨h1, h2, h3⟩ := hM
  have k2 := lawK h1
  have ka2 : (am_k kt1 13).1 = 50 := by rw [k2]
  have va2 : ∀ k, k < 6 → vp_in (nI i + nI k) (am_k kt1 13).2 := fun k hk => lawV hL hi hk k2
  rw [← h2] at h3
  refine And.intro ⟨ka2, va2 1 (by decide)⟩ (And.intro ⟨ka2, va2 2 (by decide)⟩ (And.intro ⟨ka2, va2 3 (by decide)⟩ (And.intro ⟨ka2, va2 4 (by decide)⟩ (And.intro ⟨ka2, va2 5 (by decide)⟩ (And.intro rfl (am_T_mono h3 (fun v2 M2 hE => ?_)))))))
  obtain ⟨kt2, I2, J2, T2, n2, s2, rfl, rfl, hS2, b1, b2⟩ := hE
  exact And.intro (fun _ => hK kt2 I2 J2 T2 n2 s2 hS2 b1 b2) (fun z => absurd rfl z)
theorem law_lay (hL : L ≤ 3072) (hi : i + 6 ≤ L) (hS : sg_Sim L xs kt I J T n) (hK : ∀ kt' I' J' T' n' s', sg_Sim L xs kt' I' J' T' n' → n' ≤ n + 3 → s' ≤ s + 200 → am_T am_C (220, 203, 1489, [.ref 13, .ref 20, .ref 107, .int (nI i)], []) (am_mk kt' I' J' T' n' s') K) : am_T am_C (220, 203, 1252, [.ref 13, .ref 20, .ref 107, .int (nI i)], []) (am_mk kt I J T n s) K := by
  have k1 := lawK hS.1.2.2.2.1
  have ka : (am_k kt 13).1 = 50 := by rw [k1]
  have va : ∀ k, k < 6 → vp_in (nI i + nI k) (am_k kt 13).2 := fun k hk => lawV hL hi hk k1
  refine am_wq_T (cut := fun z pc => (Nat.beq z 220 && Nat.beq pc 1489)) (inl := fun z => !((Nat.beq z 96 || Nat.beq z 196))) 120 _ _ _ ?_
  refine And.intro ⟨ka, va 1 (by decide)⟩ (And.intro ⟨ka, va 2 (by decide)⟩ (And.intro ⟨ka, va 3 (by decide)⟩ (And.intro rfl (L_lay (I 13 (nI i + 1).toNatClampNeg) (I 13 (nI i + 2).toNatClampNeg) (I 13 (nI i + 3).toNatClampNeg) L xs kt I J T n s _ hS (fun v kt1 I1 J1 T1 n1 s1 hM => ?_)))))
  obtain ⟨h1, h2, h3⟩ := hM
  have k2 := lawK h1
  have ka2 : (am_k kt1 13).1 = 50 := by rw [k2]
  have va2 : ∀ k, k < 6 → vp_in (nI i + nI k) (am_k kt1 13).2 := fun k hk => lawV hL hi hk k2
  rw [← h2] at h3
  refine And.intro ⟨ka2, va2 1 (by decide)⟩ (And.intro ⟨ka2, va2 2 (by decide)⟩ (And.intro ⟨ka2, va2 3 (by decide)⟩ (And.intro rfl (am_T_mono h3 (fun v2 M2 hE => ?_)))))
  obtain ⟨kt2, I2, J2, T2, n2, s2, rfl, rfl, hS2, b1, b2⟩ := hE
  exact And.intro (fun _ => hK kt2 I2 J2 T2 n2 s2 hS2 b1 b2) (fun z => absurd rfl z)
theorem law_ask (hL : L ≤ 3072) (hi : i + 6 ≤ L) (hS : sg_Sim L xs kt I J T n) (hK : ∀ kt' I' J' T' n' s', sg_Sim L xs kt' I' J' T' n' → n' ≤ n + 3 → s' ≤ s + 200 → am_T am_C (220, 203, 1489, [.ref 13, .ref 20, .ref 107, .int (nI i)], []) (am_mk kt' I' J' T' n' s') K) : am_T am_C (220, 203, 1295, [.ref 13, .ref 20, .ref 107, .int (nI i)], []) (am_mk kt I J T n s) K := by
  have k1 := lawK hS.1.2.2.2.1
  have ka : (am_k kt 13).1 = 50 := by rw [k1]
  have va : ∀ k, k < 6 → vp_in (nI i + nI k) (am_k kt 13).2 := fun k hk => lawV hL hi hk k1
  refine am_wq_T (cut := fun z pc => (Nat.beq z 220 && Nat.beq pc 1489)) (inl := fun z => !((Nat.beq z 97 || Nat.beq z 197))) 120 _ _ _ ?_
  refine And.intro ⟨ka, va 1 (by decide)⟩ (And.intro ⟨ka, va 2 (by decide)⟩ (And.intro rfl (L_ask (I 13 (nI i + 1).toNatClampNeg) (I 13 (nI i + 2).toNatClampNeg) L xs kt I J T n s _ hS (fun v kt1 I1 J1 T1 n1 s1 hM => ?_))))
  obtain ⟨h1, h2, h3⟩ := hM
  have k2 := lawK h1
  have ka2 : (am_k kt1 13).1 = 50 := by rw [k2]
  have va2 : ∀ k, k < 6 → vp_in (nI i + nI k) (am_k kt1 13).2 := fun k hk => lawV hL hi hk k2
  rw [← h2] at h3
  refine And.intro ⟨ka2, va2 1 (by decide)⟩ (And.intro ⟨ka2, va2 2 (by decide)⟩ (And.intro rfl (am_T_mono h3 (fun v2 M2 hE => ?_))))
  obtain ⟨kt2, I2, J2, T2, n2, s2, rfl, rfl, hS2, b1, b2⟩ := hE
  exact And.intro (fun _ => hK kt2 I2 J2 T2 n2 s2 hS2 b1 b2) (fun z => absurd rfl z)
theorem law_item (hL : L ≤ 3072) (hi : i + 6 ≤ L) (hS : sg_Sim L xs kt I J T n) (hK : ∀ kt' I' J' T' n' s', sg_Sim L xs kt' I' J' T' n' → n' ≤ n + 3 → s' ≤ s + 200 → am_T am_C (220, 203, 1489, [.ref 13, .ref 20, .ref 107, .int (nI i)], []) (am_mk kt' I' J' T' n' s') K) : am_T am_C (220, 203, 1328, [.ref 13, .ref 20, .ref 107, .int (nI i)], []) (am_mk kt I J T n s) K := by
  have k1 := lawK hS.1.2.2.2.1
  have ka : (am_k kt 13).1 = 50 := by rw [k1]
  have va : ∀ k, k < 6 → vp_in (nI i + nI k) (am_k kt 13).2 := fun k hk => lawV hL hi hk k1
  refine am_wq_T (cut := fun z pc => (Nat.beq z 220 && Nat.beq pc 1489)) (inl := fun z => !((Nat.beq z 98 || Nat.beq z 198))) 120 _ _ _ ?_
  refine And.intro ⟨ka, va 1 (by decide)⟩ (And.intro ⟨ka, va 2 (by decide)⟩ (And.intro rfl (L_item (I 13 (nI i + 1).toNatClampNeg) (I 13 (nI i + 2).toNatClampNeg) L xs kt I J T n s _ hS (fun v kt1 I1 J1 T1 n1 s1 hM => ?_))))
  obtain ⟨h1, h2, h3⟩ := hM
  have k2 := lawK h1
  have ka2 : (am_k kt1 13).1 = 50 := by rw [k2]
  have va2 : ∀ k, k < 6 → vp_in (nI i + nI k) (am_k kt1 13).2 := fun k hk => lawV hL hi hk k2
  rw [← h2] at h3
  refine And.intro ⟨ka2, va2 1 (by decide)⟩ (And.intro ⟨ka2, va2 2 (by decide)⟩ (And.intro rfl (am_T_mono h3 (fun v2 M2 hE => ?_))))
  obtain ⟨kt2, I2, J2, T2, n2, s2, rfl, rfl, hS2, b1, b2⟩ := hE
  exact And.intro (fun _ => hK kt2 I2 J2 T2 n2 s2 hS2 b1 b2) (fun z => absurd rfl z)
theorem law_rest (hL : L ≤ 3072) (hi : i + 6 ≤ L) (hS : sg_Sim L xs kt I J T n) (hK : ∀ kt' I' J' T' n' s', sg_Sim L xs kt' I' J' T' n' → n' ≤ n + 3 → s' ≤ s + 200 → am_T am_C (220, 203, 1489, [.ref 13, .ref 20, .ref 107, .int (nI i)], []) (am_mk kt' I' J' T' n' s') K) : am_T am_C (220, 203, 1361, [.ref 13, .ref 20, .ref 107, .int (nI i)], []) (am_mk kt I J T n s) K := by
  have k1 := lawK hS.1.2.2.2.1
  have ka : (am_k kt 13).1 = 50 := by rw [k1]
  have va : ∀ k, k < 6 → vp_in (nI i + nI k) (am_k kt 13).2 := fun k hk => lawV hL hi hk k1
  refine am_wq_T (cut := fun z pc => (Nat.beq z 220 && Nat.beq pc 1489)) (inl := fun z => !((Nat.beq z 99 || Nat.beq z 199))) 120 _ _ _ ?_
  refine And.intro ⟨ka, va 1 (by decide)⟩ (And.intro ⟨ka, va 2 (by decide)⟩ (And.intro rfl (L_rest (I 13 (nI i + 1).toNatClampNeg) (I 13 (nI i + 2).toNatClampNeg) L xs kt I J T n s _ hS (fun v kt1 I1 J1 T1 n1 s1 hM => ?_))))
  obtain ⟨h1, h2, h3⟩ := hM
  have k2 := lawK h1
  have ka2 : (am_k kt1 13).1 = 50 := by rw [k2]
  have va2 : ∀ k, k < 6 → vp_in (nI i + nI k) (am_k kt1 13).2 := fun k hk => lawV hL hi hk k2
  rw [← h2] at h3
  refine And.intro ⟨ka2, va2 1 (by decide)⟩ (And.intro ⟨ka2, va2 2 (by decide)⟩ (And.intro rfl (am_T_mono h3 (fun v2 M2 hE => ?_))))
  obtain ⟨kt2, I2, J2, T2, n2, s2, rfl, rfl, hS2, b1, b2⟩ := hE
  exact And.intro (fun _ => hK kt2 I2 J2 T2 n2 s2 hS2 b1 b2) (fun z => absurd rfl z)
theorem law_tell (hL : L ≤ 3072) (hi : i + 6 ≤ L) (hS : sg_Sim L xs kt I J T n) (hK : ∀ kt' I' J' T' n' s', sg_Sim L xs kt' I' J' T' n' → n' ≤ n + 3 → s' ≤ s + 200 → am_T am_C (220, 203, 1489, [.ref 13, .ref 20, .ref 107, .int (nI i)], []) (am_mk kt' I' J' T' n' s') K) : am_T am_C (220, 203, 1394, [.ref 13, .ref 20, .ref 107, .int (nI i)], []) (am_mk kt I J T n s) K := by
  have k1 := lawK hS.1.2.2.2.1
  have ka : (am_k kt 13).1 = 50 := by rw [k1]
  have va : ∀ k, k < 6 → vp_in (nI i + nI k) (am_k kt 13).2 := fun k hk => lawV hL hi hk k1
  refine am_wq_T (cut := fun z pc => (Nat.beq z 220 && Nat.beq pc 1489)) (inl := fun z => !((Nat.beq z 100 || Nat.beq z 200))) 120 _ _ _ ?_
  refine And.intro ⟨ka, va 1 (by decide)⟩ (And.intro rfl (L_tell (I 13 (nI i + 1).toNatClampNeg) L xs kt I J T n s _ hS (fun v kt1 I1 J1 T1 n1 s1 hM => ?_)))
  obtain ⟨h1, h2, h3⟩ := hM
  have k2 := lawK h1
  have ka2 : (am_k kt1 13).1 = 50 := by rw [k2]
  have va2 : ∀ k, k < 6 → vp_in (nI i + nI k) (am_k kt1 13).2 := fun k hk => lawV hL hi hk k2
  rw [← h2] at h3
  refine And.intro ⟨ka2, va2 1 (by decide)⟩ (And.intro rfl (am_T_mono h3 (fun v2 M2 hE => ?_)))
  obtain ⟨kt2, I2, J2, T2, n2, s2, rfl, rfl, hS2, b1, b2⟩ := hE
  exact And.intro (fun _ => hK kt2 I2 J2 T2 n2 s2 hS2 b1 b2) (fun z => absurd rfl z)
theorem law_check (hL : L ≤ 3072) (hi : i + 6 ≤ L) (hS : sg_Sim L xs kt I J T n) (hK : ∀ kt' I' J' T' n' s', sg_Sim L xs kt' I' J' T' n' → n' ≤ n + 3 → s' ≤ s + 200 → am_T am_C (220, 203, 1489, [.ref 13, .ref 20, .ref 107, .int (nI i)], []) (am_mk kt' I' J' T' n' s') K) : am_T am_C (220, 203, 1417, [.ref 13, .ref 20, .ref 107, .int (nI i)], []) (am_mk kt I J T n s) K := by
  have k1 := lawK hS.1.2.2.2.1
  have ka : (am_k kt 13).1 = 50 := by rw [k1]
  have va : ∀ k, k < 6 → vp_in (nI i + nI k) (am_k kt 13).2 := fun k hk => lawV hL hi hk k1
  refine am_wq_T (cut := fun z pc => (Nat.beq z 220 && Nat.beq pc 1489)) (inl := fun z => !((Nat.beq z 101 || Nat.beq z 201))) 120 _ _ _ ?_
  refine And.intro ⟨ka, va 1 (by decide)⟩ (And.intro rfl (L_check (I 13 (nI i + 1).toNatClampNeg) L xs kt I J T n s _ hS (fun v kt1 I1 J1 T1 n1 s1 hM => ?_)))
  obtain ⟨h1, h2, h3⟩ := hM
  have k2 := lawK h1
  have ka2 : (am_k kt1 13).1 = 50 := by rw [k2]
  have va2 : ∀ k, k < 6 → vp_in (nI i + nI k) (am_k kt1 13).2 := fun k hk => lawV hL hi hk k2
  rw [← h2] at h3
  refine And.intro ⟨ka2, va2 1 (by decide)⟩ (And.intro rfl (am_T_mono h3 (fun v2 M2 hE => ?_)))
  obtain ⟨kt2, I2, J2, T2, n2, s2, rfl, rfl, hS2, b1, b2⟩ := hE
  exact And.intro (fun _ => hK kt2 I2 J2 T2 n2 s2 hS2 b1 b2) (fun z => absurd rfl z)
theorem law_keep (hL : L ≤ 3072) (hi : i + 6 ≤ L) (hS : sg_Sim L xs kt I J T n) (hK : ∀ kt' I' J' T' n' s', sg_Sim L xs kt' I' J' T' n' → n' ≤ n + 3 → s' ≤ s + 200 → am_T am_C (220, 203, 1489, [.ref 13, .ref 20, .ref 107, .int (nI i)], []) (am_mk kt' I' J' T' n' s') K) : am_T am_C (220, 203, 1440, [.ref 13, .ref 20, .ref 107, .int (nI i)], []) (am_mk kt I J T n s) K := by
  have k1 := lawK hS.1.2.2.2.1
  have ka : (am_k kt 13).1 = 50 := by rw [k1]
  have va : ∀ k, k < 6 → vp_in (nI i + nI k) (am_k kt 13).2 := fun k hk => lawV hL hi hk k1
  refine am_wq_T (cut := fun z pc => (Nat.beq z 220 && Nat.beq pc 1489)) (inl := fun z => !((Nat.beq z 102 || Nat.beq z 202))) 120 _ _ _ ?_
  refine And.intro rfl (L_keep  L xs kt I J T n s _ hS (fun v kt1 I1 J1 T1 n1 s1 hM => ?_))
  obtain ⟨h1, h2, h3⟩ := hM
  have k2 := lawK h1
  have ka2 : (am_k kt1 13).1 = 50 := by rw [k2]
  have va2 : ∀ k, k < 6 → vp_in (nI i + nI k) (am_k kt1 13).2 := fun k hk => lawV hL hi hk k2
  refine And.intro rfl (am_T_mono h3 (fun v2 M2 hE => ?_))
  obtain ⟨kt2, I2, J2, T2, n2, s2, rfl, rfl, hS2, b1, b2⟩ := hE
  exact And.intro (fun _ => hK kt2 I2 J2 T2 n2 s2 hS2 b1 b2) (fun z => absurd rfl z)
theorem law_back (hL : L ≤ 3072) (hi : i + 6 ≤ L) (hS : sg_Sim L xs kt I J T n) (hK : ∀ kt' I' J' T' n' s', sg_Sim L xs kt' I' J' T' n' → n' ≤ n + 3 → s' ≤ s + 200 → am_T am_C (220, 203, 1489, [.ref 13, .ref 20, .ref 107, .int (nI i)], []) (am_mk kt' I' J' T' n' s') K) : am_T am_C (220, 203, 1453, [.ref 13, .ref 20, .ref 107, .int (nI i)], []) (am_mk kt I J T n s) K := by
  have k1 := lawK hS.1.2.2.2.1
  have ka : (am_k kt 13).1 = 50 := by rw [k1]
  have va : ∀ k, k < 6 → vp_in (nI i + nI k) (am_k kt 13).2 := fun k hk => lawV hL hi hk k1
  refine am_wq_T (cut := fun z pc => (Nat.beq z 220 && Nat.beq pc 1489)) (inl := fun z => !((Nat.beq z 103 || Nat.beq z 203))) 120 _ _ _ ?_
  refine And.intro rfl (L_back  L xs kt I J T n s _ hS (fun v kt1 I1 J1 T1 n1 s1 hM => ?_))
  obtain ⟨h1, h2, h3⟩ := hM
  have k2 := lawK h1
  have ka2 : (am_k kt1 13).1 = 50 := by rw [k2]
  have va2 : ∀ k, k < 6 → vp_in (nI i + nI k) (am_k kt1 13).2 := fun k hk => lawV hL hi hk k2
  refine And.intro rfl (am_T_mono h3 (fun v2 M2 hE => ?_))
  obtain ⟨kt2, I2, J2, T2, n2, s2, rfl, rfl, hS2, b1, b2⟩ := hE
  exact And.intro (fun _ => hK kt2 I2 J2 T2 n2 s2 hS2 b1 b2) (fun z => absurd rfl z)
theorem law_count (hL : L ≤ 3072) (hi : i + 6 ≤ L) (hS : sg_Sim L xs kt I J T n) (hK : ∀ kt' I' J' T' n' s', sg_Sim L xs kt' I' J' T' n' → n' ≤ n + 3 → s' ≤ s + 200 → am_T am_C (220, 203, 1489, [.ref 13, .ref 20, .ref 107, .int (nI i)], []) (am_mk kt' I' J' T' n' s') K) : am_T am_C (220, 203, 1466, [.ref 13, .ref 20, .ref 107, .int (nI i)], []) (am_mk kt I J T n s) K := by
  have k1 := lawK hS.1.2.2.2.1
  have ka : (am_k kt 13).1 = 50 := by rw [k1]
  have va : ∀ k, k < 6 → vp_in (nI i + nI k) (am_k kt 13).2 := fun k hk => lawV hL hi hk k1
  refine am_wq_T (cut := fun z pc => (Nat.beq z 220 && Nat.beq pc 1489)) (inl := fun z => !((Nat.beq z 104 || Nat.beq z 204))) 120 _ _ _ ?_
  refine And.intro ⟨ka, va 1 (by decide)⟩ (And.intro rfl (L_count (I 13 (nI i + 1).toNatClampNeg) L xs kt I J T n s _ hS (fun v kt1 I1 J1 T1 n1 s1 hM => ?_)))
  obtain ⟨h1, h2, h3⟩ := hM
  have k2 := lawK h1
  have ka2 : (am_k kt1 13).1 = 50 := by rw [k2]
  have va2 : ∀ k, k < 6 → vp_in (nI i + nI k) (am_k kt1 13).2 := fun k hk => lawV hL hi hk k2
  rw [← h2] at h3
  refine And.intro ⟨ka2, va2 1 (by decide)⟩ (And.intro rfl (am_T_mono h3 (fun v2 M2 hE => ?_)))
  obtain ⟨kt2, I2, J2, T2, n2, s2, rfl, rfl, hS2, b1, b2⟩ := hE
  exact And.intro (fun _ => hK kt2 I2 J2 T2 n2 s2 hS2 b1 b2) (fun z => absurd rfl z)
end T99j
