/-! text: the reference -/
section T99g
variable {kt : Nat → Nat × Nat} {I I' I0 : Nat → Nat → Int32} {J J' : Nat → Nat → Int64} {T T' : Nat → Nat → Nat} {n s : Nat} {K : Option Value → am_M → Prop} {m t tc key : Nat} {B : Nat → Int32} {len : Nat} {p : Int32} {cs : List Int32}
theorem m_tx117 {v1 : Value} (h21 : I0 107 21 = nI m) (hm : m < 96) (ht : t < 14) (hK : ∀ I', ch (fun r => r = 108) I0 I' → (∀ j, I' 108 j = if 104 + 96 * t ≤ j ∧ j < 104 + 96 * t + m then I0 120 (j - (104 + 96 * t)) else I0 108 j) → am_T am_C (183, 4, 151, [.ref 107, v1, .int (nI t), .int (nI m)], []) (am_mk kt I' J T n s) K) : ∀ (j k : Nat) (I : Nat → Nat → Int32), k + j = m → ch (fun r => r = 108) I0 I → (∀ i, I 108 i = if 104 + 96 * t ≤ i ∧ i < 104 + 96 * t + k then I0 120 (i - (104 + 96 * t)) else I0 108 i) → am_T am_C (183, 4, 117, [.ref 107, v1, .int (nI t), .int (nI k)], []) (am_mk kt I J T n s) K
  | 0, k, I, hk, hI, hN => by
    have : k = m := by omega
    subst this
    have c1 : I 107 21 ≤ nI k := by rw [hI 107 (by decide), h21]; exact nI_le (Nat.le_refl _) (by omega)
    have kk := hK I hI hN
    refine am_wq_T (cut := fun z pc => ((Nat.beq z 183 && Nat.beq pc 117) || (Nat.beq z 183 && Nat.beq pc 151))) (inl := fun _ => false) 120 _ _ _ ?_
    exact And.intro rfl (And.intro (fun _ => kk) (fun z => absurd c1 z))
  | j + 1, k, I, hk, hI, hN => by
    have c1 : ¬ I 107 21 ≤ nI k := by rw [hI 107 (by decide), h21]; exact nI_ge (by omega) (by omega)
    have v1 : vp_in (nI k) 96 := vpl (by omega) (by decide)
    have v2 : vp_in (104 + 96 * nI t + nI k) 1448 := by rw [i104]; exact vpl (by omega) (by decide)
    have key := m_tx117 h21 hm ht hK j (k + 1) (am_up I 108 (104 + 96 * nI t + nI k).toNatClampNeg (I 120 (nI k).toNatClampNeg)) (by omega) (ch_tr (S := fun r => r = 108) hI (ch_up (P := fun r => r = 108) rfl) fun r q => q.elim id id) (fun i => by
      rw [i104, nI_clamp (by omega), nI_clamp (by omega), hI 120 (by decide)]
      by_cases e : i = 104 + 96 * t + k
      · rw [e, up_eq, if_pos (by omega), Nat.add_sub_cancel_left]
      · rw [up_ne (by omega), hN i]
        by_cases e2 : 104 + 96 * t ≤ i ∧ i < 104 + 96 * t + k
        · rw [if_pos e2, if_pos (by omega)]
        · rw [if_neg e2, if_neg (by omega)])
    rw [nI_succ] at key
    refine am_wq_T (cut := fun z pc => ((Nat.beq z 183 && Nat.beq pc 117) || (Nat.beq z 183 && Nat.beq pc 151))) (inl := fun _ => false) 120 _ _ _ ?_
    exact And.intro rfl (And.intro (fun z => absurd z c1) (fun _ => And.intro rfl (And.intro rfl (And.intro ⟨rfl, v1⟩ (And.intro ⟨rfl, v2⟩ key)))))
set_option maxRecDepth 4000 in
theorem m_tx51 {v2 v3 : Value} (ht : I 108 8 = nI t) (h14 : t < 14) (hcs : cs.length < 96) (h21 : I 107 21 = nI cs.length) (h22 : I 107 22 = p) (h17 : I 107 17 = nI key) (h120 : ∀ k, k < cs.length → I 120 k = sg_tr (cs.getD k 0)) (hK : ∀ I', ch (fun r => r = 108) I I' → I' 108 = txN (I 108) t key p cs → K (some (.int (nI t))) (am_mk kt I' J T n s)) : am_T am_C (183, 4, 51, [.ref 107, .int 1, v2, v3], []) (am_mk kt I J T n s) K := by
  obtain ⟨I1, e1⟩ : ∃ I1, I1 = am_up (am_up I 108 (76 + 2 * t) (nI (1000 * key + cs.length))) 108 (77 + 2 * t) p := ⟨_, rfl⟩
  have o1 : ch (fun r => r = 108) I I1 := fun r hr => by rw [e1, up_off hr, up_off hr]
  have g117 : am_T am_C (183, 4, 117, [.ref 107, .int 1, .int (nI t), .int (nI 0)], []) (am_mk kt I1 J T n s) K := by
    refine m_tx117 (I0 := I1) (m := cs.length) (by rw [o1 107 (by decide)]; exact h21) hcs h14 (fun I2 a1 a2 => ?_) cs.length 0 I1 (by omega) ch_rfl (fun i => (if_neg (by omega)).symm)
    have n8 : I2 108 8 = nI t := by rw [a2, if_neg (by omega), e1, up_ne (by omega), up_ne (by omega)]; exact ht
    have kk := hK (am_up I2 108 8 (I2 108 8 + 1)) (ch_tr (S := fun r => r = 108) (ch_tr (S := fun r => r = 108) o1 a1 fun r q => q.elim id id) (ch_up (P := fun r => r = 108) rfl) fun r q => q.elim id id) (funext fun j => by
      unfold txN
      by_cases q0 : j = 8
      · rw [if_pos q0, q0, up_eq, n8, nI_succ]
      · rw [if_neg q0, up_ne (by omega), a2]
        by_cases q1 : j = 76 + 2 * t
        · rw [if_pos q1, if_neg (by omega), e1, q1, up_ne (by omega), up_eq]
        · rw [if_neg q1]
          by_cases q2 : j = 77 + 2 * t
          · rw [if_pos q2, if_neg (by omega), e1, q2, up_eq]
          · rw [if_neg q2]
            by_cases q3 : 104 + 96 * t ≤ j ∧ j < 104 + 96 * t + cs.length
            · rw [if_pos q3, if_pos q3, o1 120 (by decide)]
              exact h120 _ (by omega)
            · rw [if_neg q3, if_neg q3, e1, up_ne (by omega), up_ne (by omega)])
    have v8 : vp_in 8 1448 := vpl (k := 8) (by decide) (by decide)
    refine am_wq_T (cut := fun z pc => (Nat.beq z 183 && Nat.beq pc 145)) (inl := fun _ => false) 120 _ _ _ ?_
    exact And.intro rfl (And.intro ⟨rfl, v8⟩ (And.intro ⟨rfl, v8⟩ kk))
  have g2 : am_T am_C (183, 4, 117, [.ref 107, .int 1, .int (I 108 8), .int 0], []) (am_mk kt (am_up (am_up I 108 (76 + 2 * I 108 8).toNatClampNeg (1000 * I 107 17 + I 107 21)) 108 (76 + 2 * I 108 8 + 1).toNatClampNeg (I 107 22)) J T n s) K := by
    rw [ht, i76, h17, h21, h22, ← nI_succ, nI_clamp (by omega), nI_clamp (by omega), show (1000 : Int32) = nI 1000 from rfl, pk_mul, nI_add, show 76 + 2 * t + 1 = 77 + 2 * t by omega, ← e1]
    exact g117
  have c1 : ¬ I 108 8 = 14 := by rw [ht]; exact fun z => absurd ((nI_eq (b := 14) (by omega) (by decide)).mp z) (by omega)
  have v8 : vp_in 8 1448 := vpl (k := 8) (by decide) (by decide)
  have vA : vp_in (76 + 2 * I 108 8) 1448 := by rw [ht, i76]; exact vpl (by omega) (by decide)
  have vB : vp_in (76 + 2 * I 108 8 + 1) 1448 := by rw [ht, i76, ← nI_succ]; exact vpl (by omega) (by decide)
  refine am_wq_T (cut := fun z pc => (Nat.beq z 183 && Nat.beq pc 117)) (inl := fun _ => false) 120 _ _ _ ?_
  exact And.intro rfl (And.intro ⟨rfl, v8⟩ (And.intro (fun _ => And.intro rfl (And.intro ⟨rfl, v8⟩ (And.intro rfl (And.intro rfl (And.intro rfl (And.intro ⟨rfl, vA⟩ (And.intro rfl (And.intro rfl (And.intro ⟨rfl, vB⟩ g2))))))))) (fun z => absurd c1 z)))
theorem m_tx51f {v2 v3 : Value} (ht : I 108 8 = 14) (hK : K (some (.int (-1000000003))) (am_mk kt I J T n s)) : am_T am_C (183, 4, 51, [.ref 107, .int 1, v2, v3], []) (am_mk kt I J T n s) K := by
  have v8 : vp_in 8 1448 := vpl (k := 8) (by decide) (by decide)
  refine am_wq_T (cut := fun z pc => (Nat.beq z 183 && Nat.beq pc 117)) (inl := fun _ => false) 120 _ _ _ ?_
  exact And.intro rfl (And.intro ⟨rfl, v8⟩ (And.intro (fun z => absurd ht z) (fun _ => hK)))
end T99g
