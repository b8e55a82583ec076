/-! rooms, the reference -/
section T72
variable {kt : Nat → Nat × Nat} {I I' : Nat → Nat → Int32} {J J' : Nat → Nat → Int64} {T T' : Nat → Nat → Nat} {n s : Nat} {L : Nat} {xs : Nat → Int32} {K : Option Value → am_M → Prop} {N N' : Nat → Int32} {hc wc tc h w : Nat}
theorem TKv_le {k d ag lw mi e ap : Int32} (q : TKv k d ag lw mi e ap) : ¬ d < e := by
  unfold TKv at q
  split at q
  · exact q.1
  · split at q
    · exact q.1
    · split at q
      · exact q.1
      · split at q
        · exact q.elim (fun z => z.1) fun z => z.1
        · split at q
          · exact q
          · exact q.1
theorem m_room_l {p sp ow e : Int32} {r : Nat} (hN : I 108 = N) (hcn : N 1 = nI 10) (h10 : h < 10) (h0 : ∀ i, i < r → ¬ lfv (N (21 + 5 * i + 2)) e i h ≤ 0) (hr : r ≤ 10) (h1 : r < 10 → lfv (N (21 + 5 * r + 2)) e r h ≤ 0) (hK : am_T am_C (144, 4, 108, [.ref 107, .int p, .int sp, .int (nI h), .int ow, .int e, .int (nI r)], []) (am_mk kt I J T n s) K) : ∀ (j i : Nat), i + j = r → am_T am_C (144, 4, 57, [.ref 107, .int p, .int sp, .int (nI h), .int ow, .int e, .int (nI i)], []) (am_mk kt I J T n s) K
  | 0, i, hi => by
    have : i = r := by omega
    subst this
    by_cases e10 : i = 10
    · have c1 : I 108 1 ≤ nI i := by rw [hN, hcn]; exact nI_le (by omega) (by omega)
      refine am_wq_T (cut := fun z pc => ((Nat.beq z 144 && Nat.beq pc 57) || (Nat.beq z 144 && Nat.beq pc 108))) (inl := fun z => !(Nat.beq z 121)) 120 _ _ _ ?_
      exact And.intro rfl (And.intro ⟨rfl, vp1N⟩ (And.intro (fun _ => hK) (fun q => absurd c1 q)))
    · have c1 : ¬ I 108 1 ≤ nI i := by rw [hN, hcn]; exact nI_ge (by omega) (by omega)
      have c2 : ¬ I 108 1 < 10 := by rw [hN, hcn]; decide
      have h1' := h1 (by omega)
      refine am_wq_T (cut := fun z pc => ((Nat.beq z 144 && Nat.beq pc 57) || (Nat.beq z 144 && Nat.beq pc 108))) (inl := fun z => !(Nat.beq z 121)) 120 _ _ _ ?_
      refine And.intro rfl (And.intro ⟨rfl, vp1N⟩ (And.intro (fun q => absurd q c1) (fun _ => And.intro rfl (And.intro ⟨rfl, vp1N⟩ (And.intro (fun q => absurd q c2) (fun _ => ?_))))))
      refine And.intro rfl (m_ofV (h := i) (w := 2) hN rfl rfl (by omega) (by decide) rfl (And.intro (fun q => ?_) (fun q => ?_)))
      · have : ¬ i = h := fun z => q (by rw [z])
        rw [lfv_n this] at h1'
        exact And.intro (fun _ => hK) (fun z => absurd h1' z)
      · have : i = h := (nI_eq (by omega) (by omega)).mp (Decidable.not_not.mp q)
        subst this
        rw [lfv_y] at h1'
        exact And.intro (fun _ => hK) (fun z => absurd h1' z)
  | j + 1, i, hi => by
    have c1 : ¬ I 108 1 ≤ nI i := by rw [hN, hcn]; exact nI_ge (by omega) (by omega)
    have c2 : ¬ I 108 1 < 10 := by rw [hN, hcn]; decide
    have h2 := h0 i (by omega)
    have key := m_room_l hN hcn h10 h0 hr h1 hK j (i + 1) (by omega)
    rw [nI_succ] at key
    refine am_wq_T (cut := fun z pc => ((Nat.beq z 144 && Nat.beq pc 57) || (Nat.beq z 144 && Nat.beq pc 108))) (inl := fun z => !(Nat.beq z 121)) 120 _ _ _ ?_
    refine And.intro rfl (And.intro ⟨rfl, vp1N⟩ (And.intro (fun q => absurd q c1) (fun _ => And.intro rfl (And.intro ⟨rfl, vp1N⟩ (And.intro (fun q => absurd q c2) (fun _ => ?_))))))
    refine And.intro rfl (m_ofV (h := i) (w := 2) hN rfl rfl (by omega) (by decide) rfl (And.intro (fun q => ?_) (fun q => ?_)))
    · have : ¬ i = h := fun z => q (by rw [z])
      rw [lfv_n this] at h2
      exact And.intro (fun z => absurd z h2) (fun _ => key)
    · have : i = h := (nI_eq (by omega) (by omega)).mp (Decidable.not_not.mp q)
      subst this
      rw [lfv_y] at h2
      exact And.intro (fun z => absurd z h2) (fun _ => key)
end T72
