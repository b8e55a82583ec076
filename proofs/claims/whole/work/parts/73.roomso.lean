/-! rooms: open land, no room -/
section T73
variable {kt : Nat → Nat × Nat} {I I' : Nat → Nat → Int32} {J J' : Nat → Nat → Int64} {T T' : Nat → Nat → Nat} {n s : Nat} {L : Nat} {xs : Nat → Int32} {K : Option Value → am_M → Prop} {N N' : Nat → Int32} {hc wc tc h w : Nat}
theorem m_room_o {p sp ow e hv : Int32} (hN : I 108 = N) (hcn : N 1 = nI hc) (h10 : hc < 10) (hK : am_T am_C (144, 4, 108, [.ref 107, .int p, .int sp, .int hv, .int ow, .int e, .int (nI hc)], []) (am_mk kt I J T n s) K) : ∀ (j i : Nat), i + j = hc → am_T am_C (144, 4, 57, [.ref 107, .int p, .int sp, .int hv, .int ow, .int e, .int (nI i)], []) (am_mk kt I J T n s) K
  | 0, i, hi => by
    have : i = hc := by omega
    subst this
    have c1 : I 108 1 ≤ nI i := by rw [hN, hcn]; exact nI_le (by omega) (by omega)
    refine am_wq_T (cut := fun z pc => ((Nat.beq z 144 && Nat.beq pc 57) || (Nat.beq z 144 && Nat.beq pc 108))) (inl := fun z => !(Nat.beq z 121)) 120 _ _ _ ?_
    exact And.intro rfl (And.intro ⟨rfl, vp1N⟩ (And.intro (fun _ => hK) (fun q => absurd c1 q)))
  | j + 1, i, hi => by
    have c1 : ¬ I 108 1 ≤ nI i := by rw [hN, hcn]; exact nI_ge (by omega) (by omega)
    have c2 : I 108 1 < 10 := by rw [hN, hcn]; exact nI_lt (b := 10) h10 (by decide)
    have key := m_room_o hN hcn h10 hK j (i + 1) (by omega)
    rw [nI_succ] at key
    refine am_wq_T (cut := fun z pc => ((Nat.beq z 144 && Nat.beq pc 57) || (Nat.beq z 144 && Nat.beq pc 108))) (inl := fun z => !(Nat.beq z 121)) 120 _ _ _ ?_
    exact And.intro rfl (And.intro ⟨rfl, vp1N⟩ (And.intro (fun q => absurd q c1) (fun _ => And.intro rfl (And.intro ⟨rfl, vp1N⟩ (And.intro (fun _ => key) (fun q => absurd c2 q))))))
theorem c_room_n {e : Int32} (hcn : I 21 1 = nI 10) (h0 : ∀ i, i < 10 → ¬ lfv (I (27 + i) 2) e i h = 0) (hK : K (some (.int (-1))) (am_mk kt I J T n s)) : ∀ (j i : Nat) (v4 : Value), i + j = 10 → am_T am_C (19, 0, 16, [.ref 21, .ref (27 + h), .int e, .int (nI i), v4], []) (am_mk kt I J T n s) K
  | 0, i, v4, hi => by
    have : i = 10 := by omega
    subst this
    have c1 : I 21 1 ≤ nI 10 := by rw [hcn]; exact nI_le (by omega) (by omega)
    refine am_wq_T (cut := fun z pc => (Nat.beq z 19 && Nat.beq pc 16)) (inl := fun _ => false) 120 _ _ _ ?_
    exact And.intro rfl (And.intro (fun _ => hK) (fun q => absurd c1 q))
  | j + 1, i, v4, hi => by
    have c1 : ¬ I 21 1 ≤ nI i := by rw [hcn]; exact nI_ge (by omega) (by omega)
    have vh : vp_in (nI i) 10 := vpl (by omega) (by decide)
    have er : am_R (am_k kt, I, J, am_r T, n, s) (am_R (am_k kt, I, J, am_r T, n, s) 21 0) (nI i).toNatClampNeg = 27 + i := rL21 (by omega)
    have g1 : 20 ≤ am_R (am_k kt, I, J, am_r T, n, s) (am_R (am_k kt, I, J, am_r T, n, s) 21 0) (nI i).toNatClampNeg := by rw [er]; omega
    have g2 : 20 ≤ 27 + h := by omega
    have h2 := h0 i (by omega)
    have key := fun v => c_room_n hcn h0 hK j (i + 1) v (by omega)
    rw [nI_succ] at key
    refine am_wq_T (cut := fun z pc => (Nat.beq z 19 && Nat.beq pc 16)) (inl := fun _ => false) 120 _ _ _ ?_
    refine And.intro rfl (And.intro (fun q => absurd q c1) (fun _ => And.intro rfl (And.intro ⟨rfl, vh⟩ ?_)))
    rw [er]
    refine And.intro (kL21 (by omega)) (And.intro rfl (And.intro ⟨rfl, vh⟩ (And.intro ⟨g1, g2⟩ (And.intro (fun q => ?_) (fun q => ?_)))))
    · have q2 : 27 + i = 27 + h := er.symm.trans q
      have : i = h := by omega
      subst this
      rw [lfv_y] at h2
      exact And.intro (fun _ => key _) (fun z => absurd h2 z)
    · have : ¬ i = h := fun z => q (er.trans (by rw [z]))
      rw [lfv_n this] at h2
      exact And.intro (fun _ => key _) (fun z => absurd h2 z)
theorem c_room_o {e : Int32} (h10 : I 21 1 < 10) (hK : K (some (.int (I 21 1))) (am_mk kt I J T n s)) : am_T am_C (19, 0, 0, [.ref 21, .ref (27 + h), .int e, .null, .null], []) (am_mk kt I J T n s) K := by
  have c1 : ¬ 10 ≤ I 21 1 := Int32.not_le.mpr h10
  refine am_wq_T (cut := fun z pc => (Nat.beq z 19 && Nat.beq pc 16)) (inl := fun _ => false) 120 _ _ _ ?_
  exact And.intro rfl (And.intro (fun q => absurd q c1) (fun _ => And.intro rfl hK))
end T73
