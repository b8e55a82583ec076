/-! rooms -/
section T71
variable {kt : Nat → Nat × Nat} {I I' : Nat → Nat → Int32} {J J' : Nat → Nat → Int64} {T T' : Nat → Nat → Nat} {n s : Nat} {L : Nat} {xs : Nat → Int32} {K : Option Value → am_M → Prop} {N N' : Nat → Int32} {hc wc tc h w : Nat}
/-- what is left of a hole after a digging -/
def lfv (d e : Int32) (i h : Nat) : Int32 := d - (if i = h then e else 0)
theorem lfv_y {d e : Int32} {i : Nat} : lfv d e i i = d - e := by unfold lfv; rw [if_pos rfl]
theorem lfv_n {d e : Int32} {i h : Nat} (q : ¬ i = h) : lfv d e i h = d - 0 := by unfold lfv; rw [if_neg q]
theorem c_room_l {e : Int32} {r : Nat} (hcn : I 21 1 = nI 10) (h0 : ∀ i, i < r → ¬ lfv (I (27 + i) 2) e i h = 0) (hr : r < 10) (h1 : lfv (I (27 + r) 2) e r h = 0) (hK : K (some (.int (nI r))) (am_mk kt I J T n s)) : ∀ (j i : Nat) (v4 : Value), i + j = r → am_T am_C (19, 0, 16, [.ref 21, .ref (27 + h), .int e, .int (nI i), v4], []) (am_mk kt I J T n s) K
  | 0, i, v4, hi => by
    have : i = r := by omega
    subst this
    have c1 : ¬ I 21 1 ≤ nI i := by rw [hcn]; exact nI_ge (by omega) (by omega)
    have vh : vp_in (nI i) 10 := vpl (by omega) (by decide)
    have er : am_R (am_k kt, I, J, am_r T, n, s) (am_R (am_k kt, I, J, am_r T, n, s) 21 0) (nI i).toNatClampNeg = 27 + i := rL21 (by omega)
    have g1 : 20 ≤ am_R (am_k kt, I, J, am_r T, n, s) (am_R (am_k kt, I, J, am_r T, n, s) 21 0) (nI i).toNatClampNeg := by rw [er]; omega
    have g2 : 20 ≤ 27 + h := by omega
    refine am_wq_T (cut := fun z pc => (Nat.beq z 19 && Nat.beq pc 16)) (inl := fun _ => false) 120 _ _ _ ?_
    refine And.intro rfl (And.intro (fun q => absurd q c1) (fun _ => And.intro rfl (And.intro ⟨rfl, vh⟩ ?_)))
    rw [er]
    refine And.intro (kL21 (by omega)) (And.intro rfl (And.intro ⟨rfl, vh⟩ (And.intro ⟨g1, g2⟩ (And.intro (fun q => ?_) (fun q => ?_)))))
    · have q2 : 27 + i = 27 + h := er.symm.trans q
      have : i = h := by omega
      subst this
      rw [lfv_y] at h1
      exact And.intro (fun z => absurd h1 z) (fun _ => hK)
    · have : ¬ i = h := fun z => q (er.trans (by rw [z]))
      rw [lfv_n this] at h1
      exact And.intro (fun z => absurd h1 z) (fun _ => hK)
  | j + 1, i, v4, hi => by
    have c1 : ¬ I 21 1 ≤ nI i := by rw [hcn]; exact nI_ge (by omega) (by omega)
    have vh : vp_in (nI i) 10 := vpl (by omega) (by decide)
    have er : am_R (am_k kt, I, J, am_r T, n, s) (am_R (am_k kt, I, J, am_r T, n, s) 21 0) (nI i).toNatClampNeg = 27 + i := rL21 (by omega)
    have g1 : 20 ≤ am_R (am_k kt, I, J, am_r T, n, s) (am_R (am_k kt, I, J, am_r T, n, s) 21 0) (nI i).toNatClampNeg := by rw [er]; omega
    have g2 : 20 ≤ 27 + h := by omega
    have h2 := h0 i (by omega)
    have key := fun v => c_room_l hcn h0 hr h1 hK j (i + 1) v (by omega)
    rw [nI_succ] at key
    refine am_wq_T (cut := fun z pc => (Nat.beq z 19 && Nat.beq pc 16)) (inl := fun _ => false) 120 _ _ _ ?_
    refine And.intro rfl (And.intro (fun q => absurd q c1) (fun _ => And.intro rfl (And.intro ⟨rfl, vh⟩ ?_)))
    rw [er]
    refine And.intro (kL21 (by omega)) (And.intro rfl (And.intro ⟨rfl, vh⟩ (And.intro ⟨g1, g2⟩ (And.intro (fun q => ?_) (fun q => ?_)))))
    · have q2 : 27 + i = 27 + h := er.symm.trans q
      have : i = h := by omega
      subst this
      rw [lfv_y] at h2
      exact And.intro (fun _ => key _) (fun z => absurd h2 z)
    · have : ¬ i = h := fun z => q (er.trans (by rw [z]))
      rw [lfv_n this] at h2
      exact And.intro (fun _ => key _) (fun z => absurd h2 z)
end T71
