/-! dig: the reference's end -/
section T75
variable {kt : Nat → Nat × Nat} {I I' : Nat → Nat → Int32} {J J' : Nat → Nat → Int64} {T T' : Nat → Nat → Nat} {n s : Nat} {L : Nat} {xs : Nat → Int32} {K : Option Value → am_M → Prop} {N N' : Nat → Int32} {hc wc tc h w : Nat}
theorem m_dtail2 {p sp ow e hv : Int32} {r : Nat} (hr : r < 10) (hcn : I 108 1 = nI hc) (h10 : hc ≤ 10) (hK : K (some (.int (nI r))) (am_mk kt (am_up I 108 1 (if r = hc then nI (hc + 1) else nI hc)) J T n s)) : am_T am_C (144, 4, 154, [.ref 107, .int p, .int sp, .int hv, .int ow, .int e, .int (nI r)], []) (am_mk kt I J T n s) K := by
  refine am_wq_T (cut := fun z pc => (Nat.beq z 144 && Nat.beq pc 154)) (inl := fun _ => false) 120 _ _ _ ?_
  refine And.intro rfl (And.intro ⟨rfl, vp1N⟩ (And.intro rfl (And.intro ⟨rfl, vp1N⟩ (And.intro (fun q => ?_) (fun q => ?_)))))
  · have n1 : ¬ r = hc := fun z => q ((congrArg nI z).trans hcn.symm)
    rw [if_neg n1, ← hcn, ← Int32.add_zero (I 108 1)] at hK
    exact And.intro ⟨rfl, vp1N⟩ hK
  · have n0 : nI r = nI hc := (Decidable.not_not.mp q).trans hcn
    have n1 : r = hc := (nI_eq (by omega) (by omega)).mp n0
    rw [if_pos n1, nI_succ, ← hcn] at hK
    exact And.intro ⟨rfl, vp1N⟩ hK
theorem m_dtail1 {p sp ow e hv : Int32} {r : Nat} (hr : r < 10) (hK : am_T am_C (144, 4, 154, [.ref 107, .int p, .int sp, .int hv, .int ow, .int e, .int (nI r)], []) (am_mk kt (layI (am_up I 108 5 (I 108 5 + sp)) r 0 p sp ow) J T n s) K) : am_T am_C (144, 4, 133, [.ref 107, .int p, .int sp, .int hv, .int ow, .int e, .int (nI r)], []) (am_mk kt I J T n s) K := by
  have v5 : vp_in 5 1448 := vpd rfl
  refine am_wq_T (cut := fun z pc => ((Nat.beq z 144 && Nat.beq pc 133) || (Nat.beq z 144 && Nat.beq pc 154))) (inl := fun z => !(Nat.beq z 124)) 120 _ _ _ ?_
  refine And.intro rfl (And.intro ⟨rfl, v5⟩ (And.intro ⟨rfl, v5⟩ ?_))
  exact And.intro rfl (m_lays (I := am_up I 108 5 (I 108 5 + sp)) (h := r) rfl (by omega) hK)
theorem m_dtail0 {p sp ow e : Int32} {r : Nat} (hh : h < 10) (hr : r < 10) (hK : am_T am_C (144, 4, 133, [.ref 107, .int p, .int sp, .int (nI h), .int ow, .int e, .int (nI r)], []) (am_mk kt (am_up I 108 (21 + 5 * h + 2) (I 108 (21 + 5 * h + 2) - e)) J T n s) K) : am_T am_C (144, 4, 108, [.ref 107, .int p, .int sp, .int (nI h), .int ow, .int e, .int (nI r)], []) (am_mk kt I J T n s) K := by
  have c1 : ¬ nI r = 10 := fun z => by have := (nI_eq (b := 10) (by omega) (by decide)).mp z; omega
  refine am_wq_T (cut := fun z pc => ((Nat.beq z 144 && Nat.beq pc 108) || (Nat.beq z 144 && Nat.beq pc 133))) (inl := fun z => !((Nat.beq z 121 || Nat.beq z 122))) 120 _ _ _ ?_
  refine And.intro (fun _ => ?_) (fun q => absurd c1 q)
  refine And.intro rfl (m_of (h := h) (w := 2) rfl rfl (by omega) (by decide) ?_)
  exact And.intro rfl (m_put (h := h) (w := 2) rfl rfl (by omega) (by decide) hK)
end T75
