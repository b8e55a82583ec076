/-! the reference reads an expression to its end -/
section T99c
variable {kt : Nat → Nat × Nat} {I I' I0 : Nat → Nat → Int32} {J J' : Nat → Nat → Int64} {T T' : Nat → Nat → Nat} {n s : Nat} {K : Option Value → am_M → Prop} {B : Nat → Int32} {len key nn : Nat} {p : pSt} {c w : List Int32}
/-- behind an expression stands what does not belong there -/
theorem m_stop0 {y : List Int32} {v4 : Value} (h : mP B I0 I p c (w ++ y.reverse)) (g0 : p.2.2.1 ≠ -1) (hs : ∀ l, l < 5 → l ≠ 2 → ¬ jn l p.2.2.1 = true) (h2 : jn 2 p.2.2.1 = true → I 122 0 = 1) (hK : K (some (.int 0)) (am_mk kt I J T n s)) : am_T am_C (181, 3, 28, [.ref 107, .int (nI 0), .int (nI nn), .int 0, v4], []) (am_mk kt I J T n s) K := by
  have vb : vp_in (nI 0) 10 := vpl (by decide) (by decide)
  have n0 : ¬ I 107 14 = 0 := by
    by_cases g1 : p.2.2.1 = 256
    · rw [(h.2.2.2.2.1.2.1 g1).1]; decide
    by_cases g2 : p.2.2.1 = 257
    · have q := h.2.2.2.2.1.2.2.1 g2
      by_cases u : p.2.1 - p.1 ≤ 4
      · rw [if_pos u] at q; rw [q.1]; decide
      · rw [if_neg u] at q; rw [q]; decide
    by_cases g3 : p.2.2.1 = 258
    · rw [h.2.2.2.2.1.2.2.2.1 g3]; decide
    rw [(mP_tok h g0 g1 g2 g3).1]; decide
  have n237 : am_T am_C (181, 3, 237, [.ref 107, .int (nI 0), .int (nI nn), .int 0, v4], []) (am_mk kt I J T n s) K := by
    by_cases j2 : jn 2 p.2.2.1 = true
    · have js := jn_s (l := 2) (by decide) j2
      have r3 : rkS (sgV p.2.2.1) = 3 := js.2.1
      have n33 : ¬ ¬ (3 : Int32) = 3 := fun z => z rfl
      have f0 : ¬ I 122 (nI 0).toNatClampNeg = 0 := by
        rw [nI_clamp (by decide), h2 j2]; decide
      refine am_wq_T (cut := fun z pc => ((Nat.beq z 181 && Nat.beq pc 28) || (Nat.beq z 181 && Nat.beq pc 306))) (inl := fun z => !((Nat.beq z 177 || (Nat.beq z 178 || (Nat.beq z 174 || Nat.beq z 179))))) 120 _ _ _ ?_
      exact And.intro rfl (m_sign h rfl (And.intro (fun z => absurd z js.2.2.1) (fun _ => m_rank r3 (And.intro (fun z => absurd z n33) (fun _ => And.intro rfl (And.intro ⟨rfl, vb⟩ (And.intro (fun z => absurd z f0) (fun _ => And.intro rfl hK))))))))
    · have s0 : sgV p.2.2.1 = 0 := sgV_0 fun l hl => by
        by_cases e : l = 2
        · rw [e]; exact j2
        · exact hs l hl e
      refine am_wq_T (cut := fun z pc => ((Nat.beq z 181 && Nat.beq pc 28) || (Nat.beq z 181 && Nat.beq pc 306))) (inl := fun z => !((Nat.beq z 177 || (Nat.beq z 178 || (Nat.beq z 174 || Nat.beq z 179))))) 120 _ _ _ ?_
      exact And.intro rfl (m_sign h s0 (And.intro (fun _ => And.intro rfl hK) (fun z => absurd rfl z)))
  have z0 : nI 0 ≤ 0 := by decide
  by_cases t3 : I 107 14 = 3
  · have n3 : ¬ ¬ I 107 14 = 3 := fun z => z t3
    refine am_wq_T (cut := fun z pc => ((Nat.beq z 181 && Nat.beq pc 28) || (Nat.beq z 181 && Nat.beq pc 237))) (inl := fun z => !((Nat.beq z 177 || (Nat.beq z 178 || (Nat.beq z 174 || Nat.beq z 179))))) 120 _ _ _ ?_
    exact And.intro (fun z => absurd rfl z) (fun _ => And.intro rfl (And.intro (fun z => absurd z n0) (fun _ => And.intro (fun _ => And.intro rfl (And.intro (fun z => absurd z n3) (fun _ => And.intro rfl (And.intro (fun _ => n237) (fun _ => And.intro (fun _ => n237) (fun z => absurd z0 z)))))) (fun z => absurd rfl z))))
  · refine am_wq_T (cut := fun z pc => ((Nat.beq z 181 && Nat.beq pc 28) || (Nat.beq z 181 && Nat.beq pc 237))) (inl := fun z => !((Nat.beq z 177 || (Nat.beq z 178 || (Nat.beq z 174 || Nat.beq z 179))))) 120 _ _ _ ?_
    exact And.intro (fun z => absurd rfl z) (fun _ => And.intro rfl (And.intro (fun z => absurd z n0) (fun _ => And.intro (fun _ => And.intro rfl (And.intro (fun _ => n237) (fun z => absurd t3 z))) (fun z => absurd rfl z))))
theorem m_TE {tk vl en : Int32} {b : Bool} {r : pSt} (hT : tpS I0 B len) (hk3 : key < 3) (hk17 : I0 107 17 = nI key) (hs : rc I0 I (nI p.2.1) (nI p.1) tk vl en) (ht : rsT B p.1 p.2.1 p.2.2.1 tk vl) (hE : p.2.2.1 ≠ -1 → p.2.2.1 ≠ 258 → rsE p.2.1 p.2.2.1 en) (hw : ws B len p) (hc : p.2.2.2.1 = []) (hp : p.2.2.2.2 = 0) (hr : rd B len key 4000 0 p 0 0 = some (b, r)) (h0 : (b = false ∨ r.2.2.1 ≠ -1) → ∀ I', ch (fun r => r = 107 ∨ r = 120 ∨ r = 121 ∨ r = 122) I0 I' → (∀ k, ¬ (12 ≤ k ∧ k < 17) → k ≠ 21 → k ≠ 22 → k ≠ 24 → I' 107 k = I0 107 k) → I' 107 13 = nI r.1 → K (some (.int 0)) (am_mk kt I' J T n s)) (h1 : b = true → r.2.2.1 = -1 → ∀ I', mP B I0 I' r (r.2.2.2.1.map sg_tr) [] → K (some (.int 1)) (am_mk kt I' J T n s)) : am_T am_C (181, 3, 0, [.ref 107, .null, .null, .null, .null], []) (am_mk kt I J T n s) K := by
  have h96 := hT.1
  have hB : ∀ k, k < len → sg_in (B k) 0 255 := fun k hk => (hT.2.2 k hk).2
  obtain ⟨I1, e1⟩ : ∃ I1, I1 = am_up (am_up (am_up (am_up I 107 21 0) 107 22 0) 107 24 0) 122 0 0 := ⟨_, rfl⟩
  have m1 : mP B I0 I1 p (p.2.2.2.1.map sg_tr) [] := by
    obtain ⟨a0, a1, a2, a3, a4, a5, a6⟩ := hs
    rw [hc, e1]
    refine ⟨mP_ch (.inr (.inr (.inr rfl))) (mP_ch (.inl rfl) (mP_ch (.inl rfl) (mP_ch (.inl rfl) (ch_w a0 fun r q => .inl q)))), fun k b1 b2 b3 b4 => ?_, ?_, ?_, ?_, fun b1 b2 => ?_, ?_, ?_, ?_, fun k hk => absurd hk (Nat.not_lt_zero k), fun k hk => absurd hk (Nat.not_lt_zero k)⟩
    · rw [up_ne (by omega), up_ne (by omega), up_ne (by omega), up_ne (by omega)]; exact a1 k b1
    · rw [up_ne (by omega), up_ne (by omega), up_ne (by omega), up_ne (by omega)]; exact a2
    · rw [up_ne (by omega), up_ne (by omega), up_ne (by omega), up_ne (by omega)]; exact a3
    · rw [up_ne (by omega), up_ne (by omega), up_ne (by omega), up_ne (by omega), up_ne (by omega), up_ne (by omega), up_ne (by omega), up_ne (by omega), a4, a5]; exact ht
    · rw [up_ne (by omega), up_ne (by omega), up_ne (by omega), up_ne (by omega), a6]; exact hE b1 b2
    · rw [up_ne (by omega), up_ne (by omega), up_ne (by omega), up_eq]; rfl
    · rw [up_ne (by omega), up_ne (by omega), up_eq, hp]; rfl
    · rw [up_ne (by omega), up_eq]; rfl
  have f0 : I1 122 0 = 0 := by rw [e1, up_eq]
  have v0 : vp_in 0 10 := vpl (k := 0) (by decide) (by decide)
  have main : am_T am_C (181, 3, 28, [.ref 107, .int (nI 0), .int (nI 0), .int 1, .null], []) (am_mk kt I1 J T n s) K := by
    refine (m_rd hT hk3 hk17 4000 0 p 0 0 b r hr (by decide) hw (by decide) (by decide) I1 [] K (fun z => h0 (.inl z)) (.inl f0)).1 (by decide) .null m1 (.inl rfl) rfl (fun _ => f0) (by rw [hc]; exact Nat.zero_le _) (fun hb I2 cs y u a1 a2 a3 a4 a5 a6 a7 a8 => ?_)
    by_cases d : r.2.2.1 = -1
    · have t0 : I2 107 14 = 0 := a1.2.2.2.2.1.1 d
      have o := (rd_ok hB _ _ _ _ _ _ _ (hb ▸ hr : rd B len key 4000 0 p 0 0 = some (true, r)) (by decide) hw)
      have l1 := rd_len hB (hb ▸ hr : rd B len key 4000 0 p 0 0 = some (true, r)) (by decide) hw
      rw [hc] at l1
      have l1' : r.2.2.2.1.length + p.1 ≤ 0 + r.1 := l1
      have lcs : cs.length + y.length = r.2.2.2.1.length := by
        have := congrArg List.length a2
        rw [List.length_append, List.length_map] at this
        exact this
      have ly : (([] : List Int32) ++ y.reverse).length = y.length := by rw [List.length_append, List.length_reverse]; exact Nat.zero_add _
      have o2 := o.2.1
      refine am_wq_T (cut := fun z pc => (Nat.beq z 181 && Nat.beq pc 28)) (inl := fun z => !((Nat.beq z 177 || (Nat.beq z 178 || (Nat.beq z 174 || Nat.beq z 179))))) 120 _ _ _ ?_
      refine And.intro (fun z => absurd rfl z) (fun _ => And.intro rfl (And.intro (fun _ => And.intro rfl (m_settle y cs I2 a1 (.inl rfl) (fun x hx => ⟨(a3 x hx).1, rk_pos x⟩) (by omega) fun I3 b1 b2 => ?_)) (fun z => absurd t0 z)))
      rw [a2] at b1
      exact And.intro (fun z => absurd rfl z) (fun _ => And.intro rfl (h1 hb d I3 b1))
    · exact m_stop0 a1 d (fun l z1 z2 => a8 l (Nat.zero_le _) z1 z2) (a6 (by decide)) (h0 (.inr d) I2 a1.1 a1.2.1 a1.2.2.2.1)
  rw [e1] at main
  refine am_wq_T (cut := fun z pc => (Nat.beq z 181 && Nat.beq pc 28)) (inl := fun z => !((Nat.beq z 177 || (Nat.beq z 178 || (Nat.beq z 174 || Nat.beq z 179))))) 120 _ _ _ ?_
  exact And.intro rfl (And.intro rfl (And.intro rfl (And.intro rfl (And.intro ⟨rfl, v0, .inl rfl⟩ main))))
end T99c
