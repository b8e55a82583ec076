/-! the reference reads an expression: signs that join, and where it stops -/
section T97
variable {kt : Nat → Nat × Nat} {I I' I0 : Nat → Nat → Int32} {J J' : Nat → Nat → Int64} {T T' : Nat → Nat → Nat} {n s : Nat} {K : Option Value → am_M → Prop} {B : Nat → Int32} {len key nn nb : Nat} {p : pSt} {c w : List Int32}
theorem mP_tok (h : mP B I0 I p c w) (g0 : p.2.2.1 ≠ -1) (g1 : p.2.2.1 ≠ 256) (g2 : p.2.2.1 ≠ 257) (g3 : p.2.2.1 ≠ 258) : I 107 14 = 3 ∧ I 107 15 = p.2.2.1 := h.2.2.2.2.1.2.2.2.2 g0 g1 g2 g3
theorem mP_no3 (h : mP B I0 I p c w) (g : p.2.2.1 = -1 ∨ p.2.2.1 = 256 ∨ p.2.2.1 = 257 ∨ p.2.2.1 = 258) : ¬ I 107 14 = 3 := by
  have ht := h.2.2.2.2.1
  unfold rsT at ht
  obtain ⟨t0, t1, t2, t3, t4⟩ := ht
  rcases g with g | g | g | g
  · rw [t0 g]; decide
  · rw [(t1 g).1]; decide
  · have q := t2 g
    by_cases u : p.2.1 - p.1 ≤ 4
    · rw [if_pos u] at q; rw [q.1]; decide
    · rw [if_neg u] at q; rw [q]; decide
  · rw [t3 g]; decide
theorem jn_tok {l : Nat} {g : Int32} (h : jn l g = true) : g ≠ -1 ∧ g ≠ 256 ∧ g ≠ 257 ∧ g ≠ 258 ∧ g ≠ 41 := by
  rcases jn_g h with e | e | e | e | e | e | e | e | e
  all_goals rw [e]; decide
/-- a sign that joins is taken -/
theorem m_op {l : Nat} {y : List Int32} {v4 : Value} (hT : tpS I0 B len) (hl5 : l < 5) (hj : jn l p.2.2.1 = true) (he : p.2.1 ≤ len) (hnb : nb ≤ 8) (h : mP B I0 I p c (w ++ y.reverse)) (hb : blk w (nI (l + 1))) (hy : ∀ x, x ∈ y → x ≠ -11 ∧ ¬ rkS x < nI (l + 1)) (hl : c.length + (w ++ y.reverse).length < 96) (hf : I 122 nb = 0 ∨ I 122 nb = 1) (h2 : l = 2 → I 122 nb = 0) (hK : ∀ I' v4, mP B I0 I' (nxS B len p) (c ++ y) (w ++ [sgV p.2.2.1]) → (∀ j, j ≠ nb → I' 122 j = I 122 j) → (I' 122 nb = if l = 2 then 1 else if l < 2 then 0 else I 122 nb) → am_T am_C (181, 3, 28, [.ref 107, .int (nI nb), .int (nI nn), .int 1, v4], []) (am_mk kt I' J T n s) K) : am_T am_C (181, 3, 28, [.ref 107, .int (nI nb), .int (nI nn), .int 0, v4], []) (am_mk kt I J T n s) K := by
  have ht := jn_tok hj
  have tok := mP_tok h ht.1 ht.2.1 ht.2.2.1 ht.2.2.2.1
  have js := jn_s hl5 hj
  have n0 : ¬ I 107 14 = 0 := by rw [tok.1]; decide
  have n3 : ¬ ¬ I 107 14 = 3 := fun z => z tok.1
  have n41 : ¬ I 107 15 = 41 := by rw [tok.2]; exact ht.2.2.2.2
  have vb : vp_in (nI nb) 10 := vpl (by omega) (by decide)
  have cb : (nI nb).toNatClampNeg = nb := nI_clamp (by omega)
  have tail : ∀ t : Int32, (t = 0 ∨ t = 1) → (t = if l = 2 then 1 else if l < 2 then 0 else I 122 nb) → am_T am_C (181, 3, 306, [.ref 107, .int (nI nb), .int (nI nn), .int 0, .int (sgV p.2.2.1)], []) (am_mk kt (am_up I 122 nb t) J T n s) K := fun t _ ht2 => by
    have g1 : mP B I0 (am_up I 122 nb t) p c (w ++ y.reverse) := mP_tst h
    refine am_wq_T (cut := fun z pc => ((Nat.beq z 181 && Nat.beq pc 28) || (Nat.beq z 181 && Nat.beq pc 306))) (inl := fun z => !((Nat.beq z 177 || (Nat.beq z 178 || Nat.beq z 174)))) 120 _ _ _ ?_
    refine m_rank js.2.1 (And.intro rfl (m_settle y c _ g1 hb hy (by omega) fun I1 a1 a2 => ?_))
    have e24 : I1 107 24 = nI w.length := a1.2.2.2.2.2.2.2.2.1
    have wl : w.length < 96 := by
      have : (w ++ y.reverse).length = w.length + y.reverse.length := List.length_append
      omega
    have v1 : vp_in (I1 107 24) 96 := by rw [e24]; exact vpl wl (by decide)
    have g2 : mP B I0 (am_up (am_up I1 121 (I1 107 24).toNatClampNeg (sgV p.2.2.1)) 107 24 (am_up I1 121 (I1 107 24).toNatClampNeg (sgV p.2.2.1) 107 24 + 1)) p (c ++ y) (w ++ [sgV p.2.2.1]) := mP_push (by rw [e24, nI_clamp (by omega)]) (by rw [up_off (by omega), e24, nI_1]) a1
    refine And.intro rfl (And.intro rfl (And.intro ⟨rfl, v1⟩ (And.intro rfl (And.intro rfl (And.intro rfl (m_goP hT he ht.1 ht.2.2.2.1 g2 fun I2 d1 d2 => ?_))))))
    have d3 : I2 122 = I1 122 := d2.trans (by
      show am_up (am_up I1 121 (I1 107 24).toNatClampNeg (sgV p.2.2.1)) 107 24 _ 122 = I1 122
      rw [up_off (show (122 : Nat) ≠ 107 by omega), up_off (show (122 : Nat) ≠ 121 by omega)])
    refine hK I2 _ d1 (fun j hj => ?_) ?_
    · rw [d3, a2, up_ne (by omega)]
    · rw [d3, a2, up_eq]; exact ht2
  have tl2 : ∀ t : Int32, (t = 0 ∨ t = 1) → (t = if l = 2 then 1 else if l < 2 then 0 else I 122 nb) → am_T am_C (181, 3, 306, [.ref 107, .int (nI nb), .int (nI nn), .int 0, .int (sgV p.2.2.1)], []) (am_mk kt (am_up I 122 (nI nb).toNatClampNeg t) J T n s) K := by rw [cb]; exact tail
  have go237 : am_T am_C (181, 3, 248, [.ref 107, .int (nI nb), .int (nI nn), .int 0, .int (sgV p.2.2.1)], []) (am_mk kt I J T n s) K := by
    by_cases l2 : l = 2
    · have r3 : rkS (sgV p.2.2.1) = 3 := by rw [js.2.1, l2]; rfl
      have f0 : I 122 (nI nb).toNatClampNeg = 0 := by rw [cb]; exact h2 l2
      have n33 : ¬ ¬ (3 : Int32) = 3 := fun z => z rfl
      have kk := tl2 1 (.inr rfl) (by rw [if_pos l2])
      refine am_wq_T (cut := fun z pc => ((Nat.beq z 181 && Nat.beq pc 28) || (Nat.beq z 181 && Nat.beq pc 306))) (inl := fun z => !((Nat.beq z 177 || (Nat.beq z 178 || Nat.beq z 174)))) 120 _ _ _ ?_
      exact m_rank r3 (And.intro (fun z => absurd z n33) (fun _ => And.intro rfl (And.intro ⟨rfl, vb⟩ (And.intro (fun _ => And.intro rfl (m_rank r3 (And.intro (fun _ => And.intro ⟨rfl, vb, .inr rfl⟩ kk) (fun z => absurd rfl z)))) (fun z => absurd f0 z)))))
    · have r3 : ¬ nI (l + 1) = 3 := fun z => l2 (by have := (nI_eq (b := 3) (by omega) (by decide)).mp z; omega)
      by_cases l1 : l < 2
      · have r4 : nI (l + 1) ≤ 3 := nI_le (b := 3) (by omega) (by decide)
        have kk := tl2 0 (.inl rfl) (by rw [if_neg l2, if_pos l1])
        refine am_wq_T (cut := fun z pc => ((Nat.beq z 181 && Nat.beq pc 28) || (Nat.beq z 181 && Nat.beq pc 306))) (inl := fun z => !((Nat.beq z 177 || (Nat.beq z 178 || Nat.beq z 174)))) 120 _ _ _ ?_
        exact m_rank js.2.1 (And.intro (fun _ => And.intro rfl (m_rank js.2.1 (And.intro (fun z => absurd z r3) (fun _ => m_rank js.2.1 (And.intro (fun _ => And.intro ⟨rfl, vb, .inl rfl⟩ kk) (fun z => absurd r4 z)))))) (fun z => absurd r3 z))
      · have r4 : ¬ nI (l + 1) ≤ 3 := nI_ge (a := 3) (by omega) (by omega)
        rcases hf with hf | hf
        · have f0 : I 122 (nI nb).toNatClampNeg = 0 := by rw [cb]; exact hf
          have kk := tl2 0 (.inl rfl) (by rw [if_neg l2, if_neg l1, hf])
          refine am_wq_T (cut := fun z pc => ((Nat.beq z 181 && Nat.beq pc 28) || (Nat.beq z 181 && Nat.beq pc 306))) (inl := fun z => !((Nat.beq z 177 || (Nat.beq z 178 || Nat.beq z 174)))) 120 _ _ _ ?_
          exact m_rank js.2.1 (And.intro (fun _ => And.intro rfl (m_rank js.2.1 (And.intro (fun z => absurd z r3) (fun _ => m_rank js.2.1 (And.intro (fun z => absurd z r4) (fun _ => And.intro rfl (And.intro ⟨rfl, vb⟩ (And.intro (fun _ => And.intro ⟨rfl, vb, .inl rfl⟩ kk) (fun z => absurd f0 z))))))))) (fun z => absurd r3 z))
        · have f0 : ¬ I 122 (nI nb).toNatClampNeg = 0 := by rw [cb, hf]; decide
          have kk := tl2 1 (.inr rfl) (by rw [if_neg l2, if_neg l1, hf])
          refine am_wq_T (cut := fun z pc => ((Nat.beq z 181 && Nat.beq pc 28) || (Nat.beq z 181 && Nat.beq pc 306))) (inl := fun z => !((Nat.beq z 177 || (Nat.beq z 178 || Nat.beq z 174)))) 120 _ _ _ ?_
          exact m_rank js.2.1 (And.intro (fun _ => And.intro rfl (m_rank js.2.1 (And.intro (fun z => absurd z r3) (fun _ => m_rank js.2.1 (And.intro (fun z => absurd z r4) (fun _ => And.intro rfl (And.intro ⟨rfl, vb⟩ (And.intro (fun z => absurd z f0) (fun _ => And.intro ⟨rfl, vb, .inr rfl⟩ kk)))))))) ) (fun z => absurd r3 z))
  refine am_wq_T (cut := fun z pc => ((Nat.beq z 181 && Nat.beq pc 28) || ((Nat.beq z 181 && Nat.beq pc 248) || (Nat.beq z 181 && Nat.beq pc 306)))) (inl := fun z => !((Nat.beq z 177 || (Nat.beq z 178 || (Nat.beq z 174 || Nat.beq z 179))))) 120 _ _ _ ?_
  exact And.intro (fun z => absurd rfl z) (fun _ => And.intro rfl (And.intro (fun z => absurd z n0) (fun _ => And.intro (fun _ => And.intro rfl (And.intro (fun z => absurd z n3) (fun _ => And.intro rfl (And.intro (fun _ => And.intro rfl (m_sign h rfl (And.intro (fun z => absurd z js.2.2.1) (fun _ => go237)))) (fun z => absurd n41 z))))) (fun z => absurd rfl z))))
theorem rk_pos (x : Int32) : ¬ rkS x < 0 := by
  unfold rkS
  repeat' split
  all_goals decide
/-- nothing joins here, and no bracket closes: it is refused -/
theorem m_stop {y : List Int32} {v4 : Value} (hnb : 0 < nb) (hnb9 : nb ≤ 9) (hl : ws B len p) (hl96 : len ≤ 96) (h : mP B I0 I p c (w ++ y.reverse)) (hb : ∃ w', w = w' ++ [-11]) (hy : ∀ x, x ∈ y → x ≠ -11) (hc : c.length + (w ++ y.reverse).length ≤ 96) (g41 : ¬ p.2.2.1 = 41) (hs : ∀ l, l < 5 → l ≠ 2 → ¬ jn l p.2.2.1 = true) (h2 : jn 2 p.2.2.1 = true → I 122 nb = 1) (hF : ∀ I', ch (fun r => r = 107 ∨ r = 120 ∨ r = 121 ∨ r = 122) I0 I' → (∀ k, ¬ (12 ≤ k ∧ k < 17) → k ≠ 21 → k ≠ 22 → k ≠ 24 → I' 107 k = I0 107 k) → I' 107 13 = nI p.1 → K (some (.int 0)) (am_mk kt I' J T n s)) : am_T am_C (181, 3, 28, [.ref 107, .int (nI nb), .int (nI nn), .int 0, v4], []) (am_mk kt I J T n s) K := by
  have kk := hF I h.1 h.2.1 h.2.2.2.1
  have vb : vp_in (nI nb) 10 := vpl (by omega) (by decide)
  have cb : (nI nb).toNatClampNeg = nb := nI_clamp (by omega)
  by_cases g0 : p.2.2.1 = -1
  · have t0 : I 107 14 = 0 := h.2.2.2.2.1.1 g0
    have b0 : blk w 0 := by
      obtain ⟨w', e⟩ := hb
      exact .inr ⟨w', -11, e, .inl rfl⟩
    have nz : ¬ nI nb = 0 := nI_ne0 hnb (by omega)
    refine am_wq_T (cut := fun z pc => ((Nat.beq z 181 && Nat.beq pc 28) || (Nat.beq z 181 && Nat.beq pc 306))) (inl := fun z => !((Nat.beq z 177 || (Nat.beq z 178 || (Nat.beq z 174 || Nat.beq z 179))))) 120 _ _ _ ?_
    refine And.intro (fun z => absurd rfl z) (fun _ => And.intro rfl (And.intro (fun _ => And.intro rfl (m_settle y c I h b0 (fun x hx => ⟨hy x hx, rk_pos x⟩) hc fun I1 a1 a2 => ?_)) (fun z => absurd t0 z)))
    exact And.intro (fun _ => And.intro rfl (hF I1 a1.1 a1.2.1 a1.2.2.2.1)) (fun z => absurd nz z)
  · have n0 : ¬ I 107 14 = 0 := by
      by_cases g1 : p.2.2.1 = 256
      · rw [(h.2.2.2.2.1.2.1 g1).1]; decide
      by_cases g2 : p.2.2.1 = 257
      · have q := h.2.2.2.2.1.2.2.1 g2
        by_cases u : p.2.1 - p.1 ≤ 4
        · rw [if_pos u] at q; rw [q.1]; decide
        · rw [if_neg u] at q; rw [q]; decide
      by_cases g3 : p.2.2.1 = 258
      · rw [h.2.2.2.2.1.2.2.2.1 g3]; decide
      rw [(mP_tok h g0 g1 g2 g3).1]; decide
    have n237 : am_T am_C (181, 3, 237, [.ref 107, .int (nI nb), .int (nI nn), .int 0, v4], []) (am_mk kt I J T n s) K := by
      by_cases j2 : jn 2 p.2.2.1 = true
      · have js := jn_s (l := 2) (by decide) j2
        have r3 : rkS (sgV p.2.2.1) = 3 := js.2.1
        have n33 : ¬ ¬ (3 : Int32) = 3 := fun z => z rfl
        have f0 : ¬ I 122 (nI nb).toNatClampNeg = 0 := by rw [cb, h2 j2]; decide
        refine am_wq_T (cut := fun z pc => ((Nat.beq z 181 && Nat.beq pc 28) || (Nat.beq z 181 && Nat.beq pc 306))) (inl := fun z => !((Nat.beq z 177 || (Nat.beq z 178 || (Nat.beq z 174 || Nat.beq z 179))))) 120 _ _ _ ?_
        exact And.intro rfl (m_sign h rfl (And.intro (fun z => absurd z js.2.2.1) (fun _ => m_rank r3 (And.intro (fun z => absurd z n33) (fun _ => And.intro rfl (And.intro ⟨rfl, vb⟩ (And.intro (fun z => absurd z f0) (fun _ => And.intro rfl kk))))))))
      · have s0 : sgV p.2.2.1 = 0 := sgV_0 fun l hl => by
          by_cases e : l = 2
          · rw [e]; exact j2
          · exact hs l hl e
        refine am_wq_T (cut := fun z pc => ((Nat.beq z 181 && Nat.beq pc 28) || (Nat.beq z 181 && Nat.beq pc 306))) (inl := fun z => !((Nat.beq z 177 || (Nat.beq z 178 || (Nat.beq z 174 || Nat.beq z 179))))) 120 _ _ _ ?_
        exact And.intro rfl (m_sign h s0 (And.intro (fun _ => And.intro rfl kk) (fun z => absurd rfl z)))
    by_cases t3 : I 107 14 = 3
    · have n3 : ¬ ¬ I 107 14 = 3 := fun z => z t3
      have n41 : ¬ I 107 15 = 41 := by
        have g1 : p.2.2.1 ≠ 256 := fun z => mP_no3 h (.inr (.inl z)) t3
        have g2 : p.2.2.1 ≠ 257 := fun z => mP_no3 h (.inr (.inr (.inl z))) t3
        have g3 : p.2.2.1 ≠ 258 := fun z => mP_no3 h (.inr (.inr (.inr z))) t3
        rw [(mP_tok h g0 g1 g2 g3).2]
        exact g41
      refine am_wq_T (cut := fun z pc => ((Nat.beq z 181 && Nat.beq pc 28) || (Nat.beq z 181 && Nat.beq pc 237))) (inl := fun z => !((Nat.beq z 177 || (Nat.beq z 178 || (Nat.beq z 174 || Nat.beq z 179))))) 120 _ _ _ ?_
      exact And.intro (fun z => absurd rfl z) (fun _ => And.intro rfl (And.intro (fun z => absurd z n0) (fun _ => And.intro (fun _ => And.intro rfl (And.intro (fun z => absurd z n3) (fun _ => And.intro rfl (And.intro (fun _ => n237) (fun z => absurd n41 z))))) (fun z => absurd rfl z))))
    · refine am_wq_T (cut := fun z pc => ((Nat.beq z 181 && Nat.beq pc 28) || (Nat.beq z 181 && Nat.beq pc 237))) (inl := fun z => !((Nat.beq z 177 || (Nat.beq z 178 || (Nat.beq z 174 || Nat.beq z 179))))) 120 _ _ _ ?_
      exact And.intro (fun z => absurd rfl z) (fun _ => And.intro rfl (And.intro (fun z => absurd z n0) (fun _ => And.intro (fun _ => And.intro rfl (And.intro (fun _ => n237) (fun z => absurd t3 z))) (fun z => absurd rfl z))))
/-- neither a not nor a bracket opens: on to a part -/
theorem m_to158 {v4 : Value} (hnn : nn < 1000) (hnb : nb < 1000) (h : mP B I0 I p c w) (h33 : ¬ (p.2.2.1 = 33 ∧ nn < 8)) (h40 : ¬ (p.2.2.1 = 40 ∧ nb < 8)) (hK : am_T am_C (181, 3, 158, [.ref 107, .int (nI nb), .int (nI nn), .int 1, v4], []) (am_mk kt I J T n s) K) : am_T am_C (181, 3, 28, [.ref 107, .int (nI nb), .int (nI nn), .int 1, v4], []) (am_mk kt I J T n s) K := by
  by_cases t3 : I 107 14 = 3
  · have n3 : ¬ ¬ I 107 14 = 3 := fun z => z t3
    have g0 : p.2.2.1 ≠ -1 := fun z => mP_no3 h (.inl z) t3
    have g1 : p.2.2.1 ≠ 256 := fun z => mP_no3 h (.inr (.inl z)) t3
    have g2 : p.2.2.1 ≠ 257 := fun z => mP_no3 h (.inr (.inr (.inl z))) t3
    have g3 : p.2.2.1 ≠ 258 := fun z => mP_no3 h (.inr (.inr (.inr z))) t3
    have ev := (mP_tok h g0 g1 g2 g3).2
    have n97 : am_T am_C (181, 3, 97, [.ref 107, .int (nI nb), .int (nI nn), .int 1, v4], []) (am_mk kt I J T n s) K := by
      by_cases e40 : p.2.2.1 = 40
      · have d40 : ¬ ¬ I 107 15 = 40 := fun z => z (ev.trans e40)
        have c8 : (8 : Int32) ≤ nI nb := nI_le (a := 8) (by
          have : ¬ nb < 8 := fun z => h40 ⟨e40, z⟩
          omega) (by omega)
        refine am_wq_T (cut := fun z pc => ((Nat.beq z 181 && Nat.beq pc 28) || ((Nat.beq z 181 && Nat.beq pc 97) || (Nat.beq z 181 && Nat.beq pc 158)))) (inl := fun z => !(Nat.beq z 174)) 120 _ _ _ ?_
        exact And.intro rfl (And.intro (fun z => absurd z n3) (fun _ => And.intro rfl (And.intro (fun z => absurd z d40) (fun _ => And.intro (fun _ => hK) (fun z => absurd c8 z)))))
      · have d40 : ¬ I 107 15 = 40 := by rw [ev]; exact e40
        refine am_wq_T (cut := fun z pc => ((Nat.beq z 181 && Nat.beq pc 28) || ((Nat.beq z 181 && Nat.beq pc 97) || (Nat.beq z 181 && Nat.beq pc 158)))) (inl := fun z => !(Nat.beq z 174)) 120 _ _ _ ?_
        exact And.intro rfl (And.intro (fun z => absurd z n3) (fun _ => And.intro rfl (And.intro (fun _ => hK) (fun z => absurd d40 z))))
    by_cases e33 : p.2.2.1 = 33
    · have d33 : ¬ ¬ I 107 15 = 33 := fun z => z (ev.trans e33)
      have c8 : (8 : Int32) ≤ nI nn := nI_le (a := 8) (by
        have : ¬ nn < 8 := fun z => h33 ⟨e33, z⟩
        omega) (by omega)
      refine am_wq_T (cut := fun z pc => ((Nat.beq z 181 && Nat.beq pc 28) || ((Nat.beq z 181 && Nat.beq pc 97) || (Nat.beq z 181 && Nat.beq pc 158)))) (inl := fun z => !(Nat.beq z 174)) 120 _ _ _ ?_
      exact And.intro (fun _ => And.intro (fun z => absurd z m1z) (fun _ => And.intro rfl (And.intro (fun z => absurd z n3) (fun _ => And.intro rfl (And.intro (fun z => absurd z d33) (fun _ => And.intro (fun _ => n97) (fun z => absurd c8 z))))))) (fun z => absurd m1z z)
    · have d33 : ¬ I 107 15 = 33 := by rw [ev]; exact e33
      refine am_wq_T (cut := fun z pc => ((Nat.beq z 181 && Nat.beq pc 28) || ((Nat.beq z 181 && Nat.beq pc 97) || (Nat.beq z 181 && Nat.beq pc 158)))) (inl := fun z => !(Nat.beq z 174)) 120 _ _ _ ?_
      exact And.intro (fun _ => And.intro (fun z => absurd z m1z) (fun _ => And.intro rfl (And.intro (fun z => absurd z n3) (fun _ => And.intro rfl (And.intro (fun _ => n97) (fun z => absurd d33 z)))))) (fun z => absurd m1z z)
  · refine am_wq_T (cut := fun z pc => ((Nat.beq z 181 && Nat.beq pc 28) || (Nat.beq z 181 && Nat.beq pc 158))) (inl := fun z => !(Nat.beq z 174)) 120 _ _ _ ?_
    exact And.intro (fun _ => And.intro (fun z => absurd z m1z) (fun _ => And.intro rfl (And.intro (fun _ => And.intro rfl (And.intro (fun _ => hK) (fun z => absurd t3 z))) (fun z => absurd t3 z)))) (fun z => absurd m1z z)
end T97
