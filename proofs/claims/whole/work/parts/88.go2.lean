/-! the reference: on to the next word or sign -/
section T88
variable {kt : Nat → Nat × Nat} {I I' I0 : Nat → Nat → Int32} {J J' : Nat → Nat → Int64} {T T' : Nat → Nat → Nat} {n s : Nat} {K : Option Value → am_M → Prop} {B : Nat → Int32} {len a e : Nat} {g : Int32}
theorem srt_o {x : Int32} (h : ¬ (srt x = 256 ∨ srt x = 257)) : srt x = x := by
  unfold srt at h ⊢
  by_cases c : ¬ x < 97 ∧ ¬ 122 < x
  · rw [if_pos c] at h; exact absurd (.inl rfl) h
  · rw [if_neg c] at h ⊢
    by_cases d : ¬ x < 48 ∧ ¬ 57 < x
    · rw [if_pos d] at h; exact absurd (.inr rfl) h
    · rw [if_neg d]
theorem m_go (hT : tpS I0 B len) (he : e ≤ len) {fr tk vl en : Int32} (hs : rc I0 I (nI e) fr tk vl en) (hE : rsE e g en) (hK : ∀ I' tk' vl' en', rc I0 I' (nI (tkn B len e (wd g)).2.1) (nI (tkn B len e (wd g)).1) tk' vl' en' → rsT B (tkn B len e (wd g)).1 (tkn B len e (wd g)).2.1 (tkn B len e (wd g)).2.2 tk' vl' → ((tkn B len e (wd g)).2.2 ≠ -1 → (tkn B len e (wd g)).2.2 ≠ 258 → rsE (tkn B len e (wd g)).2.1 (tkn B len e (wd g)).2.2 en') → K none (am_mk kt I' J T n s)) : am_T am_C (174, 1, 0, [.ref 107, .null], []) (am_mk kt I J T n s) K := by
  have h96 := hT.1
  have sk := skp_b (fun k => decide (B k = 32)) (len - e) e
  obtain ⟨x, hx⟩ : ∃ x, x = skp (fun k => decide (B k = 32)) (len - e) e := ⟨_, rfl⟩
  rw [← hx] at sk
  refine m_sp (e := e) hT (fun I1 hs1 => ?_) (len - e) e I (by omega) rfl hs
  rw [← hx] at hs1
  have hs2 : rc I0 (am_up I1 107 13 (I1 107 12)) (nI x) (nI x) tk vl en := rc_13 hs1.2.2.1 hs1
  obtain ⟨I2, e2⟩ : ∃ I2, I2 = am_up I1 107 13 (I1 107 12) := ⟨_, rfl⟩
  rw [← e2] at hs2
  have close : (en = nI x) ↔ (wd g = true ∧ x = e) := by
    cases q : wd g with
    | true =>
      refine ⟨fun z => ⟨rfl, ?_⟩, fun z => ?_⟩
      · rw [hE.1 q] at z
        exact ((nI_eq (by omega) (by omega)).mp z).symm
      · rw [hE.1 q, z.2]
    | false => exact ⟨fun z => absurd z (hE.2 q x (by omega) (by omega)), fun z => absurd z.1 (by decide)⟩
  have main : ∀ l1 : Int32, (l1 = 0 ↔ ¬ (wd g = true ∧ x = e)) → am_T am_C (174, 1, 63, [.ref 107, .int l1], []) (am_mk kt I2 J T n s) K := fun l1 hl => by
    by_cases c : x < len
    · have c1 : ¬ I2 107 13 = I2 107 11 := by
        rw [hs2.2.2.2.1, rc_len hT hs2]
        exact fun z => by have := (nI_eq (by omega) (by omega)).mp z; omega
      have v13 : vp_in (I2 107 13) 96 := by rw [hs2.2.2.2.1]; exact vpl (by omega) (by decide)
      have eb : I2 117 (I2 107 13).toNatClampNeg = B x := by rw [hs2.2.2.2.1]; exact rc_B hT hs2 c
      by_cases dL : srt (B x) = 256
      · have d : srt (B x) = 256 ∨ srt (B x) = 257 := .inl dL
        rw [tkn_word (w := wd g) hx.symm c d, dL] at hK
        obtain ⟨z, hz⟩ : ∃ z, z = skp (fun k => decide (srt (B k) = 256)) (len - (x + 1)) (x + 1) := ⟨_, rfl⟩
        have zb := skp_b (fun k => decide (srt (B k) = 256)) (len - (x + 1)) (x + 1)
        rw [← hz] at hK zb
        have hz0 : z = skp (fun k => decide (srt (B k) = 256)) (len - x) x := by
          rw [show len - x = (len - (x + 1)) + 1 by omega, skp_y (decide_eq_true dL)]
          exact hz
        have loop := m_wl (kt := kt) (J := J) (T := T) (n := n) (s := s) (K := K) (fr := nI x) (tk := tk) (vl := vl) (en := en) (l1 := .int l1) (b0 := x) hT (fun I3 hs3 => by
          rw [← hz0] at hs3
          have v3 : vp_in (I3 107 13) 96 := by rw [hs3.2.2.2.1]; exact vpl (by omega) (by decide)
          have eb3 : I3 117 (I3 107 13).toNatClampNeg = B x := by rw [hs3.2.2.2.1]; exact rc_B hT hs3 c
          have fin : ∀ tk' : Int32, (tk' = if wd g = true ∧ x = e then 4 else 1) → K none (am_mk kt (am_up (am_up (am_up I3 107 14 tk') 107 15 (am_up I3 107 14 tk' 117 (am_up I3 107 14 tk' 107 13).toNatClampNeg)) 107 16 (am_up (am_up I3 107 14 tk') 107 15 (am_up I3 107 14 tk' 117 (am_up I3 107 14 tk' 107 13).toNatClampNeg) 107 12)) J T n s) := fun tk' ht => by
            refine hK _ tk' (B x) (nI z) (rc_16 (by rw [up_ne (by omega), up_ne (by omega)]; exact hs3.2.2.1) (rc_15 (by rw [up_off (by omega), up_ne (by omega)]; exact eb3) (rc_14 rfl hs3))) ?_ (fun u1 u2 => ?_)
            · show rsT B x z (if wd g = true ∧ x = e then 258 else 256) tk' (B x)
              by_cases u : wd g = true ∧ x = e
              · rw [if_pos u] at ht ⊢
                exact ⟨fun y => absurd y (by decide), fun y => absurd y (by decide), fun y => absurd y (by decide), fun _ => ht, fun _ _ _ y => absurd rfl y⟩
              · rw [if_neg u] at ht ⊢
                exact ⟨fun y => absurd y (by decide), fun _ => ⟨ht, rfl⟩, fun y => absurd y (by decide), fun y => absurd y (by decide), fun _ y => absurd rfl y⟩
            · show rsE z (if wd g = true ∧ x = e then 258 else 256) (nI z)
              by_cases u : wd g = true ∧ x = e
              · exact absurd (if_pos u) u2
              · rw [if_neg u]
                exact ⟨fun _ => rfl, fun y => absurd y (by decide)⟩
          refine am_wq_T (cut := fun z pc => ((Nat.beq z 174 && Nat.beq pc 0) || ((Nat.beq z 174 && Nat.beq pc 38) || ((Nat.beq z 174 && Nat.beq pc 63) || ((Nat.beq z 174 && Nat.beq pc 93) || ((Nat.beq z 174 && Nat.beq pc 117) || ((Nat.beq z 174 && Nat.beq pc 170) || (Nat.beq z 174 && Nat.beq pc 238)))))))) (inl := fun z => !((Nat.beq z 172 || Nat.beq z 173))) 120 _ _ _ ?_
          refine And.intro (fun y => ?_) (fun y => ?_)
          · exact And.intro rfl (And.intro rfl (And.intro rfl (And.intro ⟨rfl, v3⟩ (And.intro rfl (And.intro rfl (And.intro rfl (fin 1 (by rw [if_neg (hl.mp y)]))))))))
          · exact And.intro rfl (And.intro rfl (And.intro rfl (And.intro ⟨rfl, v3⟩ (And.intro rfl (And.intro rfl (And.intro rfl (fin 4 (by rw [if_pos (Classical.not_not.mp fun w => y (hl.mpr w))])))))))))
          (len - x) x I2 (by omega) rfl hs2
        refine am_wq_T (cut := fun z pc => ((Nat.beq z 174 && Nat.beq pc 0) || ((Nat.beq z 174 && Nat.beq pc 38) || ((Nat.beq z 174 && Nat.beq pc 63) || ((Nat.beq z 174 && Nat.beq pc 93) || ((Nat.beq z 174 && Nat.beq pc 117) || ((Nat.beq z 174 && Nat.beq pc 170) || (Nat.beq z 174 && Nat.beq pc 238)))))))) (inl := fun z => !((Nat.beq z 172 || Nat.beq z 173))) 120 _ _ _ ?_
        exact And.intro rfl (And.intro rfl (And.intro (fun _ => And.intro rfl (And.intro rfl (m_isL (k := x) hs2.2.2.2.1 hT hs2 (by omega) (fun _ _ => And.intro (fun y => absurd y m1z) (fun _ => loop)) (fun y => absurd ⟨c, dL⟩ y)))) (fun y => absurd c1 y)))
      · by_cases dF : srt (B x) = 257
        · have d : srt (B x) = 256 ∨ srt (B x) = 257 := .inr dF
          rw [tkn_word (w := wd g) hx.symm c d, dF] at hK
          obtain ⟨z, hz⟩ : ∃ z, z = skp (fun k => decide (srt (B k) = 257)) (len - (x + 1)) (x + 1) := ⟨_, rfl⟩
          have zb := skp_b (fun k => decide (srt (B k) = 257)) (len - (x + 1)) (x + 1)
          rw [← hz] at hK zb
          have hz0 : z = skp (fun k => decide (srt (B k) = 257)) (len - x) x := by
            rw [show len - x = (len - (x + 1)) + 1 by omega, skp_y (decide_eq_true dF)]
            exact hz
          have hs3 : rc I0 (am_up I2 107 15 0) (nI x) (nI x) tk (nv4 B x (x - x)) en := rc_15 (by rw [Nat.sub_self]; rfl) hs2
          have loop := m_wf (kt := kt) (J := J) (T := T) (n := n) (s := s) (K := K) (a := x) (tk := tk) (en := en) (l1 := .int l1) (b0 := x) hT c (fun I3 hs3 => by
            rw [← hz0] at hs3
            have ed : I3 107 12 - I3 107 13 = nI (z - x) := by rw [hs3.2.2.1, hs3.2.2.2.1]; exact nI_subI (by omega)
            have fin : ∀ tk' : Int32, (tk' = if wd g = true ∧ x = e then 4 else if z - x ≤ 4 then 2 else 4) → K none (am_mk kt (am_up (am_up I3 107 14 tk') 107 16 (am_up I3 107 14 tk' 107 12)) J T n s) := fun tk' ht => by
              refine hK _ tk' (nv4 B x (z - x)) (nI z) (rc_16 (by rw [up_ne (by omega)]; exact hs3.2.2.1) (rc_14 rfl hs3)) ?_ (fun u1 u2 => ?_)
              · show rsT B x z (if wd g = true ∧ x = e then 258 else 257) tk' (nv4 B x (z - x))
                by_cases u : wd g = true ∧ x = e
                · rw [if_pos u] at ht ⊢
                  exact ⟨fun y => absurd y (by decide), fun y => absurd y (by decide), fun y => absurd y (by decide), fun _ => ht, fun _ _ _ y => absurd rfl y⟩
                · rw [if_neg u] at ht ⊢
                  refine ⟨fun y => absurd y (by decide), fun y => absurd y (by decide), fun _ => ?_, fun y => absurd y (by decide), fun _ _ y => absurd rfl y⟩
                  by_cases w : z - x ≤ 4
                  · rw [if_pos w] at ht ⊢
                    refine ⟨ht, ?_⟩
                    unfold nv4
                    by_cases v : z - x < 4
                    · rw [if_pos v]
                    · rw [if_neg v, show z - x = 4 by omega]
                  · rw [if_neg w] at ht ⊢
                    exact ht
              · show rsE z (if wd g = true ∧ x = e then 258 else 257) (nI z)
                by_cases u : wd g = true ∧ x = e
                · exact absurd (if_pos u) u2
                · rw [if_neg u]
                  exact ⟨fun _ => rfl, fun y => absurd y (by decide)⟩
            refine am_wq_T (cut := fun z pc => ((Nat.beq z 174 && Nat.beq pc 0) || ((Nat.beq z 174 && Nat.beq pc 38) || ((Nat.beq z 174 && Nat.beq pc 63) || ((Nat.beq z 174 && Nat.beq pc 93) || ((Nat.beq z 174 && Nat.beq pc 117) || ((Nat.beq z 174 && Nat.beq pc 170) || (Nat.beq z 174 && Nat.beq pc 238)))))))) (inl := fun z => !((Nat.beq z 172 || Nat.beq z 173))) 120 _ _ _ ?_
            refine And.intro (fun y => ?_) (fun y => ?_)
            · exact And.intro rfl (And.intro rfl (And.intro rfl (fin 4 (by rw [if_pos (Classical.not_not.mp fun w => y (hl.mpr w))]))))
            · have nu := hl.mp (Classical.not_not.mp y)
              refine And.intro rfl (And.intro rfl (And.intro (fun w => ?_) (fun w => ?_)))
              · have w2 : z - x ≤ 4 := by
                  have w3 : I3 107 12 - I3 107 13 ≤ 4 := w
                  rw [ed] at w3
                  exact (nI_leI (b := 4) (by omega) (by decide)).mp w3
                exact And.intro rfl (And.intro rfl (And.intro rfl (fin 2 (by rw [if_neg nu, if_pos w2]))))
              · have w2 : ¬ z - x ≤ 4 := fun w4 => by
                  have w3 : ¬ I3 107 12 - I3 107 13 ≤ 4 := w
                  rw [ed] at w3
                  exact w3 ((nI_leI (b := 4) (by omega) (by decide)).mpr w4)
                exact And.intro rfl (And.intro rfl (And.intro rfl (fin 4 (by rw [if_neg nu, if_neg w2])))))
            (len - x) x (am_up I2 107 15 0) (by omega) (Nat.le_refl _) rfl hs3
          refine am_wq_T (cut := fun z pc => ((Nat.beq z 174 && Nat.beq pc 0) || ((Nat.beq z 174 && Nat.beq pc 38) || ((Nat.beq z 174 && Nat.beq pc 63) || ((Nat.beq z 174 && Nat.beq pc 93) || ((Nat.beq z 174 && Nat.beq pc 117) || ((Nat.beq z 174 && Nat.beq pc 170) || (Nat.beq z 174 && Nat.beq pc 238)))))))) (inl := fun z => !((Nat.beq z 172 || Nat.beq z 173))) 120 _ _ _ ?_
          exact And.intro rfl (And.intro rfl (And.intro (fun _ => And.intro rfl (And.intro rfl (m_isL (k := x) hs2.2.2.2.1 hT hs2 (by omega) (fun _ y => absurd y dL) (fun _ => And.intro (fun _ => And.intro rfl (And.intro rfl (m_isF (k := x) hs2.2.2.2.1 hT hs2 (by omega) (fun _ _ => And.intro (fun y => absurd y m1z) (fun _ => And.intro rfl loop)) (fun y => absurd ⟨c, dF⟩ y)))) (fun y => absurd rfl y))))) (fun y => absurd c1 y)))
        · have d : ¬ (srt (B x) = 256 ∨ srt (B x) = 257) := fun u => u.elim dL dF
          rw [tkn_sign (w := wd g) hx.symm c d] at hK
          have gB := srt_o d
          have kk := hK (am_up (am_up (am_up I2 107 14 3) 107 15 (am_up I2 107 14 3 117 (am_up I2 107 14 3 107 13).toNatClampNeg)) 107 12 (am_up (am_up I2 107 14 3) 107 15 (am_up I2 107 14 3 117 (am_up I2 107 14 3 107 13).toNatClampNeg) 107 12 + 1)) 3 (B x) en (rc_12 (by rw [up_ne (by omega), up_ne (by omega), hs2.2.2.1, nI_1]) (rc_15 (by rw [up_off (by omega), up_ne (by omega)]; exact eb) (rc_14 rfl hs2))) (by
            show rsT B x (x + 1) (srt (B x)) 3 (B x)
            have hb := (hT.2.2 x c).2
            refine ⟨fun y => ?_, fun y => absurd y dL, fun y => absurd y dF, fun y => ?_, fun _ _ _ _ => ⟨rfl, gB.symm⟩⟩
            · rw [gB] at y
              rw [y] at hb
              exact absurd hb.1 (by decide)
            · rw [gB] at y
              rw [y] at hb
              exact absurd hb.2 (by decide)) (fun _ _ => by
            show rsE (x + 1) (srt (B x)) en
            refine ⟨fun y => absurd (of_decide_eq_true y) d, fun _ z h1 h2 y => ?_⟩
            cases q : wd g with
            | true =>
              rw [hE.1 q] at y
              have := (nI_eq (by omega) (by omega)).mp y
              omega
            | false => exact hE.2 q z (by omega) h2 y)
          refine am_wq_T (cut := fun z pc => ((Nat.beq z 174 && Nat.beq pc 0) || ((Nat.beq z 174 && Nat.beq pc 38) || ((Nat.beq z 174 && Nat.beq pc 63) || ((Nat.beq z 174 && Nat.beq pc 93) || ((Nat.beq z 174 && Nat.beq pc 117) || ((Nat.beq z 174 && Nat.beq pc 170) || (Nat.beq z 174 && Nat.beq pc 238)))))))) (inl := fun z => !((Nat.beq z 172 || Nat.beq z 173))) 120 _ _ _ ?_
          exact And.intro rfl (And.intro rfl (And.intro (fun _ => And.intro rfl (And.intro rfl (m_isL (k := x) hs2.2.2.2.1 hT hs2 (by omega) (fun _ y => absurd y dL) (fun _ => And.intro (fun _ => And.intro rfl (And.intro rfl (m_isF (k := x) hs2.2.2.2.1 hT hs2 (by omega) (fun _ y => absurd y dF) (fun _ => And.intro (fun _ => And.intro rfl (And.intro rfl (And.intro rfl (And.intro ⟨rfl, v13⟩ (And.intro rfl (And.intro rfl (And.intro rfl kk))))))) (fun y => absurd rfl y))))) (fun y => absurd rfl y))))) (fun y => absurd c1 y)))
    · have c1 : ¬ ¬ I2 107 13 = I2 107 11 := fun z => z (by rw [hs2.2.2.2.1, rc_len hT hs2, show x = len by omega])
      rw [tkn_end (w := wd g) (by rw [← hx]; exact c), ← hx] at hK
      have m6 : ¬ (-1 : Int32) = 256 := by decide
      have m7 : ¬ (-1 : Int32) = 257 := by decide
      have m8 : ¬ (-1 : Int32) = 258 := by decide
      have kk := hK (am_up I2 107 14 0) 0 vl en (rc_14 rfl hs2) ⟨fun _ => rfl, fun y => absurd y m6, fun y => absurd y m7, fun y => absurd y m8, fun y => absurd rfl y⟩ (fun y => absurd rfl y)
      refine am_wq_T (cut := fun z pc => ((Nat.beq z 174 && Nat.beq pc 0) || ((Nat.beq z 174 && Nat.beq pc 38) || ((Nat.beq z 174 && Nat.beq pc 63) || ((Nat.beq z 174 && Nat.beq pc 93) || ((Nat.beq z 174 && Nat.beq pc 117) || ((Nat.beq z 174 && Nat.beq pc 170) || (Nat.beq z 174 && Nat.beq pc 238)))))))) (inl := fun z => !((Nat.beq z 172 || Nat.beq z 173))) 120 _ _ _ ?_
      exact And.intro rfl (And.intro rfl (And.intro (fun y => absurd y c1) (fun _ => And.intro rfl kk)))
  rw [e2] at main
  have ec : am_up I1 107 13 (I1 107 12) 107 13 = nI x := by rw [← e2]; exact hs2.2.2.2.1
  have ee : am_up I1 107 13 (I1 107 12) 107 16 = en := by rw [← e2]; exact hs2.2.2.2.2.2.2
  refine am_wq_T (cut := fun z pc => ((Nat.beq z 174 && Nat.beq pc 0) || ((Nat.beq z 174 && Nat.beq pc 63) || ((Nat.beq z 174 && Nat.beq pc 93) || ((Nat.beq z 174 && Nat.beq pc 117) || ((Nat.beq z 174 && Nat.beq pc 170) || (Nat.beq z 174 && Nat.beq pc 238))))))) (inl := fun z => !((Nat.beq z 172 || Nat.beq z 173))) 120 _ _ _ ?_
  refine And.intro rfl (And.intro rfl (And.intro rfl (And.intro rfl (And.intro (fun y => ?_) (fun y => ?_)))))
  · exact main 0 ⟨fun _ u => y (ec.trans ((close.mpr u).symm.trans ee.symm)), fun _ => rfl⟩
  · have u := close.mp (ee.symm.trans ((Classical.not_not.mp y).symm.trans ec))
    exact main 1 ⟨fun w => absurd w (by decide), fun w => absurd u w⟩
end T88
