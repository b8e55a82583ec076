/-! the reference reads an expression: its steps -/
section T95
variable {kt : Nat → Nat × Nat} {I I' I0 : Nat → Nat → Int32} {J J' : Nat → Nat → Int64} {T T' : Nat → Nat → Nat} {n s : Nat} {K : Option Value → am_M → Prop} {B : Nat → Int32} {len key nn nb : Nat} {p : pSt} {c w : List Int32}
def mP (B : Nat → Int32) (I0 I : Nat → Nat → Int32) (p : pSt) (c w : List Int32) : Prop := ch (fun r => r = 107 ∨ r = 120 ∨ r = 121 ∨ r = 122) I0 I ∧ (∀ k, ¬ (12 ≤ k ∧ k < 17) → k ≠ 21 → k ≠ 22 → k ≠ 24 → I 107 k = I0 107 k) ∧ I 107 12 = nI p.2.1 ∧ I 107 13 = nI p.1 ∧ rsT B p.1 p.2.1 p.2.2.1 (I 107 14) (I 107 15) ∧ (p.2.2.1 ≠ -1 → p.2.2.1 ≠ 258 → rsE p.2.1 p.2.2.1 (I 107 16)) ∧ I 107 21 = nI c.length ∧ I 107 22 = nI p.2.2.2.2 ∧ I 107 24 = nI w.length ∧ (∀ k, k < c.length → I 120 k = c.getD k 0) ∧ ∀ k, k < w.length → I 121 k = w.getD k 0
theorem mP_ch {r k : Nat} {v : Int32} (hr : r = 107 ∨ r = 120 ∨ r = 121 ∨ r = 122) (h : ch (fun r => r = 107 ∨ r = 120 ∨ r = 121 ∨ r = 122) I0 I) : ch (fun r => r = 107 ∨ r = 120 ∨ r = 121 ∨ r = 122) I0 (am_up I r k v) := ch_tr h (ch_up (P := fun r => r = 107 ∨ r = 120 ∨ r = 121 ∨ r = 122) hr) fun r q => q.elim id id
/-- one that waits more -/
theorem mP_push {x v : Int32} {k : Nat} (hk : k = w.length) (hv : v = nI (w.length + 1)) (h : mP B I0 I p c w) : mP B I0 (am_up (am_up I 121 k x) 107 24 v) p c (w ++ [x]) := by
  subst hk
  obtain ⟨h0, h1, h2, h3, h4, h5, h6, h7, h8, h9, h10⟩ := h
  refine ⟨mP_ch (.inl rfl) (mP_ch (.inr (.inr (.inl rfl))) h0), fun k a1 a2 a3 a4 => ?_, ?_, ?_, ?_, fun b1 b2 => ?_, ?_, ?_, ?_, fun k hk => ?_, fun k hk => ?_⟩
  · rw [up_ne (by omega), up_ne (by omega)]; exact h1 k a1 a2 a3 a4
  · rw [up_ne (by omega), up_ne (by omega)]; exact h2
  · rw [up_ne (by omega), up_ne (by omega)]; exact h3
  · rw [up_ne (by omega), up_ne (by omega), up_ne (by omega), up_ne (by omega)]; exact h4
  · rw [up_ne (by omega), up_ne (by omega)]; exact h5 b1 b2
  · rw [up_ne (by omega), up_ne (by omega)]; exact h6
  · rw [up_ne (by omega), up_ne (by omega)]; exact h7
  · rw [up_eq, hv, List.length_append]; rfl
  · rw [up_ne (by omega), up_ne (by omega)]; exact h9 k hk
  · rw [List.length_append] at hk
    have hk2 : k < w.length + 1 := hk
    by_cases e : k = w.length
    · rw [e, gd_r, up_ne (by omega), up_eq]
    · rw [gd_l _ k (by omega), up_ne (by omega), up_ne (by omega)]; exact h10 k (by omega)
theorem mP_pop {x v : Int32} (hv : v = nI w.length) (h : mP B I0 I p c (w ++ [x])) : mP B I0 (am_up I 107 24 v) p c w := by
  obtain ⟨h0, h1, h2, h3, h4, h5, h6, h7, h8, h9, h10⟩ := h
  refine ⟨mP_ch (.inl rfl) h0, fun k a1 a2 a3 a4 => ?_, ?_, ?_, ?_, fun b1 b2 => ?_, ?_, ?_, ?_, fun k hk => ?_, fun k hk => ?_⟩
  · rw [up_ne (by omega)]; exact h1 k a1 a2 a3 a4
  · rw [up_ne (by omega)]; exact h2
  · rw [up_ne (by omega)]; exact h3
  · rw [up_ne (by omega), up_ne (by omega)]; exact h4
  · rw [up_ne (by omega)]; exact h5 b1 b2
  · rw [up_ne (by omega)]; exact h6
  · rw [up_ne (by omega)]; exact h7
  · rw [up_eq]; exact hv
  · rw [up_ne (by omega)]; exact h9 k hk
  · rw [up_ne (by omega), h10 k (by rw [List.length_append]; show k < w.length + 1; omega), gd_l _ k hk]
theorem mP_code {x v : Int32} {k : Nat} (hk : k = c.length) (hv : v = nI (c.length + 1)) (h : mP B I0 I p c w) : mP B I0 (am_up (am_up I 120 k x) 107 21 v) p (c ++ [x]) w := by
  subst hk
  obtain ⟨h0, h1, h2, h3, h4, h5, h6, h7, h8, h9, h10⟩ := h
  refine ⟨mP_ch (.inl rfl) (mP_ch (.inr (.inl rfl)) h0), fun k a1 a2 a3 a4 => ?_, ?_, ?_, ?_, fun b1 b2 => ?_, ?_, ?_, ?_, fun k hk => ?_, fun k hk => ?_⟩
  · rw [up_ne (by omega), up_ne (by omega)]; exact h1 k a1 a2 a3 a4
  · rw [up_ne (by omega), up_ne (by omega)]; exact h2
  · rw [up_ne (by omega), up_ne (by omega)]; exact h3
  · rw [up_ne (by omega), up_ne (by omega), up_ne (by omega), up_ne (by omega)]; exact h4
  · rw [up_ne (by omega), up_ne (by omega)]; exact h5 b1 b2
  · rw [up_eq, hv, List.length_append]; rfl
  · rw [up_ne (by omega), up_ne (by omega)]; exact h7
  · rw [up_ne (by omega), up_ne (by omega)]; exact h8
  · rw [List.length_append] at hk
    have hk2 : k < c.length + 1 := hk
    by_cases e : k = c.length
    · rw [e, gd_r, up_ne (by omega), up_eq]
    · rw [gd_l _ k (by omega), up_ne (by omega), up_ne (by omega)]; exact h9 k (by omega)
  · rw [up_ne (by omega), up_ne (by omega)]; exact h10 k hk
theorem mP_at {v : Int32} (hv : v = nI (p.2.2.2.2 + 1)) (h : mP B I0 I p c w) : mP B I0 (am_up I 107 22 v) (atS p) c w := by
  obtain ⟨h0, h1, h2, h3, h4, h5, h6, h7, h8, h9, h10⟩ := h
  refine ⟨mP_ch (.inl rfl) h0, fun k a1 a2 a3 a4 => ?_, ?_, ?_, ?_, fun b1 b2 => ?_, ?_, ?_, ?_, fun k hk => ?_, fun k hk => ?_⟩
  · rw [up_ne (by omega)]; exact h1 k a1 a2 a3 a4
  · rw [up_ne (by omega)]; exact h2
  · rw [up_ne (by omega)]; exact h3
  · rw [up_ne (by omega), up_ne (by omega)]; exact h4
  · rw [up_ne (by omega)]; exact h5 b1 b2
  · rw [up_ne (by omega)]; exact h6
  · rw [up_eq]; exact hv
  · rw [up_ne (by omega)]; exact h8
  · rw [up_ne (by omega)]; exact h9 k hk
  · rw [up_ne (by omega)]; exact h10 k hk
theorem mP_tst {v : Int32} {k : Nat} (h : mP B I0 I p c w) : mP B I0 (am_up I 122 k v) p c w := by
  obtain ⟨h0, h1, h2, h3, h4, h5, h6, h7, h8, h9, h10⟩ := h
  refine ⟨mP_ch (.inr (.inr (.inr rfl))) h0, fun k a1 a2 a3 a4 => ?_, ?_, ?_, ?_, fun b1 b2 => ?_, ?_, ?_, ?_, fun k hk => ?_, fun k hk => ?_⟩
  · rw [up_off (by omega)]; exact h1 k a1 a2 a3 a4
  · rw [up_off (by omega)]; exact h2
  · rw [up_off (by omega)]; exact h3
  · rw [up_off (by omega)]; exact h4
  · rw [up_off (by omega)]; exact h5 b1 b2
  · rw [up_off (by omega)]; exact h6
  · rw [up_off (by omega)]; exact h7
  · rw [up_off (by omega)]; exact h8
  · rw [up_off (by omega)]; exact h9 k hk
  · rw [up_off (by omega)]; exact h10 k hk
/-- on to the next word or sign; nothing else changes -/
theorem m_goP (hT : tpS I0 B len) (he : p.2.1 ≤ len) (h1 : p.2.2.1 ≠ -1) (h2 : p.2.2.1 ≠ 258) (h : mP B I0 I p c w) (hK : ∀ I', mP B I0 I' (nxS B len p) c w → I' 122 = I 122 → K none (am_mk kt I' J T n s)) : am_T am_C (174, 1, 0, [.ref 107, .null], []) (am_mk kt I J T n s) K := by
  obtain ⟨g0, g1, g2, g3, g4, g5, g6, g7, g8, g9, g10⟩ := h
  have hT1 : tpS I B len := ⟨hT.1, (g1 11 (by omega) (by omega) (by omega) (by omega)).trans hT.2.1, fun k hk => by rw [g0 117 (by omega)]; exact hT.2.2 k hk⟩
  refine m_go (I0 := I) (g := p.2.2.1) hT1 he ⟨ch_rfl, fun _ _ => rfl, g2, g3, rfl, rfl, rfl⟩ (g5 h1 h2) fun I1 tk vl en hs ht hE => hK I1 ?_ (hs.1 122 (by omega))
  obtain ⟨a0, a1, a2, a3, a4, a5, a6⟩ := hs
  refine ⟨ch_tr g0 a0 fun r q => q.elim id .inl, fun k b1 b2 b3 b4 => ?_, a2, a3, ?_, fun b1 b2 => ?_, ?_, ?_, ?_, fun k hk => ?_, fun k hk => ?_⟩
  · rw [a1 k b1]; exact g1 k b1 b2 b3 b4
  · rw [a4, a5]; exact ht
  · rw [a6]; exact hE b1 b2
  · rw [a1 21 (by omega)]; exact g6
  · rw [a1 22 (by omega)]; exact g7
  · rw [a1 24 (by omega)]; exact g8
  · rw [a0 120 (by omega)]; exact g9 k hk
  · rw [a0 121 (by omega)]; exact g10 k hk
/-- how tight a sign binds -/
def rkS (x : Int32) : Int32 := if x = -1 then 1 else if x = -2 then 2 else if ¬ x < -5 then 3 else if ¬ x < -7 then 4 else if ¬ x < -9 then 5 else 6
theorem m_rank {x v : Int32} (hv : rkS x = v) (hK : K (some (.int v)) (am_mk kt I J T n s)) : am_T am_C (177, 0, 0, [.int x], []) (am_mk kt I J T n s) K := by
  subst hv
  unfold rkS at hK
  refine am_wq_T (cut := fun _ _ => false) (inl := fun _ => true) 120 _ _ _ ?_
  refine And.intro (fun z => ?_) (fun z => ?_)
  · rw [if_neg z] at hK
    refine And.intro (fun z => ?_) (fun z => ?_)
    · rw [if_neg z] at hK
      refine And.intro (fun z => ?_) (fun z => ?_)
      · rw [if_neg (fun y => y z)] at hK
        refine And.intro (fun z => ?_) (fun z => ?_)
        · rw [if_neg (fun y => y z)] at hK
          refine And.intro (fun z => ?_) (fun z => ?_)
          · rw [if_neg (fun y => y z)] at hK; exact hK
          · rw [if_pos z] at hK; exact hK
        · rw [if_pos z] at hK; exact hK
      · rw [if_pos z] at hK; exact hK
    · rw [if_pos (Classical.not_not.mp z)] at hK; exact hK
  · rw [if_pos (Classical.not_not.mp z)] at hK; exact hK
/-- what stays when so tight ones are taken -/
def blk (w : List Int32) (m : Int32) : Prop := w = [] ∨ ∃ w' x, w = w' ++ [x] ∧ (x = -11 ∨ rkS x < m)
theorem m_settle {m : Int32} : ∀ (y : List Int32) (c : List Int32) (I : Nat → Nat → Int32), mP B I0 I p c (w ++ y.reverse) → blk w m → (∀ x, x ∈ y → x ≠ -11 ∧ ¬ rkS x < m) → c.length + (w ++ y.reverse).length ≤ 96 → (∀ I', mP B I0 I' p (c ++ y) w → I' 122 = I 122 → K none (am_mk kt I' J T n s)) → am_T am_C (178, 1, 0, [.ref 107, .int m], []) (am_mk kt I J T n s) K
  | [], c, I, h, hb, hy, hl, hK => by
    have h' : mP B I0 I p c w := by rw [List.reverse_nil, List.append_nil] at h; exact h
    have kk := hK I (by rw [List.append_nil]; exact h') rfl
    have e24 : I 107 24 = nI w.length := h'.2.2.2.2.2.2.2.2.1
    rcases hb with e | ⟨w', x, e, hx⟩
    · have c1 : I 107 24 ≤ 0 := by rw [e24, e]; decide
      refine am_wq_T (cut := fun z pc => (Nat.beq z 178 && Nat.beq pc 0)) (inl := fun z => !(Nat.beq z 177)) 120 _ _ _ ?_
      exact And.intro rfl (And.intro (fun _ => kk) (fun z => absurd c1 z))
    · have el : w.length = w'.length + 1 := by rw [e, List.length_append]; rfl
      have hl' : w.length ≤ 96 := by
        rw [List.length_append] at hl
        omega
      have c1 : ¬ I 107 24 ≤ 0 := by rw [e24]; exact nI_nle (by omega) (by omega)
      have ed : I 107 24 - 1 = nI w'.length := by rw [e24, el]; exact nI_pred _
      have v1 : vp_in (I 107 24 - 1) 96 := by rw [ed]; exact vpl (by omega) (by decide)
      have ex : I 121 (I 107 24 - 1).toNatClampNeg = x := by
        rw [ed, nI_clamp (by omega), h'.2.2.2.2.2.2.2.2.2.2 w'.length (by omega), e, gd_r]
      rcases hx with hx | hx
      · have c2 : I 121 (I 107 24 - 1).toNatClampNeg = -11 := ex.trans hx
        refine am_wq_T (cut := fun z pc => (Nat.beq z 178 && Nat.beq pc 0)) (inl := fun z => !(Nat.beq z 177)) 120 _ _ _ ?_
        exact And.intro rfl (And.intro (fun z => absurd z c1) (fun _ => And.intro rfl (And.intro rfl (And.intro ⟨rfl, v1⟩ (And.intro (fun _ => kk) (fun z => absurd c2 z))))))
      · by_cases c2 : I 121 (I 107 24 - 1).toNatClampNeg = -11
        · refine am_wq_T (cut := fun z pc => (Nat.beq z 178 && Nat.beq pc 0)) (inl := fun z => !(Nat.beq z 177)) 120 _ _ _ ?_
          exact And.intro rfl (And.intro (fun z => absurd z c1) (fun _ => And.intro rfl (And.intro rfl (And.intro ⟨rfl, v1⟩ (And.intro (fun _ => kk) (fun z => absurd c2 z))))))
        · refine am_wq_T (cut := fun z pc => (Nat.beq z 178 && Nat.beq pc 0)) (inl := fun z => !(Nat.beq z 177)) 120 _ _ _ ?_
          exact And.intro rfl (And.intro (fun z => absurd z c1) (fun _ => And.intro rfl (And.intro rfl (And.intro ⟨rfl, v1⟩ (And.intro (fun z => absurd z c2) (fun _ => And.intro rfl (And.intro rfl (And.intro ⟨rfl, v1⟩ (m_rank (congrArg rkS ex) (And.intro (fun _ => kk) (fun z => absurd hx z)))))))))))
  | x :: y, c, I, h, hb, hy, hl, hK => by
    have eq1 : w ++ (x :: y).reverse = w ++ y.reverse ++ [x] := by rw [List.reverse_cons, List.append_assoc]
    rw [eq1] at h hl
    have el : (w ++ y.reverse ++ [x]).length = (w ++ y.reverse).length + 1 := List.length_append
    have e24 : I 107 24 = nI ((w ++ y.reverse).length + 1) := by rw [← el]; exact h.2.2.2.2.2.2.2.2.1
    have e21 : I 107 21 = nI c.length := h.2.2.2.2.2.2.1
    have hq := hy x (List.mem_cons_self)
    have c1 : ¬ I 107 24 ≤ 0 := by rw [e24]; exact nI_nle (by omega) (by omega)
    have ed : I 107 24 - 1 = nI (w ++ y.reverse).length := by rw [e24]; exact nI_pred _
    have v1 : vp_in (I 107 24 - 1) 96 := by rw [ed]; exact vpl (by omega) (by decide)
    have ex : I 121 (I 107 24 - 1).toNatClampNeg = x := by
      rw [ed, nI_clamp (by omega), h.2.2.2.2.2.2.2.2.2.2 (w ++ y.reverse).length (by omega), gd_r]
    have c2 : ¬ I 121 (I 107 24 - 1).toNatClampNeg = -11 := by rw [ex]; exact hq.1
    have g1 : mP B I0 (am_up I 107 24 (I 107 24 - 1)) p c (w ++ y.reverse) := mP_pop ed h
    obtain ⟨I1, e1⟩ : ∃ I1, I1 = am_up I 107 24 (I 107 24 - 1) := ⟨_, rfl⟩
    rw [← e1] at g1
    have f24 : I1 107 24 = nI (w ++ y.reverse).length := g1.2.2.2.2.2.2.2.2.1
    have f21 : I1 107 21 = nI c.length := g1.2.2.2.2.2.2.1
    have v2 : vp_in (I1 107 24) 96 := by rw [f24]; exact vpl (by omega) (by decide)
    have v3 : vp_in (I1 107 21) 96 := by rw [f21]; exact vpl (by omega) (by decide)
    have fx : I1 121 (I1 107 24).toNatClampNeg = x := by
      rw [f24, ← ed, e1, up_off (by omega)]
      exact ex
    have g2 : mP B I0 (am_up (am_up I1 120 (I1 107 21).toNatClampNeg (I1 121 (I1 107 24).toNatClampNeg)) 107 21 (am_up I1 120 (I1 107 21).toNatClampNeg (I1 121 (I1 107 24).toNatClampNeg) 107 21 + 1)) p (c ++ [x]) (w ++ y.reverse) := by
      rw [fx]
      exact mP_code (by rw [f21, nI_clamp (by omega)]) (by rw [up_off (by omega), f21, nI_1]) g1
    have kk := m_settle y (c ++ [x]) _ g2 hb (fun z hz => hy z (List.mem_cons_of_mem x hz)) (by rw [List.length_append]; show c.length + 1 + _ ≤ 96; omega) (fun I' a b => hK I' (by rw [List.append_assoc] at a; exact a) (by rw [b, up_off (by omega), up_off (by omega), e1, up_off (by omega)]))
    rw [e1] at kk v2 v3
    refine am_wq_T (cut := fun z pc => (Nat.beq z 178 && Nat.beq pc 0)) (inl := fun z => !(Nat.beq z 177)) 120 _ _ _ ?_
    exact And.intro rfl (And.intro (fun z => absurd z c1) (fun _ => And.intro rfl (And.intro rfl (And.intro ⟨rfl, v1⟩ (And.intro (fun z => absurd z c2) (fun _ => And.intro rfl (And.intro rfl (And.intro ⟨rfl, v1⟩ (m_rank (congrArg rkS ex) (And.intro (fun z => absurd z hq.2) (fun _ => And.intro rfl (And.intro rfl (And.intro rfl (And.intro rfl (And.intro rfl (And.intro rfl (And.intro ⟨rfl, v2⟩ (And.intro ⟨rfl, v3⟩ (And.intro rfl (And.intro rfl kk))))))))))))))))))))
end T95
