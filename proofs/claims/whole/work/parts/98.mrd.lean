/-! the reference reads an expression -/
section T98
variable {kt : Nat → Nat × Nat} {I0 : Nat → Nat → Int32} {J : Nat → Nat → Int64} {T : Nat → Nat → Nat} {n s : Nat} {B : Nat → Int32} {len key : Nat}
/-- ones that wait, of a level or tighter -/
def oY (l : Nat) (y : List Int32) : Prop := ∀ x, x ∈ y → x ≠ -11 ∧ x ≠ -10 ∧ ¬ rkS x < nI (l + 1)
theorem blk_mono {w : List Int32} {m m' : Int32} (h : m < m') (q : blk w m) : blk w m' := by
  rcases q with e | ⟨w', x, e, hx⟩
  · exact .inl e
  · exact .inr ⟨w', x, e, hx.elim .inl fun z => .inr (Int32.lt_trans z h)⟩
theorem oY_weak {l : Nat} {y : List Int32} (hl : l < 100) (h : oY (l + 1) y) : oY l y := fun x hx => ⟨(h x hx).1, (h x hx).2.1, fun z => (h x hx).2.2 (Int32.lt_trans z (nI_lt (by omega) (by omega)))⟩
theorem oY_nil {l : Nat} : oY l [] := fun x hx => absurd hx (List.not_mem_nil)
theorem tr_n {m : Nat} (hm : m < 10000) : sg_tr (nI m) = nI m := by
  unfold sg_tr
  have h : ∀ a : Int32, a < 0 → ¬ nI m = a := fun a ha z => absurd (z ▸ ha) (nI_pos (by omega))
  rw [if_neg (h _ (by decide)), if_neg (h _ (by decide)), if_neg (h _ (by decide)), if_neg (h _ (by decide)), if_neg (h _ (by decide)), if_neg (h _ (by decide)), if_neg (h _ (by decide)), if_neg (h _ (by decide)), if_neg (h _ (by decide)), if_neg (h _ (by decide)), if_neg (h _ (by decide)), if_neg (h _ (by decide)), if_neg (h _ (by decide))]
theorem nm_3 {key : Nat} {x : Int32} (h : ¬ nmV key x < 0) : nmV key x = 0 ∨ nmV key x = 1 ∨ nmV key x = 2 := by
  unfold nmV at h ⊢
  by_cases k0 : key = 0
  · rw [if_pos k0] at h ⊢
    by_cases c1 : x = 100
    · rw [if_pos c1]; exact .inl rfl
    · rw [if_neg c1] at h ⊢
      by_cases c2 : x = 111
      · rw [if_pos c2]; exact .inr (.inl rfl)
      · rw [if_neg c2] at h; exact absurd (by decide) h
  · rw [if_neg k0] at h ⊢
    by_cases k1 : key = 1
    · rw [if_pos k1] at h ⊢
      by_cases c1 : x = 120
      · rw [if_pos c1]; exact .inl rfl
      · rw [if_neg c1] at h ⊢
        by_cases c2 : x = 100
        · rw [if_pos c2]; exact .inr (.inl rfl)
        · rw [if_neg c2] at h ⊢
          by_cases c3 : x = 97
          · rw [if_pos c3]; exact .inr (.inr rfl)
          · rw [if_neg c3] at h; exact absurd (by decide) h
    · rw [if_neg k1] at h ⊢
      by_cases c1 : x = 101
      · rw [if_pos c1]; exact .inl rfl
      · rw [if_neg c1] at h ⊢
        by_cases c2 : x = 108
        · rw [if_pos c2]; exact .inr (.inl rfl)
        · rw [if_neg c2] at h; exact absurd (by decide) h
theorem tr_nm {key : Nat} {x : Int32} (h : ¬ nmV key x < 0) : sg_tr (-1 - nmV key x) = 10000 + nmV key x := by
  rcases nm_3 h with e | e | e
  all_goals rw [e]; decide
set_option maxRecDepth 4000 in
theorem m_rd (hT : tpS I0 B len) (hk3 : key < 3) (hk17 : I0 107 17 = nI key) : ∀ (f k : Nat) (p : pSt) (nn nb : Nat) (b : Bool) (r : pSt), rd B len key f k p nn nb = some (b, r) → k ≤ 10 → ws B len p → nn ≤ 8 → nb ≤ 8 → ∀ (I : Nat → Nat → Int32) (w : List Int32) (K : Option Value → am_M → Prop), (b = false → ∀ I', ch (fun r => r = 107 ∨ r = 120 ∨ r = 121 ∨ r = 122) I0 I' → (∀ k, ¬ (12 ≤ k ∧ k < 17) → k ≠ 21 → k ≠ 22 → k ≠ 24 → I' 107 k = I0 107 k) → I' 107 13 = nI r.1 → K (some (.int 0)) (am_mk kt I' J T n s)) → (I 122 nb = 0 ∨ I 122 nb = 1) →
    (k < 5 → ∀ v4, mP B I0 I p (p.2.2.2.1.map sg_tr) w → blk w (nI (k + 1)) → ctN w = nn → (k < 3 → I 122 nb = 0) → p.2.2.2.1.length + w.length ≤ p.1 → (b = true → ∀ (I' : Nat → Nat → Int32) (cs y : List Int32) (v4 : Value), mP B I0 I' r cs (w ++ y.reverse) → cs ++ y = r.2.2.2.1.map sg_tr → oY (k) y → (∀ j, j < nb → I' 122 j = I 122 j) → (3 ≤ k → I' 122 (nb) = I 122 (nb)) → (k < 3 → jn 2 r.2.2.1 = true → I' 122 (nb) = 1) → (I' 122 (nb) = 0 ∨ I' 122 (nb) = 1) → (∀ l', k ≤ l' → l' < 5 → l' ≠ 2 → ¬ jn l' r.2.2.1 = true) → am_T am_C (181, 3, 28, [.ref 107, .int (nI (nb)), .int (nI (nn)), .int 0, v4], []) (am_mk kt I' J T n s) K) → am_T am_C (181, 3, 28, [.ref 107, .int (nI (nb)), .int (nI (nn)), .int 1, v4], []) (am_mk kt I J T n s) K) ∧
    (5 ≤ k → k < 10 → ∀ v4 cs y, mP B I0 I p cs (w ++ y.reverse) → cs ++ y = p.2.2.2.1.map sg_tr → oY (k - 5) y → blk w (nI (k - 5 + 1)) → ctN w = nn → (k = 7 → I 122 nb = 0) → (k < 7 → jn 2 p.2.2.1 = true → I 122 nb = 1) → (∀ l', k - 5 < l' → l' < 5 → l' ≠ 2 → ¬ jn l' p.2.2.1 = true) → p.2.2.2.1.length + w.length ≤ p.1 → (b = true → ∀ (I' : Nat → Nat → Int32) (cs y : List Int32) (v4 : Value), mP B I0 I' r cs (w ++ y.reverse) → cs ++ y = r.2.2.2.1.map sg_tr → oY (k - 5) y → (∀ j, j < nb → I' 122 j = I 122 j) → (3 ≤ k - 5 → I' 122 (nb) = I 122 (nb)) → (k - 5 < 3 → jn 2 r.2.2.1 = true → I' 122 (nb) = 1) → (I' 122 (nb) = 0 ∨ I' 122 (nb) = 1) → (∀ l', k - 5 ≤ l' → l' < 5 → l' ≠ 2 → ¬ jn l' r.2.2.1 = true) → am_T am_C (181, 3, 28, [.ref 107, .int (nI (nb)), .int (nI (nn)), .int 0, v4], []) (am_mk kt I' J T n s) K) → am_T am_C (181, 3, 28, [.ref 107, .int (nI (nb)), .int (nI (nn)), .int 0, v4], []) (am_mk kt I J T n s) K) ∧
    (k = 10 → ∀ v4 y, mP B I0 I p (p.2.2.2.1.map sg_tr) (w ++ y.reverse) → (∀ x, x ∈ y → x = -10) → blk w 6 → ctN (w ++ y.reverse) = nn → p.2.2.2.1.length + (w ++ y.reverse).length ≤ p.1 → (b = true → ∀ I' v4, mP B I0 I' r (r.2.2.2.1.map sg_tr ++ y) w → (∀ j, j ≤ nb → I' 122 j = I 122 j) → am_T am_C (181, 3, 28, [.ref 107, .int (nI (nb)), .int (nI (ctN w)), .int 0, v4], []) (am_mk kt I' J T n s) K) → am_T am_C (181, 3, 28, [.ref 107, .int (nI (nb)), .int (nI (nn)), .int 1, v4], []) (am_mk kt I J T n s) K) := by
  have h96 := hT.1
  have hB : ∀ k, k < len → sg_in (B k) 0 255 := fun k hk => (hT.2.2 k hk).2
  intro f
  induction f with
  | zero => intro k p nn nb b r h; cases h
  | succ f ih =>
    intro k p nn nb b r h hk hw hnn hnb I w K hF hf
    have prt : ∀ (l : Nat) (q : pSt) (b1 : Bool) (s1 : pSt) (I1 : Nat → Nat → Int32) (w1 : List Int32), l < 5 → rd B len key f (pk l) q nn nb = some (b1, s1) → ws B len q → (b1 = false → ∀ I', ch (fun r => r = 107 ∨ r = 120 ∨ r = 121 ∨ r = 122) I0 I' → (∀ k, ¬ (12 ≤ k ∧ k < 17) → k ≠ 21 → k ≠ 22 → k ≠ 24 → I' 107 k = I0 107 k) → I' 107 13 = nI s1.1 → K (some (.int 0)) (am_mk kt I' J T n s)) → (I1 122 nb = 0 ∨ I1 122 nb = 1) → mP B I0 I1 q (q.2.2.2.1.map sg_tr) w1 → blk w1 (nI (l + 2)) → ctN w1 = nn → (l + 1 < 3 → I1 122 nb = 0) → q.2.2.2.1.length + w1.length ≤ q.1 → (b1 = true → ∀ (I' : Nat → Nat → Int32) (cs y : List Int32) (v4 : Value), mP B I0 I' s1 cs (w1 ++ y.reverse) → cs ++ y = s1.2.2.2.1.map sg_tr → oY (l + 1) y → (∀ j, j < nb → I' 122 j = I1 122 j) → (3 ≤ l + 1 → I' 122 (nb) = I1 122 (nb)) → (l + 1 < 3 → jn 2 s1.2.2.1 = true → I' 122 (nb) = 1) → (I' 122 (nb) = 0 ∨ I' 122 (nb) = 1) → (∀ l', l + 1 ≤ l' → l' < 5 → l' ≠ 2 → ¬ jn l' s1.2.2.1 = true) → am_T am_C (181, 3, 28, [.ref 107, .int (nI (nb)), .int (nI (nn)), .int 0, v4], []) (am_mk kt I' J T n s) K) → ∀ v4, am_T am_C (181, 3, 28, [.ref 107, .int (nI (nb)), .int (nI (nn)), .int 1, v4], []) (am_mk kt I1 J T n s) K := by
      intro l q b1 s1 I1 w1 hl h1 hwq hF1 hf1 hm hb hc h3 hle hp v4
      by_cases e4 : l = 4
      · have ep : pk l = 10 := if_pos e4
        rw [ep] at h1
        refine (ih 10 q nn nb b1 s1 h1 (Nat.le_refl _) hwq hnn hnb I1 w1 K hF1 hf1).2.2 rfl v4 [] (by rw [List.reverse_nil, List.append_nil]; exact hm) (fun x hx => absurd hx (List.not_mem_nil)) (by rw [e4] at hb; exact hb) (by rw [List.reverse_nil, List.append_nil]; exact hc) (by rw [List.reverse_nil, List.append_nil]; exact hle) (fun z I2 u a1 a2 => ?_)
        rw [hc]
        exact hp z I2 (s1.2.2.2.1.map sg_tr) [] u (by rw [List.reverse_nil, List.append_nil]; rw [List.append_nil] at a1; exact a1) (List.append_nil _) oY_nil (fun j hj => a2 j (by omega)) (fun _ => a2 nb (Nat.le_refl _)) (fun y => by omega) (by rw [a2 nb (Nat.le_refl _)]; exact hf1) (fun l' y1 y2 => by omega)
      · have ep : pk l = l + 1 := if_neg e4
        rw [ep] at h1
        exact (ih (l + 1) q nn nb b1 s1 h1 (by omega) hwq hnn hnb I1 w1 K hF1 hf1).1 (by omega) v4 hm hb hc h3 hle hp
    refine ⟨fun k5 v4 hm hb hc h3 hle hp => ?_, fun k5 k10 v4 cs y hm hcs hy hb hc h7 ht hst hle hp => ?_, fun e10 v4 y hm hy hb hc hle hp => ?_⟩
    · have hpk : pk k ≤ 10 := by unfold pk; split <;> omega
      rw [rd_j k5] at h
      have hb2 : blk w (nI (k + 2)) := blk_mono (nI_lt (by omega) (by omega)) hb
      rcases rdB_some h with ⟨s1, h1, hx⟩ | ⟨s1, h1, h2⟩
      · cases hx
        exact prt k p false _ I w k5 h1 hw hF hf hm hb2 hc (fun z => h3 (by omega)) hle (fun z => absurd z (by decide)) v4
      · obtain ⟨w1, p1, -⟩ := (rd_ok hB _ _ _ _ _ _ _ h1 hpk hw).2.2 rfl
        have l1 := rd_len hB h1 hpk hw
        refine prt k p true s1 I w k5 h1 hw (fun z => absurd z (by decide)) hf hm hb2 hc (fun z => h3 (by omega)) hle (fun _ I1 cs y u a1 a2 a3 a4 a5 a6 a7 a8 => ?_) v4
        refine (ih (k + 5) s1 nn nb b r h2 (by omega) w1 hnn hnb I1 w K hF a7).2.1 (by omega) (by omega) u cs y a1 a2 (by rw [show k + 5 - 5 = k by omega]; exact oY_weak (by omega) a3) (by rw [show k + 5 - 5 = k by omega]; exact hb) hc (fun z => by rw [a5 (by omega)]; exact h3 (by omega)) (fun z => a6 (by omega)) (fun l' z => a8 l' (by omega)) (by omega) (fun z I2 cs2 y2 u2 d1 d2 d3 d4 d5 d6 d7 d8 => ?_)
        rw [show k + 5 - 5 = k by omega] at d3 d5 d6 d8
        exact hp z I2 cs2 y2 u2 d1 d2 d3 (fun j hj => (d4 j hj).trans (a4 j hj)) (fun z => (d5 z).trans (a5 (by omega))) d6 d7 d8
    · have n5 : ¬ k < 5 := by omega
      have lcs : cs.length + y.length = p.2.2.2.1.length := by
        have := congrArg List.length hcs
        rw [List.length_append, List.length_map] at this
        exact this
      have lwy : (w ++ y.reverse).length = w.length + y.length := by rw [List.length_append, List.length_reverse]
      by_cases hj : jn (k - 5) p.2.2.1 = true
      · have hs1 := hw.2.2.1 (jn_m1 hj)
        have hw2 := hw.2.1
        have js := jn_s (by omega) hj
        have hn := nxS_ws (B := B) hw.2.1
        have hpk : pk (k - 5) ≤ 10 := by unfold pk; split <;> omega
        rw [rd_l n5 k10 hj] at h
        refine m_op (l := k - 5) hT (by omega) hj hw.2.1 hnb hm hb (fun x hx => ⟨(hy x hx).1, (hy x hx).2.2⟩) (by omega) hf (fun z => h7 (by omega)) (fun I1 u a1 a2 a3 => ?_)
        have f1 : I1 122 nb = 0 ∨ I1 122 nb = 1 := by
          rw [a3]
          by_cases e : k - 5 = 2
          · rw [if_pos e]; exact .inr rfl
          · rw [if_neg e]
            by_cases e1 : k - 5 < 2
            · rw [if_pos e1]; exact .inl rfl
            · rw [if_neg e1]; exact hf
        have a1' : mP B I0 I1 (nxS B len p) ((nxS B len p).2.2.2.1.map sg_tr) (w ++ [sgV p.2.2.1]) := by
          rw [hcs] at a1
          exact a1
        have blo : blk (w ++ [sgV p.2.2.1]) (nI (k - 5 + 2)) := .inr ⟨w, _, rfl, .inr (by rw [js.2.1]; exact nI_lt (by omega) (by omega))⟩
        have cto : ctN (w ++ [sgV p.2.2.1]) = nn := by
          rw [ctN_app, hc]
          show nn + ((if sgV p.2.2.1 = -10 then 1 else 0) + 0) = nn
          rw [if_neg js.2.2.2.1]
          rfl
        have lo : (nxS B len p).2.2.2.1.length + (w ++ [sgV p.2.2.1]).length ≤ (nxS B len p).1 := by
          rw [List.length_append]
          show p.2.2.2.1.length + (w.length + 1) ≤ _
          omega
        have z3 : k - 5 + 1 < 3 → I1 122 nb = 0 := fun z => by rw [a3, if_neg (by omega), if_pos (by omega)]
        rcases rdB_some h with ⟨s1, h1, hx⟩ | ⟨s1, h1, h2⟩
        · cases hx
          exact prt (k - 5) (nxS B len p) false _ I1 (w ++ [sgV p.2.2.1]) (by omega) h1 hn.1 hF f1 a1' blo cto z3 lo (fun z => absurd z (by decide)) u
        · obtain ⟨w1, p1, -⟩ := (rd_ok hB _ _ _ _ _ _ _ h1 hpk hn.1).2.2 rfl
          have l1 := rd_len hB h1 hpk hn.1
          have l1' : s1.2.2.2.1.length + (nxS B len p).1 ≤ p.2.2.2.1.length + s1.1 := l1
          refine prt (k - 5) (nxS B len p) true s1 I1 (w ++ [sgV p.2.2.1]) (by omega) h1 hn.1 (fun z => absurd z (by decide)) f1 a1' blo cto z3 lo (fun _ I2 cs2 y2 u2 d1 d2 d3 d4 d5 d6 d7 d8 => ?_) u
          have e1 : w ++ (y2 ++ [sgV p.2.2.1]).reverse = w ++ [sgV p.2.2.1] ++ y2.reverse := by
            rw [List.reverse_append, List.append_assoc]
            rfl
          have m2 : mP B I0 I2 (ptS s1 (-p.2.2.1)) cs2 (w ++ (y2 ++ [sgV p.2.2.1]).reverse) := by
            rw [e1]
            exact d1
          have c2 : cs2 ++ (y2 ++ [sgV p.2.2.1]) = (ptS s1 (-p.2.2.1)).2.2.2.1.map sg_tr := by
            show _ = (s1.2.2.2.1 ++ [-p.2.2.1]).map sg_tr
            rw [List.map_append, ← List.append_assoc, d2, js.1]
            rfl
          have o2 : oY (k - 5) (y2 ++ [sgV p.2.2.1]) := fun x hx => (List.mem_append.mp hx).elim (oY_weak (by omega) d3 x) fun z => by
            rw [List.mem_singleton.mp z]
            exact ⟨js.2.2.2.2, js.2.2.2.1, by rw [js.2.1]; exact Int32.lt_irrefl⟩
          have b2 : ∀ j, j < nb → I2 122 j = I 122 j := fun j hj => (d4 j hj).trans (a2 j (by omega))
          by_cases k7 : k = 7
          · rw [if_pos k7] at h2
            cases h2
            refine hp rfl I2 cs2 _ u2 m2 c2 o2 b2 (fun z => by omega) (fun _ _ => ?_) d7 (fun l' z1 z2 z3 => d8 l' (by omega) z2 z3)
            rw [d5 (by omega), a3, if_pos (by omega)]
          · rw [if_neg k7] at h2
            refine (ih k (ptS s1 (-p.2.2.1)) nn nb b r h2 hk w1 hnn hnb I2 w K hF d7).2.1 k5 k10 u2 cs2 _ m2 c2 o2 hb hc (fun z => absurd z k7) (fun z => d6 (by omega)) (fun l' z => d8 l' (by omega)) (by show (s1.2.2.2.1 ++ [-p.2.2.1]).length + w.length ≤ s1.1; rw [List.length_append]; show s1.2.2.2.1.length + 1 + w.length ≤ s1.1; omega) (fun z I3 cs3 y3 u3 g1 g2 g3 g4 g5 g6 g7 g8 => ?_)
            refine hp z I3 cs3 y3 u3 g1 g2 g3 (fun j hj => (g4 j hj).trans (b2 j hj)) (fun z => ?_) g6 g7 g8
            rw [g5 z, d5 (by omega), a3, if_neg (by omega), if_neg (by omega)]
      · rw [rd_e n5 k10 hj] at h
        cases h
        exact hp rfl I cs y v4 hm hcs hy (fun _ _ => rfl) (fun _ => rfl) (fun z j2 => by
          by_cases e : k = 7
          · subst e
            exact absurd j2 hj
          · exact ht (by omega) j2) hf (fun l' z1 z2 z3 => by
          by_cases e : l' = k - 5
          · rw [e]; exact hj
          · exact hst l' (by omega) z2 z3)
    · subst e10
      rw [rd_p] at h
      have hw2 := hw.2.1
      have lwy : (w ++ y.reverse).length = w.length + y.length := by rw [List.length_append, List.length_reverse]
      have lm : (p.2.2.2.1.map sg_tr).length = p.2.2.2.1.length := List.length_map _
      have k17 : I 107 17 = nI key := (hm.2.1 17 (by omega) (by omega) (by omega) (by omega)).trans hk17
      have fail : b = false → r = p → ¬ (p.2.2.1 = 33 ∧ nn < 8) → ¬ (p.2.2.1 = 40 ∧ nb < 8) → ¬ (p.2.2.1 = 257 ∧ p.2.1 - p.1 ≤ 4) → ¬ (p.2.2.1 = 256 ∧ p.2.1 - p.1 = 1 ∧ ¬ nmV key (B p.1) < 0) → am_T am_C (181, 3, 28, [.ref 107, .int (nI (nb)), .int (nI (nn)), .int 1, v4], []) (am_mk kt I J T n s) K := fun eb er n33 n40 n57 n56 => by
        refine m_to158 (by omega) (by omega) hm n33 n40 ?_
        have kk := hF eb I hm.1 hm.2.1 (by rw [er]; exact hm.2.2.2.1)
        refine am_wq_T (cut := fun z pc => ((Nat.beq z 181 && Nat.beq pc 28) || (Nat.beq z 181 && Nat.beq pc 158))) (inl := fun z => !((Nat.beq z 180 || Nat.beq z 182))) 120 _ _ _ ?_
        exact And.intro rfl (m_part_0 hk3 k17 hw n57 n56 h96 hm (And.intro (fun _ => And.intro rfl kk) (fun z => absurd rfl z)))
      have okp : ∀ (x : Int32) (I1 : Nat → Nat → Int32) (v4 : Value), (∀ c', mP B I0 I1 (nxS B len (atS p)) (p.2.2.2.1.map sg_tr ++ [x] ++ y) w → I1 122 = I 122 → r.2.2.2.1 = p.2.2.2.1 ++ [c'] → sg_tr c' = x → b = true → (r.1 = (nxS B len (atS p)).1 ∧ r.2.1 = (nxS B len (atS p)).2.1 ∧ r.2.2.1 = (nxS B len (atS p)).2.2.1 ∧ r.2.2.2.2 = (nxS B len (atS p)).2.2.2.2) → am_T am_C (181, 3, 172, [.ref 107, .int (nI nb), .int (nI nn), .int 0, v4], []) (am_mk kt I1 J T n s) K) := fun x I1 v4 c' a1 a2 er ex eb e5 => by
        have a1' : mP B I0 I1 r (r.2.2.2.1.map sg_tr ++ y) w := by
          rw [er, List.map_append, show [c'].map sg_tr = [x] from by show [sg_tr c'] = [x]; rw [ex]]
          unfold mP at a1 ⊢
          rw [e5.1, e5.2.1, e5.2.2.1, e5.2.2.2]
          exact a1
        have kk := hp eb I1 v4 a1' (fun j _ => by rw [a2])
        refine am_wq_T (cut := fun z pc => ((Nat.beq z 181 && Nat.beq pc 28) || (Nat.beq z 181 && Nat.beq pc 172))) (inl := fun z => !((Nat.beq z 180 || Nat.beq z 182))) 120 _ _ _ ?_
        exact And.intro rfl (m_nots a1 (by have := hw.1; omega) kk)
      by_cases g1 : p.2.2.1 = 257
      · rw [if_pos g1] at h
        have hs1 := hw.2.2.1 (by rw [g1]; decide)
        have n33 : ¬ (p.2.2.1 = 33 ∧ nn < 8) := fun z => by rw [z.1] at g1; exact absurd g1 (by decide)
        have n40 : ¬ (p.2.2.1 = 40 ∧ nb < 8) := fun z => by rw [z.1] at g1; exact absurd g1 (by decide)
        by_cases c : p.2.1 - p.1 ≤ 4
        · rw [if_pos c] at h
          cases h
          refine m_to158 (by omega) (by omega) hm n33 n40 ?_
          obtain ⟨m, hm9, em⟩ := nv_b hB (a := p.1) (p.2.1 - p.1) (by omega) (fun k h1 h2 => hw.2.2.2.1 g1 k h1 (by omega))
          have h4 : 10 ^ (p.2.1 - p.1) ≤ 10 ^ 4 := Nat.pow_le_pow_right (by decide) c
          have tv : sg_tr (nv B p.1 (p.2.1 - p.1)) = nv B p.1 (p.2.1 - p.1) := by rw [em]; exact tr_n (by omega)
          refine am_wq_T (cut := fun z pc => ((Nat.beq z 181 && Nat.beq pc 28) || ((Nat.beq z 181 && Nat.beq pc 158) || (Nat.beq z 181 && Nat.beq pc 172)))) (inl := fun z => !((Nat.beq z 180 || Nat.beq z 182))) 120 _ _ _ ?_
          exact And.intro rfl (m_part_f hT hw g1 c hm hb hy (by omega) (fun I1 a1 a2 => And.intro (fun z => absurd z m1z) (fun _ => okp _ I1 _ _ a1 a2 rfl tv rfl ⟨rfl, rfl, rfl, rfl⟩)))
        · rw [if_neg c] at h
          cases h
          exact fail rfl rfl n33 n40 (fun z => c z.2) (fun z => by rw [z.1] at g1; exact absurd g1 (by decide))
      · rw [if_neg g1] at h
        have n57 : ¬ (p.2.2.1 = 257 ∧ p.2.1 - p.1 ≤ 4) := fun z => g1 z.1
        by_cases g2 : p.2.2.1 = 256
        · rw [if_pos g2] at h
          have hs1 := hw.2.2.1 (by rw [g2]; decide)
          have n33 : ¬ (p.2.2.1 = 33 ∧ nn < 8) := fun z => by rw [z.1] at g2; exact absurd g2 (by decide)
          have n40 : ¬ (p.2.2.1 = 40 ∧ nb < 8) := fun z => by rw [z.1] at g2; exact absurd g2 (by decide)
          by_cases c : p.2.1 - p.1 = 1 ∧ ¬ nmV key (B p.1) < 0
          · rw [if_pos c] at h
            cases h
            refine m_to158 (by omega) (by omega) hm n33 n40 ?_
            refine am_wq_T (cut := fun z pc => ((Nat.beq z 181 && Nat.beq pc 28) || ((Nat.beq z 181 && Nat.beq pc 158) || (Nat.beq z 181 && Nat.beq pc 172)))) (inl := fun z => !((Nat.beq z 180 || Nat.beq z 182))) 120 _ _ _ ?_
            exact And.intro rfl (m_part_n hT hk3 k17 hw g2 c hm hb hy (by omega) (fun I1 a1 a2 => And.intro (fun z => absurd z m1z) (fun _ => okp _ I1 _ _ a1 a2 rfl (tr_nm c.2) rfl ⟨rfl, rfl, rfl, rfl⟩)))
          · rw [if_neg c] at h
            cases h
            exact fail rfl rfl n33 n40 n57 (fun z => c z.2)
        · rw [if_neg g2] at h
          have n56 : ¬ (p.2.2.1 = 256 ∧ p.2.1 - p.1 = 1 ∧ ¬ nmV key (B p.1) < 0) := fun z => g2 z.1
          by_cases g3 : p.2.2.1 = 33
          · rw [if_pos g3] at h
            have hs1 := hw.2.2.1 (by rw [g3]; decide)
            by_cases c : nn < 8
            · rw [if_pos c] at h
              have tok := mP_tok hm (by rw [g3]; decide) (by rw [g3]; decide) (by rw [g3]; decide) (by rw [g3]; decide)
              have d3 : ¬ ¬ I 107 14 = 3 := fun z => z tok.1
              have d33 : ¬ ¬ I 107 15 = 33 := fun z => z (tok.2.trans g3)
              have d8 : ¬ (8 : Int32) ≤ nI nn := nI_ge (b := 8) c (by decide)
              have e24 : I 107 24 = nI (w ++ y.reverse).length := hm.2.2.2.2.2.2.2.2.1
              have v1 : vp_in (I 107 24) 96 := by rw [e24]; exact vpl (by omega) (by decide)
              have q1 : mP B I0 (am_up (am_up I 121 (I 107 24).toNatClampNeg (-10)) 107 24 (am_up I 121 (I 107 24).toNatClampNeg (-10) 107 24 + 1)) p (p.2.2.2.1.map sg_tr) (w ++ y.reverse ++ [-10]) := mP_push (by rw [e24, nI_clamp (by omega)]) (by rw [up_off (by omega), e24, nI_1]) hm
              have hn := nxS_ws (B := B) hw.2.1
              have ey : w ++ ((-10 : Int32) :: y).reverse = w ++ y.reverse ++ [-10] := by rw [List.reverse_cons, List.append_assoc]
              have cy : ctN (w ++ y.reverse ++ [-10]) = nn + 1 := by rw [ctN_app, hc]; rfl
              have ly : (w ++ y.reverse ++ [(-10 : Int32)]).length = (w ++ y.reverse).length + 1 := List.length_append
              refine am_wq_T (cut := fun z pc => (Nat.beq z 181 && Nat.beq pc 28)) (inl := fun z => !((Nat.beq z 174 || Nat.beq z 182))) 120 _ _ _ ?_
              refine And.intro (fun _ => And.intro (fun z => absurd z m1z) (fun _ => And.intro rfl (And.intro (fun z => absurd z d3) (fun _ => And.intro rfl (And.intro (fun z => absurd z d33) (fun _ => And.intro (fun z => absurd z d8) (fun _ => ?_))))))) (fun z => absurd m1z z)
              refine And.intro rfl (And.intro rfl (And.intro ⟨rfl, v1⟩ (And.intro rfl (And.intro rfl (And.intro rfl (m_goP hT hw.2.1 (by rw [g3]; decide) (by rw [g3]; decide) q1 fun I1 a1 a2 => And.intro rfl (m_nots a1 (by omega) ?_)))))))
              have a3 : I1 122 = I 122 := a2.trans (by
                show am_up (am_up I 121 (I 107 24).toNatClampNeg (-10)) 107 24 _ 122 = I 122
                rw [up_off (show (122 : Nat) ≠ 107 by omega), up_off (show (122 : Nat) ≠ 121 by omega)])
              rw [cy]
              have f1 : I1 122 nb = 0 ∨ I1 122 nb = 1 := by rw [a3]; exact hf
              have hy' : ∀ x, x ∈ (-10 : Int32) :: y → x = -10 := fun x hx => (List.mem_cons.mp hx).elim id (hy x)
              have m1 : mP B I0 I1 (nxS B len p) ((nxS B len p).2.2.2.1.map sg_tr) (w ++ ((-10 : Int32) :: y).reverse) := by rw [ey]; exact a1
              have l2 : (nxS B len p).2.2.2.1.length + (w ++ ((-10 : Int32) :: y).reverse).length ≤ (nxS B len p).1 := by
                rw [ey, ly]
                show p.2.2.2.1.length + _ ≤ _
                omega
              rcases rdB_some h with ⟨s1, h1, hx⟩ | ⟨s1, h1, h2⟩
              · cases hx
                exact (ih 10 (nxS B len p) (nn + 1) nb false _ h1 (Nat.le_refl _) hn.1 (by omega) hnb I1 w K hF f1).2.2 rfl _ ((-10 : Int32) :: y) m1 hy' hb (by rw [ey]; exact cy) l2 (fun z => absurd z (by decide))
              · cases h2
                refine (ih 10 (nxS B len p) (nn + 1) nb true s1 h1 (Nat.le_refl _) hn.1 (by omega) hnb I1 w K (fun z => absurd z (by decide)) f1).2.2 rfl _ ((-10 : Int32) :: y) m1 hy' hb (by rw [ey]; exact cy) l2 (fun _ I2 u d1 d2 => ?_)
                refine hp rfl I2 u ?_ (fun j hj => by rw [d2 j hj, a3])
                show mP B I0 I2 (ptS s1 (-33)) ((s1.2.2.2.1 ++ [-33]).map sg_tr ++ y) w
                rw [List.map_append, List.append_assoc]
                exact d1
            · rw [if_neg c] at h
              cases h
              exact fail rfl rfl (fun z => c z.2) (fun z => by rw [z.1] at g3; exact absurd g3 (by decide)) n57 n56
          · rw [if_neg g3] at h
            have n33 : ¬ (p.2.2.1 = 33 ∧ nn < 8) := fun z => g3 z.1
            by_cases g4 : p.2.2.1 = 40
            · rw [if_pos g4] at h
              have hs1 := hw.2.2.1 (by rw [g4]; decide)
              by_cases c : nb < 8
              · rw [if_pos c] at h
                have tok := mP_tok hm (by rw [g4]; decide) (by rw [g4]; decide) (by rw [g4]; decide) (by rw [g4]; decide)
                have d3 : ¬ ¬ I 107 14 = 3 := fun z => z tok.1
                have d33 : ¬ I 107 15 = 33 := by rw [tok.2]; exact g3
                have d40 : ¬ ¬ I 107 15 = 40 := fun z => z (tok.2.trans g4)
                have d8 : ¬ (8 : Int32) ≤ nI nb := nI_ge (b := 8) c (by decide)
                have e24 : I 107 24 = nI (w ++ y.reverse).length := hm.2.2.2.2.2.2.2.2.1
                have v1 : vp_in (I 107 24) 96 := by rw [e24]; exact vpl (by omega) (by decide)
                have v2 : vp_in (nI nb + 1) 10 := by rw [nI_1]; exact vpl (by omega) (by decide)
                have cb : (nI nb + 1).toNatClampNeg = nb + 1 := by rw [nI_1, nI_clamp (by omega)]
                have q1 : mP B I0 (am_up (am_up I 121 (I 107 24).toNatClampNeg (-11)) 107 24 (am_up I 121 (I 107 24).toNatClampNeg (-11) 107 24 + 1)) p (p.2.2.2.1.map sg_tr) (w ++ y.reverse ++ [-11]) := mP_push (by rw [e24, nI_clamp (by omega)]) (by rw [up_off (by omega), e24, nI_1]) hm
                obtain ⟨I9, e9⟩ : ∃ I9, I9 = am_up (am_up I 121 (I 107 24).toNatClampNeg (-11)) 107 24 (am_up I 121 (I 107 24).toNatClampNeg (-11) 107 24 + 1) := ⟨_, rfl⟩
                have r9 : I9 122 = I 122 := by
                  rw [e9]
                  show am_up (am_up I 121 (I 107 24).toNatClampNeg (-11)) 107 24 _ 122 = I 122
                  rw [up_off (show (122 : Nat) ≠ 107 by omega), up_off (show (122 : Nat) ≠ 121 by omega)]
                rw [← e9] at q1
                have q2 : mP B I0 (am_up I9 122 (nI nb + 1).toNatClampNeg 0) p (p.2.2.2.1.map sg_tr) (w ++ y.reverse ++ [-11]) := mP_tst q1
                have hn := nxS_ws (B := B) hw.2.1
                have cy : ctN (w ++ y.reverse ++ [-11]) = nn := by rw [ctN_app, hc]; rfl
                have ly : (w ++ y.reverse ++ [(-11 : Int32)]).length = (w ++ y.reverse).length + 1 := List.length_append
                have main : am_T am_C (181, 3, 144, [.ref 107, .int (nI nb + 1), .int (nI nn), .int 1, v4], []) (am_mk kt I9 J T n s) K := by
                  refine am_wq_T (cut := fun z pc => ((Nat.beq z 181 && Nat.beq pc 28) || (Nat.beq z 181 && Nat.beq pc 144))) (inl := fun z => !((Nat.beq z 174 || Nat.beq z 182))) 120 _ _ _ ?_
                  refine And.intro rfl (And.intro ⟨rfl, v2, .inl rfl⟩ (And.intro rfl (m_goP hT hw.2.1 (by rw [g4]; decide) (by rw [g4]; decide) q2 fun I1 a1 a2 => And.intro rfl (m_nots a1 (by omega) ?_))))
                  have a3 : ∀ j, j ≤ nb → I1 122 j = I 122 j := fun j hj => by
                    rw [a2, cb, up_ne (by omega), r9]
                  have a4 : I1 122 (nb + 1) = 0 := by
                    rw [a2]
                    show am_up I9 122 (nI nb + 1).toNatClampNeg 0 122 (nb + 1) = 0
                    rw [cb, up_eq]
                  rw [cy, nI_1]
                  have m1 : mP B I0 I1 (nxS B len p) ((nxS B len p).2.2.2.1.map sg_tr) (w ++ y.reverse ++ [-11]) := a1
                  have l2 : (nxS B len p).2.2.2.1.length + (w ++ y.reverse ++ [(-11 : Int32)]).length ≤ (nxS B len p).1 := by
                    rw [ly]
                    show p.2.2.2.1.length + _ ≤ _
                    omega
                  have bo : ∀ m, blk (w ++ y.reverse ++ [-11]) m := fun m => .inr ⟨_, -11, rfl, .inl rfl⟩
                  rcases rdB_some h with ⟨s1, h1, hx⟩ | ⟨s1, h1, h2⟩
                  · cases hx
                    exact (ih 0 (nxS B len p) nn (nb + 1) false _ h1 (Nat.zero_le _) hn.1 hnn (by omega) I1 (w ++ y.reverse ++ [-11]) K hF (.inl a4)).1 (by decide) _ m1 (bo _) cy (fun _ => a4) l2 (fun z => absurd z (by decide))
                  · obtain ⟨w1, p1, -⟩ := (rd_ok hB _ _ _ _ _ _ _ h1 (Nat.zero_le _) hn.1).2.2 rfl
                    have l1 := rd_len hB h1 (Nat.zero_le _) hn.1
                    have l1' : s1.2.2.2.1.length + (nxS B len p).1 ≤ p.2.2.2.1.length + s1.1 := l1
                    have s1l : s1.1 ≤ len := by have := w1.1; have := w1.2.1; omega
                    refine (ih 0 (nxS B len p) nn (nb + 1) true s1 h1 (Nat.zero_le _) hn.1 hnn (by omega) I1 (w ++ y.reverse ++ [-11]) K (fun z => absurd z (by decide)) (.inl a4)).1 (by decide) _ m1 (bo _) cy (fun _ => a4) l2 (fun _ I2 cs2 y2 u2 f1 f2 f3 f4 f5 f6 f7 f8 => ?_)
                    have lcs : cs2.length + y2.length = s1.2.2.2.1.length := by
                      have := congrArg List.length f2
                      rw [List.length_append, List.length_map] at this
                      exact this
                    have ly2 : (w ++ y.reverse ++ [(-11 : Int32)] ++ y2.reverse).length = (w ++ y.reverse).length + 1 + y2.length := by rw [List.length_append, List.length_reverse, ly]
                    by_cases g5 : s1.2.2.1 = 41
                    · rw [if_pos g5] at h2
                      cases h2
                      have tk2 := mP_tok f1 (by rw [g5]; decide) (by rw [g5]; decide) (by rw [g5]; decide) (by rw [g5]; decide)
                      have t0 : ¬ I2 107 14 = 0 := by rw [tk2.1]; decide
                      have t3 : ¬ ¬ I2 107 14 = 3 := fun z => z tk2.1
                      have t41 : ¬ ¬ I2 107 15 = 41 := fun z => z (tk2.2.trans g5)
                      have np : ¬ nI (nb + 1) ≤ 0 := nI_nle (by omega) (by omega)
                      refine am_wq_T (cut := fun z pc => (Nat.beq z 181 && Nat.beq pc 28)) (inl := fun z => !((Nat.beq z 174 || (Nat.beq z 182 || (Nat.beq z 178 || (Nat.beq z 179 || Nat.beq z 177)))))) 120 _ _ _ ?_
                      refine And.intro (fun z => absurd rfl z) (fun _ => And.intro rfl (And.intro (fun z => absurd z t0) (fun _ => And.intro (fun _ => And.intro rfl (And.intro (fun z => absurd z t3) (fun _ => And.intro rfl (And.intro (fun z => absurd z t41) (fun _ => And.intro (fun z => absurd z np) (fun _ => ?_)))))) (fun z => absurd rfl z))))
                      refine And.intro rfl (m_settle y2 cs2 I2 f1 (bo 0) (fun x hx => ⟨(f3 x hx).1, rk_pos x⟩) (by omega) fun I3 j1 j2 => ?_)
                      have e3 : I3 107 24 = nI ((w ++ y.reverse).length + 1) := by rw [← ly]; exact j1.2.2.2.2.2.2.2.2.1
                      have j3 : mP B I0 (am_up I3 107 24 (I3 107 24 - 1)) s1 (cs2 ++ y2) (w ++ y.reverse) := mP_pop (by rw [e3]; exact nI_pred _) j1
                      refine And.intro rfl (And.intro rfl (And.intro rfl (m_settle y (cs2 ++ y2) _ j3 hb (fun x hx => by rw [hy x hx]; decide) (by rw [List.length_append]; omega) fun I4 o1 o2 => ?_)))
                      refine And.intro rfl (m_nots o1 (by omega) (And.intro rfl (m_goP (p := s1) hT w1.2.1 (by rw [g5]; decide) (by rw [g5]; decide) o1 fun I5 r1 r2 => ?_)))
                      have kk := hp rfl I5 u2 (by
                        show mP B I0 I5 (nxS B len s1) (s1.2.2.2.1.map sg_tr ++ y) w
                        rw [← f2]
                        exact r1) (fun j hj => by
                        rw [r2, o2]
                        show am_up I3 107 24 _ 122 j = _
                        rw [up_ne (by omega), j2, f4 j (by omega), a3 j hj])
                      have en : nI (nb + 1) + -1 = nI nb := by rw [nI_m1]
                      rw [← en] at kk
                      exact kk
                    · rw [if_neg g5] at h2
                      cases h2
                      exact m_stop (by omega) (by omega) w1 h96 f1 ⟨_, rfl⟩ (fun x hx => (f3 x hx).1) (by omega) g5 (fun l z1 z2 => f8 l (Nat.zero_le _) z1 z2) (f6 (by decide)) (hF rfl)
                rw [e9] at main
                refine am_wq_T (cut := fun z pc => ((Nat.beq z 181 && Nat.beq pc 28) || (Nat.beq z 181 && Nat.beq pc 144))) (inl := fun z => !((Nat.beq z 174 || Nat.beq z 182))) 120 _ _ _ ?_
                refine And.intro (fun _ => And.intro (fun z => absurd z m1z) (fun _ => And.intro rfl (And.intro (fun z => absurd z d3) (fun _ => And.intro rfl (And.intro (fun _ => ?_) (fun z => absurd d33 z)))))) (fun z => absurd m1z z)
                exact And.intro rfl (And.intro (fun z => absurd z d3) (fun _ => And.intro rfl (And.intro (fun z => absurd z d40) (fun _ => And.intro (fun z => absurd z d8) (fun _ => And.intro rfl (And.intro rfl (And.intro ⟨rfl, v1⟩ (And.intro rfl (And.intro rfl main)))))))))
              · rw [if_neg c] at h
                cases h
                exact fail rfl rfl n33 (fun z => c z.2) n57 n56
            · rw [if_neg g4] at h
              cases h
              exact fail rfl rfl n33 (fun z => g4 z.1) n57 n56
end T98
