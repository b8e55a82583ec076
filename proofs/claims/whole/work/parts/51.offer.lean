/-! the class's dealer: rows of prices -/
section T51
def lo (x : Int) : Int64 := Int64.ofInt x
theorem lo_toInt {x : Int} (h : -4611686018427387905 < x ∧ x < 9000000000000000000) : (lo x).toInt = x := Int64.toInt_ofInt_of_le (by omega) (by omega)
theorem lo_add (a b : Int) : lo a + lo b = lo (a + b) := (Int64.ofInt_add a b).symm
theorem lo_sub (a b : Int) : lo a - lo b = lo (a - b) := (Int64.ofInt_sub a b).symm
theorem lo_mul (a b : Int) : lo a * lo b = lo (a * b) := (Int64.ofInt_mul a b).symm
/-- a price, or none -/
def pok (x : Int) : Prop := x = NV ∨ (-1100000000000 ≤ x ∧ x ≤ 2200000000000)
theorem pok_b {x : Int} (h : pok x) : -4611686018427387905 < x ∧ x < 9000000000000000000 := by
  unfold pok NV at h; omega
theorem lo_lt {a b : Int} (ha : -4611686018427387905 < a ∧ a < 9000000000000000000) (hb : -4611686018427387905 < b ∧ b < 9000000000000000000) : lo a < lo b ↔ a < b := by
  rw [Int64.lt_iff_toInt_lt, lo_toInt ha, lo_toInt hb]
theorem lo_eq {a b : Int} (ha : -4611686018427387905 < a ∧ a < 9000000000000000000) (hb : -4611686018427387905 < b ∧ b < 9000000000000000000) : lo a = lo b ↔ a = b := by
  rw [← Int64.toInt_inj, lo_toInt ha, lo_toInt hb]
theorem lo_NV : (4611686018427387904 : Int64) = lo NV := by decide
/-- the longs that have changed lie in the rows P -/
def chJ (P : Nat → Prop) (J J' : Nat → Nat → Int64) : Prop := ∀ r, ¬ P r → J' r = J r
theorem chJ_rfl {P : Nat → Prop} {J : Nat → Nat → Int64} : chJ P J J := fun _ _ => rfl
theorem chJ_tr {P Q S : Nat → Prop} {J J' J2 : Nat → Nat → Int64} (h : chJ P J J') (h' : chJ Q J' J2) (q : ∀ r, P r ∨ Q r → S r) : chJ S J J2 := fun r hr => (h' r fun c => hr (q r (.inr c))).trans (h r fun c => hr (q r (.inl c)))
theorem upJ_eq (J : Nat → Nat → Int64) (a k : Nat) (v : Int64) : am_up J a k v a k = v := if_pos ⟨rfl, rfl⟩
theorem upJ_ne {J : Nat → Nat → Int64} {a k b j : Nat} {v : Int64} (h : ¬ (b = a ∧ j = k)) : am_up J a k v b j = J b j := if_neg h
theorem upJ_off {J : Nat → Nat → Int64} {a k b : Nat} {v : Int64} (h : b ≠ a) : am_up J a k v b = J b := funext fun _ => if_neg fun q => h q.1
theorem chJ_up {P : Nat → Prop} {J : Nat → Nat → Int64} {a k : Nat} {v : Int64} (h : P a) : chJ P J (am_up J a k v) := fun r hr => upJ_off fun e => hr (e ▸ h)
theorem more_N : ∀ m, m < 64 → ∀ w, w < 6 → nI m ||| ((1 : Int32) <<< (nI w &&& 31)) = nI (if m.testBit w then m else m + 2 ^ w) := by decide +kernel
theorem more_lt : ∀ m, m < 64 → ∀ w, w < 6 → (if m.testBit w then m else m + 2 ^ w) < 64 := by decide +kernel
def OZ (W : Nat) (p L : Nat → Int) (lo : Nat) (dn : Nat → Nat → Prop) (C : Nat → Int) : Prop :=
  (∀ S, S < lo → C S = L S) ∧ (∀ S, S < 64 → C S ≤ L S) ∧ (∀ S w', S < 64 → w' < W → dn S w' → S.testBit w' = false → L S ≠ NV → p w' ≠ NV → C (S + 2 ^ w') ≤ L S + p w') ∧
  ∀ S, S < 64 → C S = L S ∨ ∃ w' S', w' < W ∧ S = S' + 2 ^ w' ∧ S'.testBit w' = false ∧ L S' ≠ NV ∧ p w' ≠ NV ∧ C S = L S' + p w'
variable {W : Nat} {p L C : Nat → Int}
theorem OZ_w {lo lo' : Nat} {dn dn' : Nat → Nat → Prop} (h : OZ W p L lo dn C) (h1 : lo' ≤ lo) (h2 : ∀ S w', S < 64 → w' < W → dn' S w' → S.testBit w' = false → L S ≠ NV → p w' ≠ NV → dn S w') : OZ W p L lo' dn' C :=
  ⟨fun S hS => h.1 S (by omega), h.2.1, fun S w' a b c d e f => h.2.2.1 S w' a b (h2 S w' a b c d e f) d e f, h.2.2.2⟩
theorem OZ_0 : OZ W p L 64 (fun S _ => 64 ≤ S) L := ⟨fun _ _ => rfl, fun _ _ => Int.le_refl _, fun S _ h _ q => absurd q (by omega), fun _ _ => .inl rfl⟩
theorem OZ_end (h : OZ W p L 0 (fun S _ => 0 ≤ S) C) : OF W p L C := ⟨h.2.1, fun S w a b c d e => h.2.2.1 S w a b (Nat.zero_le _) c d e, h.2.2.2⟩
/-- one price taken -/
theorem OZ_take {m w : Nat} (hm : m < 64) (hw : w < W) (hb : m.testBit w = false) (hL : L m ≠ NV) (hp : p w ≠ NV) (h : OZ W p L (m + 1) (fun S w' => m < S ∨ (S = m ∧ w' < w)) C) : OZ W p L (m + 1) (fun S w' => m < S ∨ (S = m ∧ w' < w + 1)) (up1 C (m + 2 ^ w) (if L m + p w < C (m + 2 ^ w) then L m + p w else C (m + 2 ^ w))) := by
  have h2 : 0 < 2 ^ w := Nat.pow_pos (by decide)
  have le : ∀ S, up1 C (m + 2 ^ w) (if L m + p w < C (m + 2 ^ w) then L m + p w else C (m + 2 ^ w)) S ≤ C S := fun S => by
    by_cases e : S = m + 2 ^ w
    · subst e; rw [up1_eq]; split <;> omega
    · rw [up1_ne e]; exact Int.le_refl _
  refine ⟨fun S hS => ?_, fun S hS => Int.le_trans (le S) (h.2.1 S hS), fun S w' a b c d e f => ?_, fun S hS => ?_⟩
  · rw [up1_ne (by omega)]; exact h.1 S hS
  · by_cases q : S = m ∧ w' = w
    · obtain ⟨rfl, rfl⟩ := q
      rw [up1_eq]; split <;> omega
    · exact Int.le_trans (le _) (h.2.2.1 S w' a b (by omega) d e f)
  · by_cases e : S = m + 2 ^ w
    · subst e
      rw [up1_eq]
      split
      · exact .inr ⟨w, m, hw, rfl, hb, hL, hp, rfl⟩
      · exact h.2.2.2 _ hS
    · rw [up1_ne e]; exact h.2.2.2 S hS
/-- what is in a table in the making -/
theorem OZ_pok {lo : Nat} {dn : Nat → Nat → Prop} (hL : ∀ S, S < 64 → L S = NV ∨ (0 ≤ L S ∧ L S ≤ 1100000000000)) (hp : ∀ w, w < W → p w = NV ∨ (-1100000000000 ≤ p w ∧ p w ≤ 1100000000000)) (h : OZ W p L lo dn C) {S : Nat} (hS : S < 64) : pok (C S) := by
  unfold pok
  rcases h.2.2.2 S hS with e | ⟨w', S', a, b, c, d, e, f⟩
  · rw [e]; have := hL S hS; omega
  · have h2 : 0 < 2 ^ w' := Nat.pow_pos (by decide)
    have := hL S' (by omega)
    have := hp w' a
    omega
variable {kt : Nat → Nat × Nat} {I I' : Nat → Nat → Int32} {J J' : Nat → Nat → Int64} {T : Nat → Nat → Nat} {n s : Nat} {K : Option Value → am_M → Prop} {N : Nat → Int32} {hc wc tc h w : Nat}
theorem cmp_NV {x : Int} (hx : pok x) : lg_cmp (lo x) 4611686018427387904 = 0 ↔ x = NV := by
  rw [lg_cmp_eq, lo_NV, lo_eq (pok_b hx) (by decide)]
theorem c_offer_i {m : Nat} (hm : m < 64) (hW : W ≤ 6) (hI : I 69 2 = nI W) (hL : ∀ S, S < 64 → L S = NV ∨ (0 ≤ L S ∧ L S ≤ 1100000000000)) (hp : ∀ w, w < W → p w = NV ∨ (-1100000000000 ≤ p w ∧ p w ≤ 1100000000000)) {J0 : Nat → Nat → Int64} :
    ∀ (j w : Nat) (C : Nat → Int) (J : Nat → Nat → Int64) (v3 : Value), w + j = W → chJ (fun r => r = 70) J0 J → (∀ S, S < 64 → J 70 S = lo (C S)) → (∀ w, w < W → J 71 w = lo (p w)) → OZ W p L (m + 1) (fun S w' => m < S ∨ (S = m ∧ w' < w)) C →
    (∀ J' C' v2 v3, chJ (fun r => r = 70) J0 J' → (∀ S, S < 64 → J' 70 S = lo (C' S)) → OZ W p L m (fun S _ => m ≤ S) C' → am_T am_C (3, 0, 93, [.ref 69, .int (nI m), v2, v3], []) (am_mk kt I J' T n s) K) →
    am_T am_C (3, 0, 14, [.ref 69, .int (nI m), .int (nI w), v3], []) (am_mk kt I J T n s) K
  | 0, w, C, J, v3, hw, hJ, h70, h71, hO, hK => by
    have : w = W := by omega
    subst this
    have c1 : I 69 2 ≤ nI w := by rw [hI]; exact nI_le (Nat.le_refl _) (by omega)
    have key := hK J C (.int (nI w)) v3 hJ h70 (OZ_w hO (by omega) fun S w' a b c _ _ _ => by omega)
    refine am_wq_T (cut := fun z pc => ((Nat.beq z 3 && Nat.beq pc 14) || (Nat.beq z 3 && Nat.beq pc 93))) (inl := fun _ => false) 120 _ _ _ ?_
    exact And.intro rfl (And.intro (fun _ => key) (fun q => absurd c1 q))
  | j + 1, w, C, J, v3, hw, hJ, h70, h71, hO, hK => by
    have c1 : ¬ I 69 2 ≤ nI w := by rw [hI]; exact nI_ge (by omega) (by omega)
    have w6 : w < 6 := by omega
    have wW : w < W := by omega
    have vm : vp_in (nI m) 64 := vpl hm (by decide)
    have vw : vp_in (nI w) 6 := vpl w6 (by decide)
    have Cm : C m = L m := hO.1 m (by omega)
    have em : J 70 (nI m).toNatClampNeg = lo (L m) := by rw [nI_clamp (by omega), h70 m hm, Cm]
    have ew : J 71 (nI w).toNatClampNeg = lo (p w) := by rw [nI_clamp (by omega), h71 w wW]
    have pL : pok (L m) := by have := hL m hm; unfold pok; omega
    have pp : pok (p w) := by have := hp w wW; unfold pok; omega
    by_cases cL : L m = NV
    · have c2 : lg_cmp (J 70 (nI m).toNatClampNeg) 4611686018427387904 = 0 := by rw [em]; exact (cmp_NV pL).mpr cL
      have key := hK J C (.int (nI w)) v3 hJ h70 (OZ_w hO (by omega) fun S w' a b c d e f => by
        rcases Nat.lt_or_ge m S with g | g
        · exact .inl g
        · have : S = m := by omega
          subst this; exact absurd cL e)
      refine am_wq_T (cut := fun z pc => ((Nat.beq z 3 && Nat.beq pc 14) || (Nat.beq z 3 && Nat.beq pc 93))) (inl := fun _ => false) 120 _ _ _ ?_
      exact And.intro rfl (And.intro (fun q => absurd q c1) (fun _ => And.intro rfl (And.intro ⟨rfl, vm⟩ (And.intro (fun _ => key) (fun q => absurd c2 q)))))
    · have c2 : ¬ lg_cmp (J 70 (nI m).toNatClampNeg) 4611686018427387904 = 0 := by rw [em]; exact fun q => cL ((cmp_NV pL).mp q)
      have mN := more_N m hm w w6
      have ih : ∀ C J v3, chJ (fun r => r = 70) J0 J → (∀ S, S < 64 → J 70 S = lo (C S)) → (∀ w, w < W → J 71 w = lo (p w)) → OZ W p L (m + 1) (fun S w' => m < S ∨ (S = m ∧ w' < w + 1)) C → am_T am_C (3, 0, 14, [.ref 69, .int (nI m), .int (nI w + 1), v3], []) (am_mk kt I J T n s) K := fun C J v3 a b c d => by
        rw [← nI_succ]
        exact c_offer_i hm hW hI hL hp j (w + 1) C J v3 (by omega) a b c d hK
      by_cases hb : m.testBit w = true
      · have c3 : nI m ||| ((1 : Int32) <<< (nI w &&& 31)) = nI m := by rw [mN, if_pos hb]
        have key := ih C J (.int (nI m ||| ((1 : Int32) <<< (nI w &&& 31)))) hJ h70 h71 (OZ_w hO (Nat.le_refl _) fun S w' a b c d e f => by
          rcases Nat.lt_or_ge m S with g | g
          · exact .inl g
          · have : S = m := by omega
            subst this
            have : w' ≠ w := fun q => by subst q; rw [hb] at d; cases d
            exact .inr ⟨rfl, by omega⟩)
        refine am_wq_T (cut := fun z pc => ((Nat.beq z 3 && Nat.beq pc 14) || (Nat.beq z 3 && Nat.beq pc 93))) (inl := fun _ => false) 120 _ _ _ ?_
        exact And.intro rfl (And.intro (fun q => absurd q c1) (fun _ => And.intro rfl (And.intro ⟨rfl, vm⟩ (And.intro (fun q => absurd q c2) (fun _ => And.intro (fun _ => key) (fun q => absurd c3 q))))))
      · have hb : m.testBit w = false := by cases e : m.testBit w; rfl; exact absurd e hb
        have hlt : m + 2 ^ w < 64 := by have := more_lt m hm w w6; rw [if_neg (by rw [hb]; decide)] at this; exact this
        have h2 : 0 < 2 ^ w := Nat.pow_pos (by decide)
        have e3 : nI m ||| ((1 : Int32) <<< (nI w &&& 31)) = nI (m + 2 ^ w) := by rw [mN, if_neg (by rw [hb]; decide)]
        have c3 : ¬ nI m ||| ((1 : Int32) <<< (nI w &&& 31)) = nI m := by rw [e3]; intro q; have := (nI_eq (by omega) (by omega)).mp q; omega
        by_cases cp : p w = NV
        · have c4 : lg_cmp (J 71 (nI w).toNatClampNeg) 4611686018427387904 = 0 := by rw [ew]; exact (cmp_NV pp).mpr cp
          have key := ih C J (.int (nI m ||| ((1 : Int32) <<< (nI w &&& 31)))) hJ h70 h71 (OZ_w hO (Nat.le_refl _) fun S w' a b c d e f => by
            rcases Nat.lt_or_ge m S with g | g
            · exact .inl g
            · have : S = m := by omega
              subst this
              have : w' ≠ w := fun q => by subst q; exact f cp
              exact .inr ⟨rfl, by omega⟩)
          refine am_wq_T (cut := fun z pc => ((Nat.beq z 3 && Nat.beq pc 14) || (Nat.beq z 3 && Nat.beq pc 93))) (inl := fun _ => false) 120 _ _ _ ?_
          exact And.intro rfl (And.intro (fun q => absurd q c1) (fun _ => And.intro rfl (And.intro ⟨rfl, vm⟩ (And.intro (fun q => absurd q c2) (fun _ => And.intro (fun q => absurd q c3) (fun _ => And.intro rfl (And.intro ⟨rfl, vw⟩ (And.intro (fun _ => key) (fun q => absurd c4 q)))))))))
        · have c4 : ¬ lg_cmp (J 71 (nI w).toNatClampNeg) 4611686018427387904 = 0 := by rw [ew]; exact fun q => cp ((cmp_NV pp).mp q)
          have vmo : vp_in (nI m ||| ((1 : Int32) <<< (nI w &&& 31))) 64 := by rw [e3]; exact vpl hlt (by decide)
          have emo : J 70 (nI m ||| ((1 : Int32) <<< (nI w &&& 31))).toNatClampNeg = lo (C (m + 2 ^ w)) := by rw [e3, nI_clamp (by omega), h70 _ hlt]
          have pc := OZ_pok hL hp hO hlt
          have hsum : pok (L m + p w) := by have := hL m hm; have := hp w wW; unfold pok; omega
          have emin : (if J 70 (nI m).toNatClampNeg + J 71 (nI w).toNatClampNeg < J 70 (nI m ||| ((1 : Int32) <<< (nI w &&& 31))).toNatClampNeg then J 70 (nI m).toNatClampNeg + J 71 (nI w).toNatClampNeg else J 70 (nI m ||| ((1 : Int32) <<< (nI w &&& 31))).toNatClampNeg) = lo (if L m + p w < C (m + 2 ^ w) then L m + p w else C (m + 2 ^ w)) := by
            rw [em, ew, emo, lo_add]
            by_cases q : L m + p w < C (m + 2 ^ w)
            · rw [if_pos q, if_pos ((lo_lt (pok_b hsum) (pok_b pc)).mpr q)]
            · rw [if_neg q, if_neg (fun x => q ((lo_lt (pok_b hsum) (pok_b pc)).mp x))]
          have key := ih (up1 C (m + 2 ^ w) (if L m + p w < C (m + 2 ^ w) then L m + p w else C (m + 2 ^ w))) (am_up J 70 (nI m ||| ((1 : Int32) <<< (nI w &&& 31))).toNatClampNeg (lo (if L m + p w < C (m + 2 ^ w) then L m + p w else C (m + 2 ^ w)))) (.int (nI m ||| ((1 : Int32) <<< (nI w &&& 31)))) (chJ_tr hJ (chJ_up (P := fun r => r = 70) rfl) fun r q => q.elim id id) (fun S hS => by
              rw [e3, nI_clamp (by omega)]
              by_cases e : S = m + 2 ^ w
              · subst e; rw [upJ_eq, up1_eq]
              · rw [upJ_ne (by omega), up1_ne e]; exact h70 S hS) (fun w hw => by rw [upJ_off (by decide)]; exact h71 w hw) (OZ_take hm wW hb cL cp hO)
          rw [← emin] at key
          refine am_wq_T (cut := fun z pc => ((Nat.beq z 3 && Nat.beq pc 14) || (Nat.beq z 3 && Nat.beq pc 93))) (inl := fun _ => false) 120 _ _ _ ?_
          refine And.intro rfl (And.intro (fun q => absurd q c1) (fun _ => And.intro rfl (And.intro ⟨rfl, vm⟩ (And.intro (fun q => absurd q c2) (fun _ => And.intro (fun q => absurd q c3) (fun _ => And.intro rfl (And.intro ⟨rfl, vw⟩ (And.intro (fun q => absurd q c4) (fun _ => ?_)))))))))
          exact And.intro rfl (And.intro rfl (And.intro ⟨rfl, vmo⟩ (And.intro rfl (And.intro ⟨rfl, vm⟩ (And.intro rfl (And.intro ⟨rfl, vw⟩ (And.intro ⟨rfl, vmo⟩ key)))))))
theorem c_offer_o (hW : W ≤ 6) (hI : I 69 2 = nI W) (hL : ∀ S, S < 64 → L S = NV ∨ (0 ≤ L S ∧ L S ≤ 1100000000000)) (hp : ∀ w, w < W → p w = NV ∨ (-1100000000000 ≤ p w ∧ p w ≤ 1100000000000)) {J0 : Nat → Nat → Int64} (h71 : ∀ w, w < W → J0 71 w = lo (p w)) (hK : ∀ J' C', chJ (fun r => r = 70) J0 J' → (∀ S, S < 64 → J' 70 S = lo (C' S)) → OF W p L C' → K none (am_mk kt I J' T n s)) :
    ∀ (j : Nat) (C : Nat → Int) (J : Nat → Nat → Int64) (v2 v3 : Value), j ≤ 64 → chJ (fun r => r = 70) J0 J → (∀ S, S < 64 → J 70 S = lo (C S)) → OZ W p L j (fun S _ => j ≤ S) C → am_T am_C (3, 0, 8, [.ref 69, .int (nI j - 1), v2, v3], []) (am_mk kt I J T n s) K
  | 0, C, J, v2, v3, hj, hJ, h70, hO => by
    have c1 : nI 0 - 1 < 0 := by decide
    have key := hK J C hJ h70 (OZ_end hO)
    refine am_wq_T (cut := fun z pc => (Nat.beq z 3 && Nat.beq pc 8)) (inl := fun _ => false) 120 _ _ _ ?_
    exact And.intro (fun _ => key) (fun q => absurd c1 q)
  | m + 1, C, J, v2, v3, hj, hJ, h70, hO => by
    have c1 : ¬ nI (m + 1) - 1 < 0 := by rw [nI_p1]; exact nI_pos (by omega)
    have key := c_offer_i (kt := kt) (T := T) (n := n) (s := s) (K := K) (m := m) (by omega) hW hI hL hp (J0 := J0) W 0 C J v3 (by omega) hJ h70 (fun w hw => by rw [hJ 71 (by decide)]; exact h71 w hw) (OZ_w hO (Nat.le_refl _) fun S w' a b c _ _ _ => by show m + 1 ≤ S; omega) fun J' C' v2 v3 a b c => by
      have ih := c_offer_o hW hI hL hp h71 hK m C' J' v2 v3 (by omega) a b c
      rw [Int32.sub_eq_add_neg] at ih
      refine am_wq_T (cut := fun z pc => (Nat.beq z 3 && Nat.beq pc 8)) (inl := fun _ => false) 120 _ _ _ ?_
      exact ih
    rw [← nI_p1] at key
    refine am_wq_T (cut := fun z pc => ((Nat.beq z 3 && Nat.beq pc 14) || (Nat.beq z 3 && Nat.beq pc 8))) (inl := fun _ => false) 120 _ _ _ ?_
    exact And.intro (fun q => absurd q c1) (fun _ => key)
theorem c_offer (hW : W ≤ 6) (hI : I 69 2 = nI W) (hL : ∀ S, S < 64 → L S = NV ∨ (0 ≤ L S ∧ L S ≤ 1100000000000)) (hp : ∀ w, w < W → p w = NV ∨ (-1100000000000 ≤ p w ∧ p w ≤ 1100000000000)) (h70 : ∀ S, S < 64 → J 70 S = lo (L S)) (h71 : ∀ w, w < W → J 71 w = lo (p w)) (hK : ∀ J' C', chJ (fun r => r = 70) J J' → (∀ S, S < 64 → J' 70 S = lo (C' S)) → OF W p L C' → K none (am_mk kt I J' T n s)) : am_T am_C (3, 0, 0, [.ref 69, .null, .null, .null], []) (am_mk kt I J T n s) K := by
  have key := c_offer_o (kt := kt) (T := T) (n := n) (s := s) (K := K) hW hI hL hp (J0 := J) h71 hK 64 L J .null .null (Nat.le_refl _) chJ_rfl h70 OZ_0
  refine am_wq_T (cut := fun z pc => (Nat.beq z 3 && Nat.beq pc 8)) (inl := fun _ => false) 120 _ _ _ ?_
  exact And.intro rfl (And.intro rfl key)
end T51
