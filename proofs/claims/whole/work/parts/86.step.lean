/-! words and signs of a text: the class -/
section T86
variable {kt : Nat → Nat × Nat} {I I' I0 : Nat → Nat → Int32} {J J' : Nat → Nat → Int64} {T T' : Nat → Nat → Nat} {n s : Nat} {K : Option Value → am_M → Prop} {B : Nat → Int32} {len a e : Nat} {g : Int32}
/-- the sort of a byte -/
def srt (x : Int32) : Int32 := if ¬ x < 97 ∧ ¬ 122 < x then 256 else if ¬ x < 48 ∧ ¬ 57 < x then 257 else x
theorem srt_l {x : Int32} (hx : sg_in x 0 255) : srt x = 256 ↔ ¬ x < 97 ∧ ¬ 122 < x := by
  unfold srt
  by_cases c : ¬ x < 97 ∧ ¬ 122 < x
  · rw [if_pos c]; exact ⟨fun _ => c, fun _ => rfl⟩
  · rw [if_neg c]
    refine ⟨fun z => ?_, fun z => absurd z c⟩
    by_cases d : ¬ x < 48 ∧ ¬ 57 < x
    · rw [if_pos d] at z; exact absurd z (by decide)
    · rw [if_neg d] at z
      unfold sg_in at hx
      rw [z] at hx
      exact absurd hx.2 (by decide)
theorem srt_f {x : Int32} (hx : sg_in x 0 255) : srt x = 257 ↔ ¬ x < 48 ∧ ¬ 57 < x := by
  unfold srt
  by_cases c : ¬ x < 97 ∧ ¬ 122 < x
  · rw [if_pos c]
    refine ⟨fun z => absurd z (by decide), fun z => ?_⟩
    (exfalso; simp only [Int32.lt_iff_toInt_lt, Int32.le_iff_toInt_le, gt_iff_lt, ge_iff_le, ← Int32.toInt_inj, Int32.reduceToInt, Int32.reduceMul, Int32.reduceAdd, Int32.reduceSub, ne_eq, true_and, and_true, false_and, and_false, not_true_eq_false, not_false_eq_true, true_or, or_true, false_or, or_false] at *; omega)
  · rw [if_neg c]
    by_cases d : ¬ x < 48 ∧ ¬ 57 < x
    · rw [if_pos d]; exact ⟨fun _ => d, fun _ => rfl⟩
    · rw [if_neg d]
      refine ⟨fun z => ?_, fun z => absurd z d⟩
      unfold sg_in at hx
      rw [z] at hx
      exact absurd hx.2 (by decide)
/-- on as far as all is so -/
def skp (P : Nat → Bool) : Nat → Nat → Nat
  | 0, a => a
  | j + 1, a => if P a = true then skp P j (a + 1) else a
theorem skp_b (P : Nat → Bool) : ∀ j a, a ≤ skp P j a ∧ skp P j a ≤ a + j
  | 0, a => ⟨Nat.le_refl _, Nat.le_refl _⟩
  | j + 1, a => by
    have k := skp_b P j (a + 1)
    show a ≤ (if P a = true then skp P j (a + 1) else a) ∧ (if P a = true then skp P j (a + 1) else a) ≤ a + (j + 1)
    split <;> omega
theorem skp_a (P : Nat → Bool) : ∀ j a k, a ≤ k → k < skp P j a → P k = true
  | 0, a, k, h1, h2 => absurd h2 (Nat.not_lt.mpr h1)
  | j + 1, a, k, h1, h2 => by
    have h2' : k < (if P a = true then skp P j (a + 1) else a) := h2
    by_cases c : P a = true
    · rw [if_pos c] at h2'
      by_cases d : k = a
      · subst d; exact c
      · exact skp_a P j (a + 1) k (by omega) h2'
    · rw [if_neg c] at h2'
      omega
theorem skp_y {P : Nat → Bool} {j a : Nat} (h : P a = true) : skp P (j + 1) a = skp P j (a + 1) := if_pos h
theorem skp_n {P : Nat → Bool} {j a : Nat} (h : ¬ P a = true) : skp P (j + 1) a = a := if_neg h
def wd (g : Int32) : Bool := decide (g = 256 ∨ g = 257)
/-- the next word or sign: where, up to where, which -/
def tkn (B : Nat → Int32) (len e : Nat) (w : Bool) : Nat × Nat × Int32 :=
  if skp (fun k => decide (B k = 32)) (len - e) e < len then
    (if srt (B (skp (fun k => decide (B k = 32)) (len - e) e)) = 256 ∨ srt (B (skp (fun k => decide (B k = 32)) (len - e) e)) = 257 then
      (skp (fun k => decide (B k = 32)) (len - e) e, skp (fun k => decide (srt (B k) = srt (B (skp (fun k => decide (B k = 32)) (len - e) e)))) (len - (skp (fun k => decide (B k = 32)) (len - e) e + 1)) (skp (fun k => decide (B k = 32)) (len - e) e + 1), if w = true ∧ skp (fun k => decide (B k = 32)) (len - e) e = e then 258 else srt (B (skp (fun k => decide (B k = 32)) (len - e) e)))
    else (skp (fun k => decide (B k = 32)) (len - e) e, skp (fun k => decide (B k = 32)) (len - e) e + 1, srt (B (skp (fun k => decide (B k = 32)) (len - e) e))))
  else (skp (fun k => decide (B k = 32)) (len - e) e, skp (fun k => decide (B k = 32)) (len - e) e, -1)
/-- a tape of so many bytes -/
def tpB (I0 : Nat → Nat → Int32) (B : Nat → Int32) (len : Nat) : Prop := len ≤ 96 ∧ I0 72 1 = nI len ∧ ∀ k, k < len → I0 73 k = B k ∧ sg_in (B k) 0 255
/-- where the class reads -/
def scR (I0 I : Nat → Nat → Int32) (a e : Nat) (g : Int32) : Prop := ch (fun r => r = 72) I0 I ∧ (∀ k, k ≠ 2 → k ≠ 3 → k ≠ 4 → I 72 k = I0 72 k) ∧ I 72 2 = nI a ∧ I 72 3 = nI e ∧ I 72 4 = g
theorem scR_2 {x : Nat} {v : Int32} (hv : v = nI x) (h : scR I0 I a e g) : scR I0 (am_up I 72 2 v) x e g :=
  ⟨ch_tr h.1 (ch_up (P := fun r => r = 72) rfl) fun r q => q.elim id id, fun k h2 h3 h4 => by rw [up_ne (by omega)]; exact h.2.1 k h2 h3 h4, by rw [up_eq]; exact hv, by rw [up_ne (by omega)]; exact h.2.2.2.1, by rw [up_ne (by omega)]; exact h.2.2.2.2⟩
theorem scR_3 {x : Nat} {v : Int32} (hv : v = nI x) (h : scR I0 I a e g) : scR I0 (am_up I 72 3 v) a x g :=
  ⟨ch_tr h.1 (ch_up (P := fun r => r = 72) rfl) fun r q => q.elim id id, fun k h2 h3 h4 => by rw [up_ne (by omega)]; exact h.2.1 k h2 h3 h4, by rw [up_ne (by omega)]; exact h.2.2.1, by rw [up_eq]; exact hv, by rw [up_ne (by omega)]; exact h.2.2.2.2⟩
theorem scR_4 {v : Int32} (h : scR I0 I a e g) : scR I0 (am_up I 72 4 v) a e v :=
  ⟨ch_tr h.1 (ch_up (P := fun r => r = 72) rfl) fun r q => q.elim id id, fun k h2 h3 h4 => by rw [up_ne (by omega)]; exact h.2.1 k h2 h3 h4, by rw [up_ne (by omega)]; exact h.2.2.1, by rw [up_ne (by omega)]; exact h.2.2.2.1, up_eq _ _ _ _⟩
theorem scR_len (hT : tpB I0 B len) (h : scR I0 I a e g) : I 72 1 = nI len := by rw [h.2.1 1 (by omega) (by omega) (by omega)]; exact hT.2.1
theorem scR_B (hT : tpB I0 B len) (h : scR I0 I a e g) {k : Nat} (hk : k < len) : I 73 (nI k).toNatClampNeg = B k := by
  have := hT.1
  rw [nI_clamp (by omega), h.1 73 (by omega)]
  exact (hT.2.2 k hk).1
theorem c_sort {x v : Int32} (hv : srt x = v) (hK : K (some (.int v)) (am_mk kt I J T n s)) : am_T am_C (44, 0, 0, [.int x], []) (am_mk kt I J T n s) K := by
  subst hv
  unfold srt at hK
  refine am_wq_T (cut := fun _ _ => false) (inl := fun _ => true) 120 _ _ _ ?_
  refine And.intro (fun z => ?_) (fun z => And.intro (fun y => ?_) (fun y => ?_))
  · rw [if_neg (fun u => u.1 z)] at hK
    refine And.intro (fun x1 => ?_) (fun x1 => And.intro (fun x2 => ?_) (fun x2 => ?_))
    · rw [if_neg (fun u => u.1 x1)] at hK; exact hK
    · rw [if_neg (fun u => u.2 x2)] at hK; exact hK
    · rw [if_pos ⟨x1, x2⟩] at hK; exact hK
  · rw [if_neg (fun u => u.2 y)] at hK
    refine And.intro (fun x1 => ?_) (fun x1 => And.intro (fun x2 => ?_) (fun x2 => ?_))
    · rw [if_neg (fun u => u.1 x1)] at hK; exact hK
    · rw [if_neg (fun u => u.2 x2)] at hK; exact hK
    · rw [if_pos ⟨x1, x2⟩] at hK; exact hK
  · rw [if_pos ⟨z, y⟩] at hK; exact hK
theorem c_sp {l1 l2 : Value} (hT : tpB I0 B len) (hK : ∀ I', scR I0 I' (skp (fun k => decide (B k = 32)) (len - e) e) e g → am_T am_C (43, 1, 77, [.ref 72, l1, l2], []) (am_mk kt I' J T n s) K) : ∀ (j b : Nat) (I : Nat → Nat → Int32), b + j = len → skp (fun k => decide (B k = 32)) (len - e) e = skp (fun k => decide (B k = 32)) j b → scR I0 I b e g → am_T am_C (43, 1, 39, [.ref 72, l1, l2], []) (am_mk kt I J T n s) K := by
  have h96 := hT.1
  intro j
  induction j with
  | zero =>
    intro b I hb he hs
    have : b = len := by omega
    subst this
    have c1 : I 72 1 ≤ I 72 2 := by rw [scR_len hT hs, hs.2.2.1]; exact nI_le (Nat.le_refl _) (by omega)
    have kk := hK I (by rw [he]; exact hs)
    refine am_wq_T (cut := fun z pc => ((Nat.beq z 43 && Nat.beq pc 39) || ((Nat.beq z 43 && Nat.beq pc 77) || ((Nat.beq z 43 && Nat.beq pc 149) || (Nat.beq z 43 && Nat.beq pc 192))))) (inl := fun z => !(Nat.beq z 44)) 120 _ _ _ ?_
    exact And.intro rfl (And.intro rfl (And.intro (fun _ => kk) (fun z => absurd c1 z)))
  | succ j ih =>
    intro b I hb he hs
    have c1 : ¬ I 72 1 ≤ I 72 2 := by rw [scR_len hT hs, hs.2.2.1]; exact nI_ge (by omega) (by omega)
    have v1 : vp_in (I 72 2) 96 := by rw [hs.2.2.1]; exact vpl (by omega) (by decide)
    have eb : I 73 (I 72 2).toNatClampNeg = B b := by rw [hs.2.2.1]; exact scR_B hT hs (by omega)
    by_cases c : B b = 32
    · have c2 : ¬ ¬ I 73 (I 72 2).toNatClampNeg = 32 := fun z => z (eb.trans c)
      have kk := ih (b + 1) (am_up I 72 2 (I 72 2 + 1)) (by omega) (he.trans (skp_y (decide_eq_true c))) (scR_2 (by rw [hs.2.2.1, nI_1]) hs)
      refine am_wq_T (cut := fun z pc => ((Nat.beq z 43 && Nat.beq pc 39) || ((Nat.beq z 43 && Nat.beq pc 77) || ((Nat.beq z 43 && Nat.beq pc 149) || (Nat.beq z 43 && Nat.beq pc 192))))) (inl := fun z => !(Nat.beq z 44)) 120 _ _ _ ?_
      exact And.intro rfl (And.intro rfl (And.intro (fun z => absurd z c1) (fun _ => And.intro rfl (And.intro rfl (And.intro ⟨rfl, v1⟩ (And.intro (fun z => absurd z c2) (fun _ => And.intro rfl (And.intro rfl kk))))))))
    · have c2 : ¬ I 73 (I 72 2).toNatClampNeg = 32 := by rw [eb]; exact c
      have kk := hK I (by rw [he, skp_n (fun z => c (of_decide_eq_true z))]; exact hs)
      refine am_wq_T (cut := fun z pc => ((Nat.beq z 43 && Nat.beq pc 39) || ((Nat.beq z 43 && Nat.beq pc 77) || ((Nat.beq z 43 && Nat.beq pc 149) || (Nat.beq z 43 && Nat.beq pc 192))))) (inl := fun z => !(Nat.beq z 44)) 120 _ _ _ ?_
      exact And.intro rfl (And.intro rfl (And.intro (fun z => absurd z c1) (fun _ => And.intro rfl (And.intro rfl (And.intro ⟨rfl, v1⟩ (And.intro (fun _ => kk) (fun z => absurd c2 z)))))))
theorem c_wd {l1 l2 : Value} {b0 : Nat} (hT : tpB I0 B len) (hK : ∀ I', scR I0 I' a (skp (fun k => decide (srt (B k) = g)) (len - b0) b0) g → am_T am_C (43, 1, 192, [.ref 72, l1, l2], []) (am_mk kt I' J T n s) K) : ∀ (j b : Nat) (I : Nat → Nat → Int32), b + j = len → skp (fun k => decide (srt (B k) = g)) (len - b0) b0 = skp (fun k => decide (srt (B k) = g)) j b → scR I0 I a b g → am_T am_C (43, 1, 149, [.ref 72, l1, l2], []) (am_mk kt I J T n s) K := by
  have h96 := hT.1
  intro j
  induction j with
  | zero =>
    intro b I hb he hs
    have : b = len := by omega
    subst this
    have c1 : I 72 1 ≤ I 72 3 := by rw [scR_len hT hs, hs.2.2.2.1]; exact nI_le (Nat.le_refl _) (by omega)
    have kk := hK I (by rw [he]; exact hs)
    refine am_wq_T (cut := fun z pc => ((Nat.beq z 43 && Nat.beq pc 39) || ((Nat.beq z 43 && Nat.beq pc 77) || ((Nat.beq z 43 && Nat.beq pc 149) || (Nat.beq z 43 && Nat.beq pc 192))))) (inl := fun z => !(Nat.beq z 44)) 120 _ _ _ ?_
    exact And.intro rfl (And.intro rfl (And.intro (fun _ => kk) (fun z => absurd c1 z)))
  | succ j ih =>
    intro b I hb he hs
    have c1 : ¬ I 72 1 ≤ I 72 3 := by rw [scR_len hT hs, hs.2.2.2.1]; exact nI_ge (by omega) (by omega)
    have v1 : vp_in (I 72 3) 96 := by rw [hs.2.2.2.1]; exact vpl (by omega) (by decide)
    have eb : I 73 (I 72 3).toNatClampNeg = B b := by rw [hs.2.2.2.1]; exact scR_B hT hs (by omega)
    by_cases c : srt (B b) = g
    · have c2 : ¬ ¬ srt (B b) = I 72 4 := fun z => z (by rw [hs.2.2.2.2]; exact c)
      have kk := ih (b + 1) (am_up I 72 3 (I 72 3 + 1)) (by omega) (he.trans (skp_y (decide_eq_true c))) (scR_3 (by rw [hs.2.2.2.1, nI_1]) hs)
      refine am_wq_T (cut := fun z pc => ((Nat.beq z 43 && Nat.beq pc 39) || ((Nat.beq z 43 && Nat.beq pc 77) || ((Nat.beq z 43 && Nat.beq pc 149) || (Nat.beq z 43 && Nat.beq pc 192))))) (inl := fun z => !(Nat.beq z 44)) 120 _ _ _ ?_
      exact And.intro rfl (And.intro rfl (And.intro (fun z => absurd z c1) (fun _ => And.intro rfl (And.intro rfl (And.intro ⟨rfl, v1⟩ (c_sort (congrArg srt eb) (And.intro rfl (And.intro (fun z => absurd z c2) (fun _ => And.intro rfl (And.intro rfl kk))))))))))
    · have c2 : ¬ srt (B b) = I 72 4 := by rw [hs.2.2.2.2]; exact c
      have kk := hK I (by rw [he, skp_n (fun z => c (of_decide_eq_true z))]; exact hs)
      refine am_wq_T (cut := fun z pc => ((Nat.beq z 43 && Nat.beq pc 39) || ((Nat.beq z 43 && Nat.beq pc 77) || ((Nat.beq z 43 && Nat.beq pc 149) || (Nat.beq z 43 && Nat.beq pc 192))))) (inl := fun z => !(Nat.beq z 44)) 120 _ _ _ ?_
      exact And.intro rfl (And.intro rfl (And.intro (fun z => absurd z c1) (fun _ => And.intro rfl (And.intro rfl (And.intro ⟨rfl, v1⟩ (c_sort (congrArg srt eb) (And.intro rfl (And.intro (fun _ => kk) (fun z => absurd c2 z)))))))))
theorem tkn_end {w : Bool} (h : ¬ skp (fun k => decide (B k = 32)) (len - e) e < len) : tkn B len e w = (skp (fun k => decide (B k = 32)) (len - e) e, skp (fun k => decide (B k = 32)) (len - e) e, -1) := if_neg h
theorem tkn_sign {w : Bool} {x : Nat} (hx : skp (fun k => decide (B k = 32)) (len - e) e = x) (h : x < len) (h2 : ¬ (srt (B x) = 256 ∨ srt (B x) = 257)) : tkn B len e w = (x, x + 1, srt (B x)) := by
  unfold tkn
  rw [hx, if_pos h, if_neg h2]
theorem tkn_word {w : Bool} {x : Nat} (hx : skp (fun k => decide (B k = 32)) (len - e) e = x) (h : x < len) (h2 : srt (B x) = 256 ∨ srt (B x) = 257) : tkn B len e w = (x, skp (fun k => decide (srt (B k) = srt (B x))) (len - (x + 1)) (x + 1), if w = true ∧ x = e then 258 else srt (B x)) := by
  unfold tkn
  rw [hx, if_pos h, if_pos h2]
theorem c_step (hT : tpB I0 B len) (he : e ≤ len) (hs : scR I0 I a e g) (hK : ∀ I', scR I0 I' (tkn B len e (wd g)).1 (tkn B len e (wd g)).2.1 (tkn B len e (wd g)).2.2 → K none (am_mk kt I' J T n s)) : am_T am_C (43, 1, 0, [.ref 72, .null, .null], []) (am_mk kt I J T n s) K := by
  have h96 := hT.1
  have sk := skp_b (fun k => decide (B k = 32)) (len - e) e
  obtain ⟨x, hx⟩ : ∃ x, x = skp (fun k => decide (B k = 32)) (len - e) e := ⟨_, rfl⟩
  rw [← hx] at sk
  have main : ∀ (l1 : Int32), (l1 = 0 ↔ wd g = false) → am_T am_C (43, 1, 39, [.ref 72, .int l1, .int (nI e)], []) (am_mk kt (am_up I 72 2 (nI e)) J T n s) K := fun l1 hl => by
    refine c_sp (e := e) (g := g) (I0 := I0) hT (fun I1 hs1 => ?_) (len - e) e (am_up I 72 2 (nI e)) (by omega) rfl (scR_2 rfl hs)
    rw [← hx] at hs1
    by_cases c : x < len
    · have c1 : nI x < nI len := nI_lt c (by omega)
      have c1' : am_up I1 72 3 (I1 72 2) 72 2 < am_up I1 72 3 (I1 72 2) 72 1 := by rw [up_ne (by omega), up_ne (by omega), hs1.2.2.1, scR_len hT hs1]; exact c1
      have s2 : scR I0 (am_up I1 72 3 (I1 72 2)) x x g := scR_3 hs1.2.2.1 hs1
      obtain ⟨I2, e2⟩ : ∃ I2, I2 = am_up I1 72 3 (I1 72 2) := ⟨_, rfl⟩
      have v2 : vp_in (I2 72 2) 96 := by rw [e2, s2.2.2.1]; exact vpl (by omega) (by decide)
      have eb : I2 73 (I2 72 2).toNatClampNeg = B x := by rw [e2, s2.2.2.1]; exact scR_B hT s2 c
      rw [← e2] at s2 c1'
      have s3 : scR I0 (am_up (am_up I2 72 4 (srt (B x))) 72 3 (am_up I2 72 4 (srt (B x)) 72 2 + 1)) x (x + 1) (srt (B x)) := scR_3 (by rw [up_ne (by omega), s2.2.2.1, nI_1]) (scR_4 s2)
      by_cases d : srt (B x) = 256 ∨ srt (B x) = 257
      · have fin : am_T am_C (43, 1, 149, [.ref 72, .int l1, .int (nI e)], []) (am_mk kt (am_up (am_up I2 72 4 (srt (B x))) 72 3 (am_up I2 72 4 (srt (B x)) 72 2 + 1)) J T n s) K := by
          refine c_wd (b0 := x + 1) hT (fun I4 s4 => ?_) (len - (x + 1)) (x + 1) _ (by omega) rfl s3
          have kk := fun I' => hK I'
          rw [tkn_word (w := wd g) hx.symm c d] at kk
          by_cases u : wd g = true
          · have l0 : ¬ l1 = 0 := fun z => by rw [hl.mp z] at u; exact absurd u (by decide)
            by_cases y : x = e
            · have y2 : ¬ ¬ I4 72 2 = nI e := fun z => z (by rw [s4.2.2.1, y])
              have k4 := kk (am_up I4 72 4 258) (by
                show scR I0 _ x _ (if wd g = true ∧ x = e then 258 else srt (B x))
                rw [if_pos ⟨u, y⟩]; exact scR_4 s4)
              refine am_wq_T (cut := fun z pc => ((Nat.beq z 43 && Nat.beq pc 39) || ((Nat.beq z 43 && Nat.beq pc 77) || ((Nat.beq z 43 && Nat.beq pc 149) || (Nat.beq z 43 && Nat.beq pc 192))))) (inl := fun z => !(Nat.beq z 44)) 120 _ _ _ ?_
              exact And.intro (fun z => absurd z l0) (fun _ => And.intro rfl (And.intro (fun z => absurd z y2) (fun _ => And.intro rfl k4)))
            · have y2 : ¬ I4 72 2 = nI e := fun z => y (by rw [s4.2.2.1] at z; exact (nI_eq (by omega) (by omega)).mp z)
              have k4 := kk I4 (by
                show scR I0 _ x _ (if wd g = true ∧ x = e then 258 else srt (B x))
                rw [if_neg (fun z => y z.2)]; exact s4)
              refine am_wq_T (cut := fun z pc => ((Nat.beq z 43 && Nat.beq pc 39) || ((Nat.beq z 43 && Nat.beq pc 77) || ((Nat.beq z 43 && Nat.beq pc 149) || (Nat.beq z 43 && Nat.beq pc 192))))) (inl := fun z => !(Nat.beq z 44)) 120 _ _ _ ?_
              exact And.intro (fun z => absurd z l0) (fun _ => And.intro rfl (And.intro (fun _ => k4) (fun z => absurd y2 z)))
          · have l0 : l1 = 0 := hl.mpr (by cases q : wd g with | true => exact absurd q u | false => rfl)
            have k4 := kk I4 (by
              show scR I0 _ x _ (if wd g = true ∧ x = e then 258 else srt (B x))
              rw [if_neg (fun z => u z.1)]; exact s4)
            refine am_wq_T (cut := fun z pc => ((Nat.beq z 43 && Nat.beq pc 39) || ((Nat.beq z 43 && Nat.beq pc 77) || ((Nat.beq z 43 && Nat.beq pc 149) || (Nat.beq z 43 && Nat.beq pc 192))))) (inl := fun z => !(Nat.beq z 44)) 120 _ _ _ ?_
            exact And.intro (fun _ => k4) (fun z => absurd l0 z)
        have g4 : am_up (am_up I2 72 4 (srt (B x))) 72 3 (am_up I2 72 4 (srt (B x)) 72 2 + 1) 72 4 = srt (B x) := s3.2.2.2.2
        rw [e2] at v2 eb
        refine am_wq_T (cut := fun z pc => ((Nat.beq z 43 && Nat.beq pc 39) || ((Nat.beq z 43 && Nat.beq pc 77) || ((Nat.beq z 43 && Nat.beq pc 149) || (Nat.beq z 43 && Nat.beq pc 192))))) (inl := fun z => !(Nat.beq z 44)) 120 _ _ _ ?_
        refine And.intro rfl (And.intro rfl (And.intro rfl (And.intro rfl (And.intro (fun _ => ?_) (fun z => absurd (by rw [e2] at c1'; exact c1') z)))))
        refine And.intro rfl (And.intro rfl (And.intro ⟨rfl, v2⟩ (c_sort (congrArg srt eb) (And.intro rfl (And.intro rfl (And.intro rfl (And.intro rfl ?_)))))))
        rw [e2] at g4 fin
        refine And.intro (fun _ => fin) (fun z => And.intro rfl (And.intro (fun _ => fin) (fun y => ?_)))
        exact absurd d (fun u => u.elim (fun u => z (g4.trans u)) (fun u => y (g4.trans u)))
      · have g4 : am_up (am_up I2 72 4 (srt (B x))) 72 3 (am_up I2 72 4 (srt (B x)) 72 2 + 1) 72 4 = srt (B x) := s3.2.2.2.2
        have k4 := hK (am_up (am_up I2 72 4 (srt (B x))) 72 3 (am_up I2 72 4 (srt (B x)) 72 2 + 1)) (by rw [tkn_sign (w := wd g) hx.symm c d]; exact s3)
        rw [e2] at v2 eb g4 k4
        refine am_wq_T (cut := fun z pc => ((Nat.beq z 43 && Nat.beq pc 39) || ((Nat.beq z 43 && Nat.beq pc 77) || ((Nat.beq z 43 && Nat.beq pc 149) || (Nat.beq z 43 && Nat.beq pc 192))))) (inl := fun z => !(Nat.beq z 44)) 120 _ _ _ ?_
        refine And.intro rfl (And.intro rfl (And.intro rfl (And.intro rfl (And.intro (fun _ => ?_) (fun z => absurd (by rw [e2] at c1'; exact c1') z)))))
        refine And.intro rfl (And.intro rfl (And.intro ⟨rfl, v2⟩ (c_sort (congrArg srt eb) (And.intro rfl (And.intro rfl (And.intro rfl (And.intro rfl ?_)))))))
        refine And.intro (fun z => absurd (.inl (g4.symm.trans z)) d) (fun z => And.intro rfl (And.intro (fun y => absurd (.inr (g4.symm.trans y)) d) (fun y => k4)))
    · have c1 : ¬ am_up I1 72 3 (I1 72 2) 72 2 < am_up I1 72 3 (I1 72 2) 72 1 := by rw [up_ne (by omega), up_ne (by omega), hs1.2.2.1, scR_len hT hs1]; exact nI_nlt (by omega) (by omega)
      have k4 := hK (am_up (am_up I1 72 3 (I1 72 2)) 72 4 (-1)) (by
        rw [tkn_end (w := wd g) (by rw [← hx]; exact c), ← hx]
        exact scR_4 (scR_3 hs1.2.2.1 hs1))
      refine am_wq_T (cut := fun z pc => ((Nat.beq z 43 && Nat.beq pc 39) || ((Nat.beq z 43 && Nat.beq pc 77) || ((Nat.beq z 43 && Nat.beq pc 149) || (Nat.beq z 43 && Nat.beq pc 192))))) (inl := fun z => !(Nat.beq z 44)) 120 _ _ _ ?_
      exact And.intro rfl (And.intro rfl (And.intro rfl (And.intro rfl (And.intro (fun z => absurd z c1) (fun _ => And.intro rfl k4)))))
  have e3 : I 72 3 = nI e := hs.2.2.2.1
  rw [← e3] at main
  by_cases c6 : g = 256
  · have d6 : I 72 4 = 256 := hs.2.2.2.2.trans c6
    have kk := main 1 ⟨fun z => absurd z (by decide), fun z => by unfold wd at z; rw [decide_eq_true (.inl c6)] at z; exact absurd z (by decide)⟩
    refine am_wq_T (cut := fun z pc => (Nat.beq z 43 && Nat.beq pc 39)) (inl := fun _ => false) 120 _ _ _ ?_
    exact And.intro rfl (And.intro (fun _ => And.intro rfl (And.intro rfl (And.intro rfl kk))) (fun z => absurd d6 z))
  · have d6 : ¬ I 72 4 = 256 := by rw [hs.2.2.2.2]; exact c6
    by_cases c7 : g = 257
    · have d7 : ¬ ¬ I 72 4 = 257 := fun z => z (hs.2.2.2.2.trans c7)
      have kk := main 1 ⟨fun z => absurd z (by decide), fun z => by unfold wd at z; rw [decide_eq_true (.inr c7)] at z; exact absurd z (by decide)⟩
      refine am_wq_T (cut := fun z pc => (Nat.beq z 43 && Nat.beq pc 39)) (inl := fun _ => false) 120 _ _ _ ?_
      exact And.intro rfl (And.intro (fun z => absurd z d6) (fun _ => And.intro rfl (And.intro (fun z => absurd z d7) (fun _ => And.intro rfl (And.intro rfl (And.intro rfl kk))))))
    · have d7 : ¬ I 72 4 = 257 := by rw [hs.2.2.2.2]; exact c7
      have kk := main 0 ⟨fun _ => decide_eq_false (fun u => u.elim c6 c7), fun _ => rfl⟩
      refine am_wq_T (cut := fun z pc => (Nat.beq z 43 && Nat.beq pc 39)) (inl := fun _ => false) 120 _ _ _ ?_
      exact And.intro rfl (And.intro (fun z => absurd z d6) (fun _ => And.intro rfl (And.intro (fun _ => And.intro rfl (And.intro rfl (And.intro rfl kk))) (fun z => absurd d7 z))))
end T86
