/-! a land becomes as another one: the rest -/
section T60
variable {kt : Nat → Nat × Nat} {I I' : Nat → Nat → Int32} {J J' : Nat → Nat → Int64} {T T' : Nat → Nat → Nat} {n s : Nat} {L : Nat} {xs : Nat → Int32} {K : Option Value → am_M → Prop} {N N' : Nat → Int32} {hc wc tc h w : Nat}
def bJ1 (I : Nat → Nat → Int32) (b c : Nat) : Nat → Nat → Int32 := am_up I b 1 (I c 1)
def bJ2 (I : Nat → Nat → Int32) (b c : Nat) : Nat → Nat → Int32 := am_row (bJ1 I b c) (b + 2) (va_cpy (bJ1 I b c (c + 2)) (bJ1 I b c (b + 2)) 0 0 6)
def bJ3 (I : Nat → Nat → Int32) (b c : Nat) : Nat → Nat → Int32 := am_row (bJ2 I b c) (b + 3) (va_cpy (bJ2 I b c (c + 3)) (bJ2 I b c (b + 3)) 0 0 6)
def bJ4 (I : Nat → Nat → Int32) (b c : Nat) : Nat → Nat → Int32 := am_up (bJ3 I b c) b 4 (bJ3 I b c c 4)
def bJ5 (I : Nat → Nat → Int32) (b c : Nat) : Nat → Nat → Int32 := am_up I b 6 (I c 6)
def bJ6 (I : Nat → Nat → Int32) (b c : Nat) : Nat → Nat → Int32 := am_row (bJ5 I b c) (b + 5) (va_cpy (bJ5 I b c (c + 5)) (bJ5 I b c (b + 5)) 0 0 3)
def bUp (I : Nat → Nat → Int32) (b c k : Nat) : Nat → Nat → Int32 := am_up I b k (I c k)
def bJ7 (I : Nat → Nat → Int32) (b c : Nat) : Nat → Nat → Int32 := bUp (bUp (bUp (bUp (bUp (bUp (bJ6 I b c) b c 8) b c 9) b c 10) b c 11) b c 12) b c 13
theorem bUp_c {b c k j : Nat} (h : c ≠ b) : bUp I b c k c j = I c j := by unfold bUp; rw [up_off h]
theorem bUp_b {b c k : Nat} : bUp I b c k b k = I c k := by unfold bUp; rw [up_eq]
theorem bUp_n {b c k j : Nat} (h : j ≠ k) : bUp I b c k b j = I b j := by unfold bUp; rw [up_ne (by omega)]
theorem bUp_o {b c k r : Nat} (h : r ≠ b) : bUp I b c k r = I r := by unfold bUp; rw [up_off h]
theorem cpy_lt {f g : Nat → Int32} {m k : Nat} (h : k < m) : va_cpy f g 0 0 m k = f k := by
  unfold va_cpy
  rw [if_pos (by omega), Nat.zero_add, Nat.sub_zero]
/-- what the two straight pieces leave -/
theorem bJ4_f {b c : Nat} (hbc : b + 16 ≤ c ∨ c + 16 ≤ b) : (∀ r, r ≠ b → r ≠ b + 2 → r ≠ b + 3 → bJ4 I b c r = I r) ∧ bJ4 I b c b 1 = I c 1 ∧ bJ4 I b c b 4 = I c 4 ∧ (∀ w, w < 6 → bJ4 I b c (b + 2) w = I (c + 2) w) ∧ (∀ w, w < 6 → bJ4 I b c (b + 3) w = I (c + 3) w) ∧ (∀ k, k ≠ 1 → k ≠ 4 → bJ4 I b c b k = I b k) := by
  refine ⟨fun r h1 h2 h3 => ?_, ?_, ?_, fun w hw => ?_, fun w hw => ?_, fun k h1 h4 => ?_⟩
  · unfold bJ4 bJ3 bJ2 bJ1; rw [up_off h1, row_off h3, row_off h2, up_off h1]
  · unfold bJ4; rw [up_ne (by omega)]; unfold bJ3; rw [row_off (by omega)]; unfold bJ2; rw [row_off (by omega)]; unfold bJ1; rw [up_eq]
  · unfold bJ4; rw [up_eq]; unfold bJ3; rw [row_off (by omega)]; unfold bJ2; rw [row_off (by omega)]; unfold bJ1; rw [up_off (by omega)]
  · unfold bJ4; rw [up_off (by omega)]; unfold bJ3; rw [row_off (by omega)]; unfold bJ2; rw [row_eq, cpy_lt hw]; unfold bJ1; rw [up_off (by omega)]
  · unfold bJ4; rw [up_off (by omega)]; unfold bJ3; rw [row_eq, cpy_lt hw]; unfold bJ2; rw [row_off (by omega)]; unfold bJ1; rw [up_off (by omega)]
  · unfold bJ4; rw [up_ne (by omega)]; unfold bJ3; rw [row_off (by omega)]; unfold bJ2; rw [row_off (by omega)]; unfold bJ1; rw [up_ne (by omega)]
theorem bJ6_f {b c : Nat} (hbc : b + 16 ≤ c ∨ c + 16 ≤ b) : (∀ r, r ≠ b → r ≠ b + 5 → bJ6 I b c r = I r) ∧ bJ6 I b c b 6 = I c 6 ∧ (∀ k, k < 3 → bJ6 I b c (b + 5) k = I (c + 5) k) ∧ (∀ k, k ≠ 6 → bJ6 I b c b k = I b k) := by
  refine ⟨fun r h1 h2 => ?_, ?_, fun k hk => ?_, fun k hk => ?_⟩
  · unfold bJ6 bJ5; rw [row_off h2, up_off h1]
  · unfold bJ6; rw [row_off (by omega)]; unfold bJ5; rw [up_eq]
  · unfold bJ6; rw [row_eq, cpy_lt hk]; unfold bJ5; rw [up_off (by omega)]
  · unfold bJ6; rw [row_off (by omega)]; unfold bJ5; rw [up_ne (by omega)]
theorem bJ7_f {b c : Nat} (hbc : b + 16 ≤ c ∨ c + 16 ≤ b) : (∀ r, r ≠ b → r ≠ b + 5 → bJ7 I b c r = I r) ∧ bJ7 I b c b 6 = I c 6 ∧ (∀ k, k < 3 → bJ7 I b c (b + 5) k = I (c + 5) k) ∧ bJ7 I b c b 1 = I b 1 ∧ bJ7 I b c b 4 = I b 4 ∧ bJ7 I b c b 8 = I c 8 ∧ bJ7 I b c b 9 = I c 9 ∧ bJ7 I b c b 10 = I c 10 ∧ bJ7 I b c b 11 = I c 11 ∧ bJ7 I b c b 12 = I c 12 ∧ bJ7 I b c b 13 = I c 13 := by
  have cb : c ≠ b := by omega
  obtain ⟨f1, f2, f3, f4⟩ := bJ6_f (I := I) hbc
  have fc : ∀ k, bJ6 I b c c k = I c k := fun k => by rw [f1 c cb (by omega)]
  unfold bJ7
  refine ⟨fun r h1 h2 => ?_, ?_, fun k hk => ?_, ?_, ?_, ?_, ?_, ?_, ?_, ?_, ?_⟩
  · rw [bUp_o h1, bUp_o h1, bUp_o h1, bUp_o h1, bUp_o h1, bUp_o h1]; exact f1 r h1 h2
  · rw [bUp_n (by decide), bUp_n (by decide), bUp_n (by decide), bUp_n (by decide), bUp_n (by decide), bUp_n (by decide)]; exact f2
  · rw [bUp_o (by omega), bUp_o (by omega), bUp_o (by omega), bUp_o (by omega), bUp_o (by omega), bUp_o (by omega)]; exact f3 k hk
  · rw [bUp_n (by decide), bUp_n (by decide), bUp_n (by decide), bUp_n (by decide), bUp_n (by decide), bUp_n (by decide)]; exact f4 1 (by decide)
  · rw [bUp_n (by decide), bUp_n (by decide), bUp_n (by decide), bUp_n (by decide), bUp_n (by decide), bUp_n (by decide)]; exact f4 4 (by decide)
  · rw [bUp_n (by decide), bUp_n (by decide), bUp_n (by decide), bUp_n (by decide), bUp_n (by decide), bUp_b]; exact fc 8
  · rw [bUp_n (by decide), bUp_n (by decide), bUp_n (by decide), bUp_n (by decide), bUp_b, bUp_c cb]; exact fc 9
  · rw [bUp_n (by decide), bUp_n (by decide), bUp_n (by decide), bUp_b, bUp_c cb, bUp_c cb]; exact fc 10
  · rw [bUp_n (by decide), bUp_n (by decide), bUp_b, bUp_c cb, bUp_c cb, bUp_c cb]; exact fc 11
  · rw [bUp_n (by decide), bUp_b, bUp_c cb, bUp_c cb, bUp_c cb, bUp_c cb]; exact fc 12
  · rw [bUp_b, bUp_c cb, bUp_c cb, bUp_c cb, bUp_c cb, bUp_c cb]; exact fc 13
/-- the land is as the other one -/
theorem bec_LR {b c : Nat} {I0 I1 : Nat → Nat → Int32} {T0 T' : Nat → Nat → Nat} (hbc : b + 16 ≤ c ∨ c + 16 ≤ b) (hb : b < 100) (hR : sg_LR kt I0 T0 n c N hc wc tc) (hI : ch (fun r => b ≤ r ∧ r < b + 16) I0 I1) (hx : ∀ x k, x < hc → k < 5 → I1 (b + 6 + x) k = I0 (c + 6 + x) k) (hT : chT (fun r => r = b + 4) T0 T') (ht : ∀ x, x < tc → T' (b + 4) x = T0 (c + 4) x) : ch (fun r => b ≤ r ∧ r < b + 16) I0 (bJ7 (bJ4 I1 b c) b c) ∧ sg_LR kt (bJ7 (bJ4 I1 b c) b c) T' n b N hc wc tc := by
  obtain ⟨f1, f2, f3, f4, f5, f6⟩ := bJ4_f (I := I1) hbc
  obtain ⟨g1, g2, g3, g4, g5, g6, g7, g8, g9, g10, g11⟩ := bJ7_f (I := bJ4 I1 b c) hbc
  have cI : ∀ r k, c ≤ r → r < c + 16 → bJ4 I1 b c r k = I0 r k := fun r k h1 h2 => by rw [f1 r (by omega) (by omega) (by omega), hI r (by omega)]
  have c0 : ∀ k, bJ4 I1 b c c k = I0 c k := fun k => cI c k (by omega) (by omega)
  have cI1 : ∀ r k, c ≤ r → r < c + 16 → I1 r k = I0 r k := fun r k h1 h2 => by rw [hI r (by omega)]
  obtain ⟨h0, h1, h2, h3, h4, h5, h6, h7, h8, h9, h10, h11, h12, h13, h14, h15, h16, h17, h18⟩ := hR
  refine ⟨fun r hr => by rw [g1 r (by omega) (by omega), f1 r (by omega) (by omega) (by omega)]; exact hI r hr, h0, h1, h2, h3, h4, h5, ?_, ?_, ?_, ?_, ?_, ?_, ?_, ?_, ?_, ?_, ?_, ?_, ?_⟩
  · rw [g4, f2, cI1 c 1 (by omega) (by omega)]; exact h6
  · rw [g5, f3, cI1 c 4 (by omega) (by omega)]; exact h7
  · rw [g2, c0]; exact h8
  · intro x hxh k hk
    rw [g1 _ (by omega) (by omega), f1 _ (by omega) (by omega) (by omega), hx x k hxh hk]
    exact h9 x hxh k hk
  · intro w hw
    rw [g1 _ (by omega) (by omega), g1 _ (by omega) (by omega), f4 w (by omega), f5 w (by omega), cI1 _ _ (by omega) (by omega), cI1 _ _ (by omega) (by omega)]
    exact h10 w hw
  · rw [g6, c0]; exact h11
  · rw [g7, c0]; exact h12
  · rw [g8, c0]; exact h13
  · rw [g9, c0]; exact h14
  · rw [g10, c0]; exact h15
  · rw [g11, c0]; exact h16
  · intro t htc
    rw [ht t htc]
    have q := Txt_T (T' := T') (fun r k hr => by rw [hT r (by omega)]) (h17 t htc)
    exact Txt_cg (fun r k h1 _ => by rw [g1 r (by omega) (by omega), f1 r (by omega) (by omega) (by omega), hI r (by omega)]) ⟨rfl, rfl, fun _ _ => rfl⟩ q
  · intro key hk
    rw [g3 key hk, cI _ _ (by omega) (by omega)]
    exact h18 key hk
theorem ac6 : ¬ (0 : Int32) < 0 ∧ ¬ (6 : Int32) < 0 ∧ ¬ (3 : Int32) < 0 := by decide
theorem c_become37_21 (hR : sg_LR kt I T n 21 N hc wc tc) (hK : ∀ I' T', ch (fun r => 37 ≤ r ∧ r < 37 + 16) I I' → chT (fun r => r = 41) T T' → sg_LR kt I' T' n 37 N hc wc tc → K none (am_mk kt I' J T' n s)) : am_T am_C (14, 2, 0, [.ref 37, .ref 21, .null], []) (am_mk kt I J T n s) K := by
  have h10 := hR.1
  have key := c_becH37_21 (kt := kt) (J := J) (T := T) (n := n) (s := s) (K := K) hR.2.2.2.2.2.2.1 h10 hc 0 I (by omega) ch_rfl (fun _ _ q => absurd q (by omega)) (fun _ _ _ => rfl) fun I1 a b d => by
    have fb := bJ4_f (I := I1) (b := 37) (c := 21) (by decide)
    have k2 := c_becT37_21 (kt := kt) (J := J) (n := n) (s := s) (K := K) (I := bJ4 I1 37 21) hR (by rw [fb.1 21 (by decide) (by decide) (by decide), a 21 (by decide)]; exact hR.2.2.2.2.2.2.2.2.1) (fun r k hr => by rw [fb.1 r (by omega) (by omega) (by omega), a r (by omega)]) tc 0 T (by omega) (fun _ _ => rfl) (fun _ q => absurd q (by omega)) fun T' e f => by
      obtain ⟨l1, l2⟩ := bec_LR (b := 37) (c := 21) (by decide) (by decide) hR a b e f
      have k3 := hK _ T' l1 e l2
      refine am_wq_T (cut := fun _ _ => false) (inl := fun _ => true) 120 _ _ _ ?_
      refine And.intro rfl (And.intro rfl (And.intro rfl (And.intro rfl (And.intro ⟨rfl, rfl, ac6.1, ac6.1, ac6.2.2, Nat.le_of_ble_eq_true rfl, Nat.le_of_ble_eq_true rfl⟩ ?_))))
      exact And.intro rfl (And.intro rfl (And.intro rfl (And.intro rfl (And.intro rfl (And.intro rfl (And.intro rfl (And.intro rfl (And.intro rfl (And.intro rfl (And.intro rfl (And.intro rfl k3)))))))))))
    refine am_wq_T (cut := fun z pc => (Nat.beq z 14 && Nat.beq pc 79)) (inl := fun _ => false) 120 _ _ _ ?_
    refine And.intro rfl (And.intro rfl (And.intro rfl (And.intro rfl (And.intro ⟨rfl, rfl, ac6.1, ac6.1, ac6.2.1, Nat.le_of_ble_eq_true rfl, Nat.le_of_ble_eq_true rfl⟩ ?_))))
    refine And.intro rfl (And.intro rfl (And.intro ⟨rfl, rfl, ac6.1, ac6.1, ac6.2.1, Nat.le_of_ble_eq_true rfl, Nat.le_of_ble_eq_true rfl⟩ ?_))
    exact And.intro rfl (And.intro rfl k2)
  refine am_wq_T (cut := fun z pc => (Nat.beq z 14 && Nat.beq pc 2)) (inl := fun _ => false) 120 _ _ _ ?_
  exact key
theorem c_become37_53 (hR : sg_LR kt I T n 53 N hc wc tc) (hK : ∀ I' T', ch (fun r => 37 ≤ r ∧ r < 37 + 16) I I' → chT (fun r => r = 41) T T' → sg_LR kt I' T' n 37 N hc wc tc → K none (am_mk kt I' J T' n s)) : am_T am_C (14, 2, 0, [.ref 37, .ref 53, .null], []) (am_mk kt I J T n s) K := by
  have h10 := hR.1
  have key := c_becH37_53 (kt := kt) (J := J) (T := T) (n := n) (s := s) (K := K) hR.2.2.2.2.2.2.1 h10 hc 0 I (by omega) ch_rfl (fun _ _ q => absurd q (by omega)) (fun _ _ _ => rfl) fun I1 a b d => by
    have fb := bJ4_f (I := I1) (b := 37) (c := 53) (by decide)
    have k2 := c_becT37_53 (kt := kt) (J := J) (n := n) (s := s) (K := K) (I := bJ4 I1 37 53) hR (by rw [fb.1 53 (by decide) (by decide) (by decide), a 53 (by decide)]; exact hR.2.2.2.2.2.2.2.2.1) (fun r k hr => by rw [fb.1 r (by omega) (by omega) (by omega), a r (by omega)]) tc 0 T (by omega) (fun _ _ => rfl) (fun _ q => absurd q (by omega)) fun T' e f => by
      obtain ⟨l1, l2⟩ := bec_LR (b := 37) (c := 53) (by decide) (by decide) hR a b e f
      have k3 := hK _ T' l1 e l2
      refine am_wq_T (cut := fun _ _ => false) (inl := fun _ => true) 120 _ _ _ ?_
      refine And.intro rfl (And.intro rfl (And.intro rfl (And.intro rfl (And.intro ⟨rfl, rfl, ac6.1, ac6.1, ac6.2.2, Nat.le_of_ble_eq_true rfl, Nat.le_of_ble_eq_true rfl⟩ ?_))))
      exact And.intro rfl (And.intro rfl (And.intro rfl (And.intro rfl (And.intro rfl (And.intro rfl (And.intro rfl (And.intro rfl (And.intro rfl (And.intro rfl (And.intro rfl (And.intro rfl k3)))))))))))
    refine am_wq_T (cut := fun z pc => (Nat.beq z 14 && Nat.beq pc 79)) (inl := fun _ => false) 120 _ _ _ ?_
    refine And.intro rfl (And.intro rfl (And.intro rfl (And.intro rfl (And.intro ⟨rfl, rfl, ac6.1, ac6.1, ac6.2.1, Nat.le_of_ble_eq_true rfl, Nat.le_of_ble_eq_true rfl⟩ ?_))))
    refine And.intro rfl (And.intro rfl (And.intro ⟨rfl, rfl, ac6.1, ac6.1, ac6.2.1, Nat.le_of_ble_eq_true rfl, Nat.le_of_ble_eq_true rfl⟩ ?_))
    exact And.intro rfl (And.intro rfl k2)
  refine am_wq_T (cut := fun z pc => (Nat.beq z 14 && Nat.beq pc 2)) (inl := fun _ => false) 120 _ _ _ ?_
  exact key
theorem c_become53_21 (hR : sg_LR kt I T n 21 N hc wc tc) (hK : ∀ I' T', ch (fun r => 53 ≤ r ∧ r < 53 + 16) I I' → chT (fun r => r = 57) T T' → sg_LR kt I' T' n 53 N hc wc tc → K none (am_mk kt I' J T' n s)) : am_T am_C (14, 2, 0, [.ref 53, .ref 21, .null], []) (am_mk kt I J T n s) K := by
  have h10 := hR.1
  have key := c_becH53_21 (kt := kt) (J := J) (T := T) (n := n) (s := s) (K := K) hR.2.2.2.2.2.2.1 h10 hc 0 I (by omega) ch_rfl (fun _ _ q => absurd q (by omega)) (fun _ _ _ => rfl) fun I1 a b d => by
    have fb := bJ4_f (I := I1) (b := 53) (c := 21) (by decide)
    have k2 := c_becT53_21 (kt := kt) (J := J) (n := n) (s := s) (K := K) (I := bJ4 I1 53 21) hR (by rw [fb.1 21 (by decide) (by decide) (by decide), a 21 (by decide)]; exact hR.2.2.2.2.2.2.2.2.1) (fun r k hr => by rw [fb.1 r (by omega) (by omega) (by omega), a r (by omega)]) tc 0 T (by omega) (fun _ _ => rfl) (fun _ q => absurd q (by omega)) fun T' e f => by
      obtain ⟨l1, l2⟩ := bec_LR (b := 53) (c := 21) (by decide) (by decide) hR a b e f
      have k3 := hK _ T' l1 e l2
      refine am_wq_T (cut := fun _ _ => false) (inl := fun _ => true) 120 _ _ _ ?_
      refine And.intro rfl (And.intro rfl (And.intro rfl (And.intro rfl (And.intro ⟨rfl, rfl, ac6.1, ac6.1, ac6.2.2, Nat.le_of_ble_eq_true rfl, Nat.le_of_ble_eq_true rfl⟩ ?_))))
      exact And.intro rfl (And.intro rfl (And.intro rfl (And.intro rfl (And.intro rfl (And.intro rfl (And.intro rfl (And.intro rfl (And.intro rfl (And.intro rfl (And.intro rfl (And.intro rfl k3)))))))))))
    refine am_wq_T (cut := fun z pc => (Nat.beq z 14 && Nat.beq pc 79)) (inl := fun _ => false) 120 _ _ _ ?_
    refine And.intro rfl (And.intro rfl (And.intro rfl (And.intro rfl (And.intro ⟨rfl, rfl, ac6.1, ac6.1, ac6.2.1, Nat.le_of_ble_eq_true rfl, Nat.le_of_ble_eq_true rfl⟩ ?_))))
    refine And.intro rfl (And.intro rfl (And.intro ⟨rfl, rfl, ac6.1, ac6.1, ac6.2.1, Nat.le_of_ble_eq_true rfl, Nat.le_of_ble_eq_true rfl⟩ ?_))
    exact And.intro rfl (And.intro rfl k2)
  refine am_wq_T (cut := fun z pc => (Nat.beq z 14 && Nat.beq pc 2)) (inl := fun _ => false) 120 _ _ _ ?_
  exact key
theorem c_become21_53 (hR : sg_LR kt I T n 53 N hc wc tc) (hK : ∀ I' T', ch (fun r => 21 ≤ r ∧ r < 21 + 16) I I' → chT (fun r => r = 25) T T' → sg_LR kt I' T' n 21 N hc wc tc → K none (am_mk kt I' J T' n s)) : am_T am_C (14, 2, 0, [.ref 21, .ref 53, .null], []) (am_mk kt I J T n s) K := by
  have h10 := hR.1
  have key := c_becH21_53 (kt := kt) (J := J) (T := T) (n := n) (s := s) (K := K) hR.2.2.2.2.2.2.1 h10 hc 0 I (by omega) ch_rfl (fun _ _ q => absurd q (by omega)) (fun _ _ _ => rfl) fun I1 a b d => by
    have fb := bJ4_f (I := I1) (b := 21) (c := 53) (by decide)
    have k2 := c_becT21_53 (kt := kt) (J := J) (n := n) (s := s) (K := K) (I := bJ4 I1 21 53) hR (by rw [fb.1 53 (by decide) (by decide) (by decide), a 53 (by decide)]; exact hR.2.2.2.2.2.2.2.2.1) (fun r k hr => by rw [fb.1 r (by omega) (by omega) (by omega), a r (by omega)]) tc 0 T (by omega) (fun _ _ => rfl) (fun _ q => absurd q (by omega)) fun T' e f => by
      obtain ⟨l1, l2⟩ := bec_LR (b := 21) (c := 53) (by decide) (by decide) hR a b e f
      have k3 := hK _ T' l1 e l2
      refine am_wq_T (cut := fun _ _ => false) (inl := fun _ => true) 120 _ _ _ ?_
      refine And.intro rfl (And.intro rfl (And.intro rfl (And.intro rfl (And.intro ⟨rfl, rfl, ac6.1, ac6.1, ac6.2.2, Nat.le_of_ble_eq_true rfl, Nat.le_of_ble_eq_true rfl⟩ ?_))))
      exact And.intro rfl (And.intro rfl (And.intro rfl (And.intro rfl (And.intro rfl (And.intro rfl (And.intro rfl (And.intro rfl (And.intro rfl (And.intro rfl (And.intro rfl (And.intro rfl k3)))))))))))
    refine am_wq_T (cut := fun z pc => (Nat.beq z 14 && Nat.beq pc 79)) (inl := fun _ => false) 120 _ _ _ ?_
    refine And.intro rfl (And.intro rfl (And.intro rfl (And.intro rfl (And.intro ⟨rfl, rfl, ac6.1, ac6.1, ac6.2.1, Nat.le_of_ble_eq_true rfl, Nat.le_of_ble_eq_true rfl⟩ ?_))))
    refine And.intro rfl (And.intro rfl (And.intro ⟨rfl, rfl, ac6.1, ac6.1, ac6.2.1, Nat.le_of_ble_eq_true rfl, Nat.le_of_ble_eq_true rfl⟩ ?_))
    exact And.intro rfl (And.intro rfl k2)
  refine am_wq_T (cut := fun z pc => (Nat.beq z 14 && Nat.beq pc 2)) (inl := fun _ => false) 120 _ _ _ ?_
  exact key
end T60
