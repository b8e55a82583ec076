section AM14A
def am_nop : am_Op := fun _ _ => am_no
theorem mo_nop : am_mo am_nop := fun _ _ => trivial
theorem ok_nop {tb : am_Tb} {cc : ByteArray} {own : String} {mL : Nat} {rt : Option FieldType} {ini : Bool} {pc : Nat} : am_ok tb cc own mL rt ini pc am_nop := fun _ _ _ _ _ => trivial
def am_allR (P : Nat → am_Op → Prop) : Nat → List am_Op → Prop
  | _, [] => True
  | b, o :: r => P b o ∧ am_allR P (b + 1) r
def am_all (P : Nat → am_Op → Prop) : Nat → List (List am_Op) → Prop
  | _, [] => True
  | b, row :: t => am_allR P b row ∧ am_all P (b + 16) t
theorem am_allR_nth {P : Nat → am_Op → Prop} (h0 : ∀ pc, P pc am_nop) : ∀ (r : List am_Op) (b i : Nat), am_allR P b r → P (b + i) (am_nth am_nop r i)
  | [], _, _, _ => h0 _
  | _ :: _, _, 0, h => h.1
  | _ :: r, b, i + 1, h => by
    have := am_allR_nth h0 r (b + 1) i h.2
    rw [show b + 1 + i = b + (i + 1) by omega] at this
    exact this
theorem am_all_nth {P : Nat → am_Op → Prop} (h0 : ∀ pc, P pc am_nop) : ∀ (t : List (List am_Op)) (b j i : Nat), am_all P b t → P (b + 16 * j + i) (am_nth am_nop (am_nth [] t j) i)
  | [], _, _, _, _ => h0 _
  | row :: _, b, 0, i, h => by
    rw [show b + 16 * 0 + i = b + i by omega]
    exact am_allR_nth h0 row b i h.1
  | _ :: t, b, j + 1, i, h => by
    have := am_all_nth h0 t (b + 16) j i h.2
    rw [show b + 16 + 16 * j + i = b + 16 * (j + 1) + i by omega] at this
    exact this
/-- every instruction of a method is one of the machine's -/
def am_M1 (tb : am_Tb) (cc : ByteArray) (own : String) (mL : Nat) (rt : Option FieldType) (ini : Bool) (t : List (List am_Op)) : Prop := am_all (fun pc o => am_ok tb cc own mL rt ini pc o ∧ am_mo o) 0 t
theorem am_M1.at {tb : am_Tb} {cc : ByteArray} {own : String} {mL : Nat} {rt : Option FieldType} {ini : Bool} {t : List (List am_Op)} (h : am_M1 tb cc own mL rt ini t) (pc : Nat) : am_ok tb cc own mL rt ini pc (am_ix2 am_nop t pc) ∧ am_mo (am_ix2 am_nop t pc) := by
  have := am_all_nth (fun pc => ⟨ok_nop, mo_nop⟩) t 0 (pc / 16) (pc % 16) h
  rw [show 0 + 16 * (pc / 16) + pc % 16 = pc by omega] at this
  exact this
def tX0_init : List (List am_Op) := [[o_aload 0 1, o_oinit 4, am_nop, am_nop, o_aload 0 5, o_push (.int 64) 7, am_nop, o_newa 24 9, am_nop, o_putR 0 4 0 12, am_nop, am_nop, o_aload 0 13, o_push (.int 6) 15, am_nop, o_newa 24 17],
  [am_nop, o_putR 0 4 1 20, am_nop, am_nop, o_aload 0 21, o_push (.int 0) 22, o_putI 0 4 2 25, am_nop, am_nop, o_aload 0 26, o_push (.long 0) 27, o_putJ 0 4 3 30, am_nop, am_nop, o_ret, am_nop]]
theorem rX0_init_0 : am_allR (fun pc o => am_ok am_tb0 cX0_init RX0 1 none true pc o ∧ am_mo o) 0 (am_nth [] tX0_init 0) :=
  And.intro ⟨ok_aload_n dX0_init_0 rfl rfl, mo_aload⟩ (
  And.intro ⟨ok_oinit dX0_init_1 wd_132 wd_24 wd_25 rfl, mo_oinit⟩ (
  And.intro ⟨ok_nop, mo_nop⟩ (
  And.intro ⟨ok_nop, mo_nop⟩ (
  And.intro ⟨ok_aload_n dX0_init_4 rfl rfl, mo_aload⟩ (
  And.intro ⟨ok_bipush dX0_init_5 rfl bi_64, mo_push⟩ (
  And.intro ⟨ok_nop, mo_nop⟩ (
  And.intro ⟨ok_newJ dX0_init_7 wd_146 rfl, mo_newa⟩ (
  And.intro ⟨ok_nop, mo_nop⟩ (
  And.intro ⟨ok_putRF dX0_init_9 hclX0 inWX0 tyX0_ok nmX0 (by decide) (by decide) wd_133 rfl rfl rfl (tyX0_ok 0 (by decide)) (Or.inr ⟨_, rfl⟩) (fun _ _ _ => rfl) rfl, mo_putR⟩ (
  And.intro ⟨ok_nop, mo_nop⟩ (
  And.intro ⟨ok_nop, mo_nop⟩ (
  And.intro ⟨ok_aload_n dX0_init_12 rfl rfl, mo_aload⟩ (
  And.intro ⟨ok_bipush dX0_init_13 rfl bi_6, mo_push⟩ (
  And.intro ⟨ok_nop, mo_nop⟩ (
  And.intro ⟨ok_newJ dX0_init_15 wd_146 rfl, mo_newa⟩ (
  trivial))))))))))))))))
theorem rX0_init_1 : am_allR (fun pc o => am_ok am_tb0 cX0_init RX0 1 none true pc o ∧ am_mo o) 16 (am_nth [] tX0_init 1) :=
  And.intro ⟨ok_nop, mo_nop⟩ (
  And.intro ⟨ok_putRF dX0_init_17 hclX0 inWX0 tyX0_ok nmX0 (by decide) (by decide) wd_134 rfl rfl rfl (tyX0_ok 1 (by decide)) (Or.inr ⟨_, rfl⟩) (fun _ _ _ => rfl) rfl, mo_putR⟩ (
  And.intro ⟨ok_nop, mo_nop⟩ (
  And.intro ⟨ok_nop, mo_nop⟩ (
  And.intro ⟨ok_aload_n dX0_init_20 rfl rfl, mo_aload⟩ (
  And.intro ⟨ok_iconst dX0_init_21 rfl ic_0, mo_push⟩ (
  And.intro ⟨ok_putI dX0_init_22 hclX0 inWX0 tyX0_ok nmX0 (by decide) (by decide) wd_135 rfl (tyX0_ok 2 (by decide)) (fun _ _ _ => rfl) rfl, mo_putI⟩ (
  And.intro ⟨ok_nop, mo_nop⟩ (
  And.intro ⟨ok_nop, mo_nop⟩ (
  And.intro ⟨ok_aload_n dX0_init_25 rfl rfl, mo_aload⟩ (
  And.intro ⟨ok_lconst dX0_init_26 rfl lc_0, mo_push⟩ (
  And.intro ⟨ok_putJ dX0_init_27 hclX0 inWX0 tyX0_ok nmX0 (by decide) (by decide) wd_136 rfl (tyX0_ok 3 (by decide)) (fun _ _ _ => rfl) rfl, mo_putJ⟩ (
  And.intro ⟨ok_nop, mo_nop⟩ (
  And.intro ⟨ok_nop, mo_nop⟩ (
  And.intro ⟨ok_ret dX0_init_30 rfl, mo_ret⟩ (
  And.intro ⟨ok_nop, mo_nop⟩ (
  trivial))))))))))))))))
theorem kX0_init : am_M1 am_tb0 cX0_init RX0 1 none true tX0_init := And.intro rX0_init_0 (And.intro rX0_init_1 (trivial))
def tX0_solve : List (List am_Op) := [[o_aload 0 1, o_aload 1 2, o_getI 2 14 4 5, am_nop, am_nop, o_putI 0 4 2 8, am_nop, am_nop, o_aload 0 9, o_getR 0 4 0 12, am_nop, am_nop, o_push (.long 4611686018427387904) 15, am_nop, am_nop, o_cs 216 5 0 2 18],
  [am_nop, am_nop, o_aload 0 19, o_getR 0 4 0 22, am_nop, am_nop, o_push (.int 0) 23, o_push (.long 0) 24, o_last 25, o_push (.int 0) 26, o_istore 4 28, am_nop, o_iload 4 30, am_nop, o_aload 0 31, o_getI 0 4 2 34],
  [am_nop, am_nop, o_icmp (fun x y => y ≤ x) 66 37, am_nop, am_nop, o_aload 0 38, o_getR 0 4 0 41, am_nop, am_nop, o_push (.int 0) 42, o_dup2 43, o_lald 24 44, o_push (.long 310023175) 47, am_nop, am_nop, o_push (.long 10) 50],
  [am_nop, am_nop, o_push (.ref 15) 53, am_nop, am_nop, o_iload 4 55, am_nop, o_lald 54 56, o_lbin (fun x y => x * y) 57, o_lbin (fun x y => x + y) 58, o_lbin (fun x y => x + y) 59, o_last 60, o_iinc 4 1 63, am_nop, am_nop, o_goto 28],
  [am_nop, am_nop, o_push (.int 0) 67, o_istore 4 69, am_nop, o_iload 4 71, am_nop, o_aload 1 72, o_getI 2 14 1 75, am_nop, am_nop, o_icmp (fun x y => y ≤ x) 102 78, am_nop, am_nop, o_iload 4 80, am_nop],
  [o_iload 2 81, o_icmp (fun x y => x = y) 96 84, am_nop, am_nop, o_aload 0 85, o_aload 1 86, o_iload 4 88, am_nop, o_iload 3 89, o_cv 0 4 2 8 4 3 92, am_nop, am_nop, o_aload 0 93, o_cv 0 4 3 4 0 0 96, am_nop, am_nop],
  [o_iinc 4 1 99, am_nop, am_nop, o_goto 69, am_nop, am_nop, o_aload 0 103, o_push (.long 4611686018427387904) 106, am_nop, am_nop, o_putJ 0 4 3 109, am_nop, am_nop, o_push (.int 0) 110, o_istore 4 112, am_nop],
  [o_iload 4 114, am_nop, o_aload 0 115, o_getR 0 4 0 118, am_nop, am_nop, o_alen 24 119, o_icmp (fun x y => y ≤ x) 146 122, am_nop, am_nop, o_aload 0 123, o_aload 0 124, o_getJ 0 4 3 127, am_nop, am_nop, o_aload 0 128],
  [o_getR 0 4 0 131, am_nop, am_nop, o_iload 4 133, am_nop, o_lald 24 134, o_mminL 137, am_nop, am_nop, o_putJ 0 4 3 140, am_nop, am_nop, o_iinc 4 1 143, am_nop, am_nop, o_goto 112],
  [am_nop, am_nop, o_aload 0 147, o_getI 0 4 2 150, am_nop, am_nop, o_aload 0 151, o_getJ 0 4 3 154, am_nop, am_nop, o_push (.long 310023175) 157, am_nop, am_nop, o_lbinS (fun x y => x / y) 158, o_l2i 159, o_bin (fun x y => x - y) 160],
  [o_iret, am_nop, am_nop, am_nop, am_nop, am_nop, am_nop, am_nop, am_nop, am_nop, am_nop, am_nop, am_nop, am_nop, am_nop, am_nop]]
theorem rX0_solve_0 : am_allR (fun pc o => am_ok am_tb0 cX0_solve RX0 5 (some .int) false pc o ∧ am_mo o) 0 (am_nth [] tX0_solve 0) :=
  And.intro ⟨ok_aload_n dX0_solve_0 rfl rfl, mo_aload⟩ (
  And.intro ⟨ok_aload_n dX0_solve_1 rfl rfl, mo_aload⟩ (
  And.intro ⟨ok_getIN dX0_solve_2 hclX2 inWX2 (by decide) (by decide) wn_79 (fun _ _ _ => rfl) rfl, mo_getI⟩ (
  And.intro ⟨ok_nop, mo_nop⟩ (
  And.intro ⟨ok_nop, mo_nop⟩ (
  And.intro ⟨ok_putI dX0_solve_5 hclX0 inWX0 tyX0_ok nmX0 (by decide) (by decide) wd_135 rfl (tyX0_ok 2 (by decide)) (fun _ _ _ => rfl) rfl, mo_putI⟩ (
  And.intro ⟨ok_nop, mo_nop⟩ (
  And.intro ⟨ok_nop, mo_nop⟩ (
  And.intro ⟨ok_aload_n dX0_solve_8 rfl rfl, mo_aload⟩ (
  And.intro ⟨ok_getR dX0_solve_9 hclX0 inWX0 (by decide) (by decide) wd_133 (fun _ _ _ => rfl) rfl, mo_getR⟩ (
  And.intro ⟨ok_nop, mo_nop⟩ (
  And.intro ⟨ok_nop, mo_nop⟩ (
  And.intro ⟨ok_ldc2 dX0_solve_12 rfl wd_441, mo_push⟩ (
  And.intro ⟨ok_nop, mo_nop⟩ (
  And.intro ⟨ok_nop, mo_nop⟩ (
  And.intro ⟨ok_cs (z := 216) dX0_solve_15 wd_442 wd_443 wd_11 wd_444 rfl (by decide) hy_J7_fill_d0a16 rfl, mo_cs⟩ (
  trivial))))))))))))))))
theorem rX0_solve_1 : am_allR (fun pc o => am_ok am_tb0 cX0_solve RX0 5 (some .int) false pc o ∧ am_mo o) 16 (am_nth [] tX0_solve 1) :=
  And.intro ⟨ok_nop, mo_nop⟩ (
  And.intro ⟨ok_nop, mo_nop⟩ (
  And.intro ⟨ok_aload_n dX0_solve_18 rfl rfl, mo_aload⟩ (
  And.intro ⟨ok_getR dX0_solve_19 hclX0 inWX0 (by decide) (by decide) wd_133 (fun _ _ _ => rfl) rfl, mo_getR⟩ (
  And.intro ⟨ok_nop, mo_nop⟩ (
  And.intro ⟨ok_nop, mo_nop⟩ (
  And.intro ⟨ok_iconst dX0_solve_22 rfl ic_0, mo_push⟩ (
  And.intro ⟨ok_lconst dX0_solve_23 rfl lc_0, mo_push⟩ (
  And.intro ⟨ok_last dX0_solve_24 rfl, mo_last⟩ (
  And.intro ⟨ok_iconst dX0_solve_25 rfl ic_0, mo_push⟩ (
  And.intro ⟨ok_istore dX0_solve_26 (by decide) rfl, mo_istore⟩ (
  And.intro ⟨ok_nop, mo_nop⟩ (
  And.intro ⟨ok_iload dX0_solve_28 rfl, mo_iload⟩ (
  And.intro ⟨ok_nop, mo_nop⟩ (
  And.intro ⟨ok_aload_n dX0_solve_30 rfl rfl, mo_aload⟩ (
  And.intro ⟨ok_getI dX0_solve_31 hclX0 inWX0 (by decide) (by decide) wd_135 (fun _ _ _ => rfl) rfl, mo_getI⟩ (
  trivial))))))))))))))))
theorem rX0_solve_2 : am_allR (fun pc o => am_ok am_tb0 cX0_solve RX0 5 (some .int) false pc o ∧ am_mo o) 32 (am_nth [] tX0_solve 2) :=
  And.intro ⟨ok_nop, mo_nop⟩ (
  And.intro ⟨ok_nop, mo_nop⟩ (
  And.intro ⟨ok_icmp_ge dX0_solve_34 (by decide) rfl, mo_icmp⟩ (
  And.intro ⟨ok_nop, mo_nop⟩ (
  And.intro ⟨ok_nop, mo_nop⟩ (
  And.intro ⟨ok_aload_n dX0_solve_37 rfl rfl, mo_aload⟩ (
  And.intro ⟨ok_getR dX0_solve_38 hclX0 inWX0 (by decide) (by decide) wd_133 (fun _ _ _ => rfl) rfl, mo_getR⟩ (
  And.intro ⟨ok_nop, mo_nop⟩ (
  And.intro ⟨ok_nop, mo_nop⟩ (
  And.intro ⟨ok_iconst dX0_solve_41 rfl ic_0, mo_push⟩ (
  And.intro ⟨ok_dup2 dX0_solve_42 rfl, mo_dup2⟩ (
  And.intro ⟨ok_lald dX0_solve_43 rfl, mo_lald⟩ (
  And.intro ⟨ok_ldc2 dX0_solve_44 rfl wd_445, mo_push⟩ (
  And.intro ⟨ok_nop, mo_nop⟩ (
  And.intro ⟨ok_nop, mo_nop⟩ (
  And.intro ⟨ok_ldc2 dX0_solve_47 rfl wd_446, mo_push⟩ (
  trivial))))))))))))))))
theorem rX0_solve_3 : am_allR (fun pc o => am_ok am_tb0 cX0_solve RX0 5 (some .int) false pc o ∧ am_mo o) 48 (am_nth [] tX0_solve 3) :=
  And.intro ⟨ok_nop, mo_nop⟩ (
  And.intro ⟨ok_nop, mo_nop⟩ (
  And.intro ⟨ok_digits dX0_solve_50 wd_447 rfl, mo_push⟩ (
  And.intro ⟨ok_nop, mo_nop⟩ (
  And.intro ⟨ok_nop, mo_nop⟩ (
  And.intro ⟨ok_iload dX0_solve_53 rfl, mo_iload⟩ (
  And.intro ⟨ok_nop, mo_nop⟩ (
  And.intro ⟨ok_laldF dX0_solve_55 rfl, mo_lald⟩ (
  And.intro ⟨ok_lmul dX0_solve_56 rfl, mo_lbin⟩ (
  And.intro ⟨ok_ladd dX0_solve_57 rfl, mo_lbin⟩ (
  And.intro ⟨ok_ladd dX0_solve_58 rfl, mo_lbin⟩ (
  And.intro ⟨ok_last dX0_solve_59 rfl, mo_last⟩ (
  And.intro ⟨ok_iinc dX0_solve_60 ic_1 (by decide) rfl, mo_iinc⟩ (
  And.intro ⟨ok_nop, mo_nop⟩ (
  And.intro ⟨ok_nop, mo_nop⟩ (
  And.intro ⟨ok_goto dX0_solve_63 (by decide), mo_goto⟩ (
  trivial))))))))))))))))
theorem rX0_solve_4 : am_allR (fun pc o => am_ok am_tb0 cX0_solve RX0 5 (some .int) false pc o ∧ am_mo o) 64 (am_nth [] tX0_solve 4) :=
  And.intro ⟨ok_nop, mo_nop⟩ (
  And.intro ⟨ok_nop, mo_nop⟩ (
  And.intro ⟨ok_iconst dX0_solve_66 rfl ic_0, mo_push⟩ (
  And.intro ⟨ok_istore dX0_solve_67 (by decide) rfl, mo_istore⟩ (
  And.intro ⟨ok_nop, mo_nop⟩ (
  And.intro ⟨ok_iload dX0_solve_69 rfl, mo_iload⟩ (
  And.intro ⟨ok_nop, mo_nop⟩ (
  And.intro ⟨ok_aload_n dX0_solve_71 rfl rfl, mo_aload⟩ (
  And.intro ⟨ok_getIN dX0_solve_72 hclX2 inWX2 (by decide) (by decide) wn_71 (fun _ _ _ => rfl) rfl, mo_getI⟩ (
  And.intro ⟨ok_nop, mo_nop⟩ (
  And.intro ⟨ok_nop, mo_nop⟩ (
  And.intro ⟨ok_icmp_ge dX0_solve_75 (by decide) rfl, mo_icmp⟩ (
  And.intro ⟨ok_nop, mo_nop⟩ (
  And.intro ⟨ok_nop, mo_nop⟩ (
  And.intro ⟨ok_iload dX0_solve_78 rfl, mo_iload⟩ (
  And.intro ⟨ok_nop, mo_nop⟩ (
  trivial))))))))))))))))
theorem rX0_solve_5 : am_allR (fun pc o => am_ok am_tb0 cX0_solve RX0 5 (some .int) false pc o ∧ am_mo o) 80 (am_nth [] tX0_solve 5) :=
  And.intro ⟨ok_iload_n dX0_solve_80 rfl rfl, mo_iload⟩ (
  And.intro ⟨ok_icmp_eq dX0_solve_81 (by decide) rfl, mo_icmp⟩ (
  And.intro ⟨ok_nop, mo_nop⟩ (
  And.intro ⟨ok_nop, mo_nop⟩ (
  And.intro ⟨ok_aload_n dX0_solve_84 rfl rfl, mo_aload⟩ (
  And.intro ⟨ok_aload_n dX0_solve_85 rfl rfl, mo_aload⟩ (
  And.intro ⟨ok_iload dX0_solve_86 rfl, mo_iload⟩ (
  And.intro ⟨ok_nop, mo_nop⟩ (
  And.intro ⟨ok_iload_n dX0_solve_88 rfl rfl, mo_iload⟩ (
  And.intro ⟨ok_cv (z := 2) dX0_solve_89 hclX0 (by decide) wd_449 wd_451 wp_0 wd_4 wd_452 rfl (by decide) ⟨rfl, hy_X0_price⟩ rfl, mo_cv⟩ (
  And.intro ⟨ok_nop, mo_nop⟩ (
  And.intro ⟨ok_nop, mo_nop⟩ (
  And.intro ⟨ok_aload_n dX0_solve_92 rfl rfl, mo_aload⟩ (
  And.intro ⟨ok_cv (z := 3) dX0_solve_93 hclX0 (by decide) wd_457 wd_459 wp_1 wd_4 wd_460 rfl (by decide) ⟨rfl, hy_X0_offer⟩ rfl, mo_cv⟩ (
  And.intro ⟨ok_nop, mo_nop⟩ (
  And.intro ⟨ok_nop, mo_nop⟩ (
  trivial))))))))))))))))
theorem rX0_solve_6 : am_allR (fun pc o => am_ok am_tb0 cX0_solve RX0 5 (some .int) false pc o ∧ am_mo o) 96 (am_nth [] tX0_solve 6) :=
  And.intro ⟨ok_iinc dX0_solve_96 ic_1 (by decide) rfl, mo_iinc⟩ (
  And.intro ⟨ok_nop, mo_nop⟩ (
  And.intro ⟨ok_nop, mo_nop⟩ (
  And.intro ⟨ok_goto dX0_solve_99 (by decide), mo_goto⟩ (
  And.intro ⟨ok_nop, mo_nop⟩ (
  And.intro ⟨ok_nop, mo_nop⟩ (
  And.intro ⟨ok_aload_n dX0_solve_102 rfl rfl, mo_aload⟩ (
  And.intro ⟨ok_ldc2 dX0_solve_103 rfl wd_441, mo_push⟩ (
  And.intro ⟨ok_nop, mo_nop⟩ (
  And.intro ⟨ok_nop, mo_nop⟩ (
  And.intro ⟨ok_putJ dX0_solve_106 hclX0 inWX0 tyX0_ok nmX0 (by decide) (by decide) wd_136 rfl (tyX0_ok 3 (by decide)) (fun _ _ _ => rfl) rfl, mo_putJ⟩ (
  And.intro ⟨ok_nop, mo_nop⟩ (
  And.intro ⟨ok_nop, mo_nop⟩ (
  And.intro ⟨ok_iconst dX0_solve_109 rfl ic_0, mo_push⟩ (
  And.intro ⟨ok_istore dX0_solve_110 (by decide) rfl, mo_istore⟩ (
  And.intro ⟨ok_nop, mo_nop⟩ (
  trivial))))))))))))))))
theorem rX0_solve_7 : am_allR (fun pc o => am_ok am_tb0 cX0_solve RX0 5 (some .int) false pc o ∧ am_mo o) 112 (am_nth [] tX0_solve 7) :=
  And.intro ⟨ok_iload dX0_solve_112 rfl, mo_iload⟩ (
  And.intro ⟨ok_nop, mo_nop⟩ (
  And.intro ⟨ok_aload_n dX0_solve_114 rfl rfl, mo_aload⟩ (
  And.intro ⟨ok_getR dX0_solve_115 hclX0 inWX0 (by decide) (by decide) wd_133 (fun _ _ _ => rfl) rfl, mo_getR⟩ (
  And.intro ⟨ok_nop, mo_nop⟩ (
  And.intro ⟨ok_nop, mo_nop⟩ (
  And.intro ⟨ok_alenJ dX0_solve_118 rfl, mo_alen⟩ (
  And.intro ⟨ok_icmp_ge dX0_solve_119 (by decide) rfl, mo_icmp⟩ (
  And.intro ⟨ok_nop, mo_nop⟩ (
  And.intro ⟨ok_nop, mo_nop⟩ (
  And.intro ⟨ok_aload_n dX0_solve_122 rfl rfl, mo_aload⟩ (
  And.intro ⟨ok_aload_n dX0_solve_123 rfl rfl, mo_aload⟩ (
  And.intro ⟨ok_getJ dX0_solve_124 hclX0 inWX0 (by decide) (by decide) wd_136 (fun _ _ _ => rfl) rfl, mo_getJ⟩ (
  And.intro ⟨ok_nop, mo_nop⟩ (
  And.intro ⟨ok_nop, mo_nop⟩ (
  And.intro ⟨ok_aload_n dX0_solve_127 rfl rfl, mo_aload⟩ (
  trivial))))))))))))))))
theorem rX0_solve_8 : am_allR (fun pc o => am_ok am_tb0 cX0_solve RX0 5 (some .int) false pc o ∧ am_mo o) 128 (am_nth [] tX0_solve 8) :=
  And.intro ⟨ok_getR dX0_solve_128 hclX0 inWX0 (by decide) (by decide) wd_133 (fun _ _ _ => rfl) rfl, mo_getR⟩ (
  And.intro ⟨ok_nop, mo_nop⟩ (
  And.intro ⟨ok_nop, mo_nop⟩ (
  And.intro ⟨ok_iload dX0_solve_131 rfl, mo_iload⟩ (
  And.intro ⟨ok_nop, mo_nop⟩ (
  And.intro ⟨ok_lald dX0_solve_133 rfl, mo_lald⟩ (
  And.intro ⟨ok_mminL dX0_solve_134 wd_461 wd_462 wd_10 wm_mminL rfl, mo_mminL⟩ (
  And.intro ⟨ok_nop, mo_nop⟩ (
  And.intro ⟨ok_nop, mo_nop⟩ (
  And.intro ⟨ok_putJ dX0_solve_137 hclX0 inWX0 tyX0_ok nmX0 (by decide) (by decide) wd_136 rfl (tyX0_ok 3 (by decide)) (fun _ _ _ => rfl) rfl, mo_putJ⟩ (
  And.intro ⟨ok_nop, mo_nop⟩ (
  And.intro ⟨ok_nop, mo_nop⟩ (
  And.intro ⟨ok_iinc dX0_solve_140 ic_1 (by decide) rfl, mo_iinc⟩ (
  And.intro ⟨ok_nop, mo_nop⟩ (
  And.intro ⟨ok_nop, mo_nop⟩ (
  And.intro ⟨ok_goto dX0_solve_143 (by decide), mo_goto⟩ (
  trivial))))))))))))))))
theorem rX0_solve_9 : am_allR (fun pc o => am_ok am_tb0 cX0_solve RX0 5 (some .int) false pc o ∧ am_mo o) 144 (am_nth [] tX0_solve 9) :=
  And.intro ⟨ok_nop, mo_nop⟩ (
  And.intro ⟨ok_nop, mo_nop⟩ (
  And.intro ⟨ok_aload_n dX0_solve_146 rfl rfl, mo_aload⟩ (
  And.intro ⟨ok_getI dX0_solve_147 hclX0 inWX0 (by decide) (by decide) wd_135 (fun _ _ _ => rfl) rfl, mo_getI⟩ (
  And.intro ⟨ok_nop, mo_nop⟩ (
  And.intro ⟨ok_nop, mo_nop⟩ (
  And.intro ⟨ok_aload_n dX0_solve_150 rfl rfl, mo_aload⟩ (
  And.intro ⟨ok_getJ dX0_solve_151 hclX0 inWX0 (by decide) (by decide) wd_136 (fun _ _ _ => rfl) rfl, mo_getJ⟩ (
  And.intro ⟨ok_nop, mo_nop⟩ (
  And.intro ⟨ok_nop, mo_nop⟩ (
  And.intro ⟨ok_ldc2 dX0_solve_154 rfl wd_445, mo_push⟩ (
  And.intro ⟨ok_nop, mo_nop⟩ (
  And.intro ⟨ok_nop, mo_nop⟩ (
  And.intro ⟨ok_ldiv dX0_solve_157 rfl, mo_lbinS⟩ (
  And.intro ⟨ok_l2i dX0_solve_158 rfl, mo_l2i⟩ (
  And.intro ⟨ok_isub dX0_solve_159 rfl, mo_bin⟩ (
  trivial))))))))))))))))
theorem rX0_solve_10 : am_allR (fun pc o => am_ok am_tb0 cX0_solve RX0 5 (some .int) false pc o ∧ am_mo o) 160 (am_nth [] tX0_solve 10) :=
  And.intro ⟨ok_iret dX0_solve_160 rfl, mo_iret⟩ (
  And.intro ⟨ok_nop, mo_nop⟩ (
  And.intro ⟨ok_nop, mo_nop⟩ (
  And.intro ⟨ok_nop, mo_nop⟩ (
  And.intro ⟨ok_nop, mo_nop⟩ (
  And.intro ⟨ok_nop, mo_nop⟩ (
  And.intro ⟨ok_nop, mo_nop⟩ (
  And.intro ⟨ok_nop, mo_nop⟩ (
  And.intro ⟨ok_nop, mo_nop⟩ (
  And.intro ⟨ok_nop, mo_nop⟩ (
  And.intro ⟨ok_nop, mo_nop⟩ (
  And.intro ⟨ok_nop, mo_nop⟩ (
  And.intro ⟨ok_nop, mo_nop⟩ (
  And.intro ⟨ok_nop, mo_nop⟩ (
  And.intro ⟨ok_nop, mo_nop⟩ (
  And.intro ⟨ok_nop, mo_nop⟩ (
  trivial))))))))))))))))
theorem kX0_solve : am_M1 am_tb0 cX0_solve RX0 5 (some .int) false tX0_solve := And.intro rX0_solve_0 (And.intro rX0_solve_1 (And.intro rX0_solve_2 (And.intro rX0_solve_3 (And.intro rX0_solve_4 (And.intro rX0_solve_5 (And.intro rX0_solve_6 (And.intro rX0_solve_7 (And.intro rX0_solve_8 (And.intro rX0_solve_9 (And.intro rX0_solve_10 (trivial)))))))))))
def tX0_price : List (List am_Op) := [[o_push (.int 0) 1, o_istore 4 3, am_nop, o_iload 4 5, am_nop, o_aload 0 6, o_getI 0 4 2 9, am_nop, am_nop, o_icmp (fun x y => y ≤ x) 121 12, am_nop, am_nop, o_aload 1 13, o_getR 2 14 2 16, am_nop, am_nop],
  [o_iload 4 18, am_nop, o_iald 20 19, o_istore 5 21, am_nop, o_aload 1 22, o_aload 1 23, o_getR 2 14 3 26, am_nop, am_nop, o_iload 4 28, am_nop, o_iald 20 29, o_cv 2 14 20 2 0 1 32, am_nop, am_nop],
  [o_istore 6 34, am_nop, o_aload 0 35, o_getR 0 4 1 38, am_nop, am_nop, o_iload 4 40, am_nop, o_push (.long 4611686018427387904) 43, am_nop, am_nop, o_last 44, o_iload 4 46, am_nop, o_iload 3 47, o_icmp (fun x y => x = y) 115 50],
  [am_nop, am_nop, o_aload 1 51, o_aload 1 52, o_getR 2 14 0 55, am_nop, am_nop, o_iload 2 56, o_aald 31 57, o_iload 6 59, am_nop, o_iload 5 61, am_nop, o_cv 2 14 21 7 3 3 64, am_nop, am_nop],
  [o_if (fun x => x = 0) 115 67, am_nop, am_nop, o_iload 5 69, am_nop, o_aload 1 70, o_getR 2 14 0 73, am_nop, am_nop, o_iload 2 74, o_aald 31 75, o_getI 1 5 1 78, am_nop, am_nop, o_bin (fun x y => x - y) 79, o_mabs 82],
  [am_nop, am_nop, o_istore 7 84, am_nop, o_aload 0 85, o_getR 0 4 1 88, am_nop, am_nop, o_iload 4 90, am_nop, o_iload 7 92, am_nop, o_i2l 93, o_push (.long 1771561) 96, am_nop, am_nop],
  [o_lbin (fun x y => x * y) 97, o_push (.long 310023175) 100, am_nop, am_nop, o_lbin (fun x y => x - y) 101, o_iload 2 102, o_push (.int 10) 104, am_nop, o_bin (fun x y => x - y) 105, o_i2l 106, o_push (.ref 15) 109, am_nop, am_nop, o_iload 4 111, am_nop, o_lald 54 112],
  [o_lbin (fun x y => x * y) 113, o_lbin (fun x y => x + y) 114, o_last 115, o_iinc 4 1 118, am_nop, am_nop, o_goto 3, am_nop, am_nop, o_ret, am_nop, am_nop, am_nop, am_nop, am_nop, am_nop]]
theorem rX0_price_0 : am_allR (fun pc o => am_ok am_tb0 cX0_price RX0 8 none false pc o ∧ am_mo o) 0 (am_nth [] tX0_price 0) :=
  And.intro ⟨ok_iconst dX0_price_0 rfl ic_0, mo_push⟩ (
  And.intro ⟨ok_istore dX0_price_1 (by decide) rfl, mo_istore⟩ (
  And.intro ⟨ok_nop, mo_nop⟩ (
  And.intro ⟨ok_iload dX0_price_3 rfl, mo_iload⟩ (
  And.intro ⟨ok_nop, mo_nop⟩ (
  And.intro ⟨ok_aload_n dX0_price_5 rfl rfl, mo_aload⟩ (
  And.intro ⟨ok_getI dX0_price_6 hclX0 inWX0 (by decide) (by decide) wd_135 (fun _ _ _ => rfl) rfl, mo_getI⟩ (
  And.intro ⟨ok_nop, mo_nop⟩ (
  And.intro ⟨ok_nop, mo_nop⟩ (
  And.intro ⟨ok_icmp_ge dX0_price_9 (by decide) rfl, mo_icmp⟩ (
  And.intro ⟨ok_nop, mo_nop⟩ (
  And.intro ⟨ok_nop, mo_nop⟩ (
  And.intro ⟨ok_aload_n dX0_price_12 rfl rfl, mo_aload⟩ (
  And.intro ⟨ok_getRN dX0_price_13 hclX2 inWX2 (by decide) (by decide) wn_73 (fun _ _ _ => rfl) rfl, mo_getR⟩ (
  And.intro ⟨ok_nop, mo_nop⟩ (
  And.intro ⟨ok_nop, mo_nop⟩ (
  trivial))))))))))))))))
theorem rX0_price_1 : am_allR (fun pc o => am_ok am_tb0 cX0_price RX0 8 none false pc o ∧ am_mo o) 16 (am_nth [] tX0_price 1) :=
  And.intro ⟨ok_iload dX0_price_16 rfl, mo_iload⟩ (
  And.intro ⟨ok_nop, mo_nop⟩ (
  And.intro ⟨ok_iald dX0_price_18 rfl, mo_iald⟩ (
  And.intro ⟨ok_istore dX0_price_19 (by decide) rfl, mo_istore⟩ (
  And.intro ⟨ok_nop, mo_nop⟩ (
  And.intro ⟨ok_aload_n dX0_price_21 rfl rfl, mo_aload⟩ (
  And.intro ⟨ok_aload_n dX0_price_22 rfl rfl, mo_aload⟩ (
  And.intro ⟨ok_getRN dX0_price_23 hclX2 inWX2 (by decide) (by decide) wn_76 (fun _ _ _ => rfl) rfl, mo_getR⟩ (
  And.intro ⟨ok_nop, mo_nop⟩ (
  And.intro ⟨ok_nop, mo_nop⟩ (
  And.intro ⟨ok_iload dX0_price_26 rfl, mo_iload⟩ (
  And.intro ⟨ok_nop, mo_nop⟩ (
  And.intro ⟨ok_iald dX0_price_28 rfl, mo_iald⟩ (
  And.intro ⟨ok_cv (z := 20) dX0_price_29 hclX2 (by decide) wd_453 wd_401 wd_402 wd_2 wd_403 rfl (by decide) ⟨rfl, hy_X2_earthOf⟩ rfl, mo_cv⟩ (
  And.intro ⟨ok_nop, mo_nop⟩ (
  And.intro ⟨ok_nop, mo_nop⟩ (
  trivial))))))))))))))))
theorem rX0_price_2 : am_allR (fun pc o => am_ok am_tb0 cX0_price RX0 8 none false pc o ∧ am_mo o) 32 (am_nth [] tX0_price 2) :=
  And.intro ⟨ok_istore dX0_price_32 (by decide) rfl, mo_istore⟩ (
  And.intro ⟨ok_nop, mo_nop⟩ (
  And.intro ⟨ok_aload_n dX0_price_34 rfl rfl, mo_aload⟩ (
  And.intro ⟨ok_getR dX0_price_35 hclX0 inWX0 (by decide) (by decide) wd_134 (fun _ _ _ => rfl) rfl, mo_getR⟩ (
  And.intro ⟨ok_nop, mo_nop⟩ (
  And.intro ⟨ok_nop, mo_nop⟩ (
  And.intro ⟨ok_iload dX0_price_38 rfl, mo_iload⟩ (
  And.intro ⟨ok_nop, mo_nop⟩ (
  And.intro ⟨ok_ldc2 dX0_price_40 rfl wd_441, mo_push⟩ (
  And.intro ⟨ok_nop, mo_nop⟩ (
  And.intro ⟨ok_nop, mo_nop⟩ (
  And.intro ⟨ok_last dX0_price_43 rfl, mo_last⟩ (
  And.intro ⟨ok_iload dX0_price_44 rfl, mo_iload⟩ (
  And.intro ⟨ok_nop, mo_nop⟩ (
  And.intro ⟨ok_iload_n dX0_price_46 rfl rfl, mo_iload⟩ (
  And.intro ⟨ok_icmp_eq dX0_price_47 (by decide) rfl, mo_icmp⟩ (
  trivial))))))))))))))))
theorem rX0_price_3 : am_allR (fun pc o => am_ok am_tb0 cX0_price RX0 8 none false pc o ∧ am_mo o) 48 (am_nth [] tX0_price 3) :=
  And.intro ⟨ok_nop, mo_nop⟩ (
  And.intro ⟨ok_nop, mo_nop⟩ (
  And.intro ⟨ok_aload_n dX0_price_50 rfl rfl, mo_aload⟩ (
  And.intro ⟨ok_aload_n dX0_price_51 rfl rfl, mo_aload⟩ (
  And.intro ⟨ok_getRN dX0_price_52 hclX2 inWX2 (by decide) (by decide) wn_67 (fun _ _ _ => rfl) rfl, mo_getR⟩ (
  And.intro ⟨ok_nop, mo_nop⟩ (
  And.intro ⟨ok_nop, mo_nop⟩ (
  And.intro ⟨ok_iload_n dX0_price_55 rfl rfl, mo_iload⟩ (
  And.intro ⟨ok_aald (ci := 1) dX0_price_56 (by decide) rfl rfl, mo_aald⟩ (
  And.intro ⟨ok_iload dX0_price_57 rfl, mo_iload⟩ (
  And.intro ⟨ok_nop, mo_nop⟩ (
  And.intro ⟨ok_iload dX0_price_59 rfl, mo_iload⟩ (
  And.intro ⟨ok_nop, mo_nop⟩ (
  And.intro ⟨ok_cv (z := 21) dX0_price_61 hclX2 (by decide) wd_454 wd_405 wd_406 wd_2 wd_407 rfl (by decide) ⟨rfl, hy_X2_canFill⟩ rfl, mo_cv⟩ (
  And.intro ⟨ok_nop, mo_nop⟩ (
  And.intro ⟨ok_nop, mo_nop⟩ (
  trivial))))))))))))))))
theorem rX0_price_4 : am_allR (fun pc o => am_ok am_tb0 cX0_price RX0 8 none false pc o ∧ am_mo o) 64 (am_nth [] tX0_price 4) :=
  And.intro ⟨ok_if_eq dX0_price_64 (by decide) rfl, mo_if⟩ (
  And.intro ⟨ok_nop, mo_nop⟩ (
  And.intro ⟨ok_nop, mo_nop⟩ (
  And.intro ⟨ok_iload dX0_price_67 rfl, mo_iload⟩ (
  And.intro ⟨ok_nop, mo_nop⟩ (
  And.intro ⟨ok_aload_n dX0_price_69 rfl rfl, mo_aload⟩ (
  And.intro ⟨ok_getRN dX0_price_70 hclX2 inWX2 (by decide) (by decide) wn_67 (fun _ _ _ => rfl) rfl, mo_getR⟩ (
  And.intro ⟨ok_nop, mo_nop⟩ (
  And.intro ⟨ok_nop, mo_nop⟩ (
  And.intro ⟨ok_iload_n dX0_price_73 rfl rfl, mo_iload⟩ (
  And.intro ⟨ok_aald (ci := 1) dX0_price_74 (by decide) rfl rfl, mo_aald⟩ (
  And.intro ⟨ok_getIN dX0_price_75 hclX1 inWX1 (by decide) (by decide) wn_45 (fun _ _ _ => rfl) rfl, mo_getI⟩ (
  And.intro ⟨ok_nop, mo_nop⟩ (
  And.intro ⟨ok_nop, mo_nop⟩ (
  And.intro ⟨ok_isub dX0_price_78 rfl, mo_bin⟩ (
  And.intro ⟨ok_mabs dX0_price_79 wd_455 wd_409 wd_10 wm_mabs rfl, mo_mabs⟩ (
  trivial))))))))))))))))
theorem rX0_price_5 : am_allR (fun pc o => am_ok am_tb0 cX0_price RX0 8 none false pc o ∧ am_mo o) 80 (am_nth [] tX0_price 5) :=
  And.intro ⟨ok_nop, mo_nop⟩ (
  And.intro ⟨ok_nop, mo_nop⟩ (
  And.intro ⟨ok_istore dX0_price_82 (by decide) rfl, mo_istore⟩ (
  And.intro ⟨ok_nop, mo_nop⟩ (
  And.intro ⟨ok_aload_n dX0_price_84 rfl rfl, mo_aload⟩ (
  And.intro ⟨ok_getR dX0_price_85 hclX0 inWX0 (by decide) (by decide) wd_134 (fun _ _ _ => rfl) rfl, mo_getR⟩ (
  And.intro ⟨ok_nop, mo_nop⟩ (
  And.intro ⟨ok_nop, mo_nop⟩ (
  And.intro ⟨ok_iload dX0_price_88 rfl, mo_iload⟩ (
  And.intro ⟨ok_nop, mo_nop⟩ (
  And.intro ⟨ok_iload dX0_price_90 rfl, mo_iload⟩ (
  And.intro ⟨ok_nop, mo_nop⟩ (
  And.intro ⟨ok_i2l dX0_price_92 rfl, mo_i2l⟩ (
  And.intro ⟨ok_ldc2 dX0_price_93 rfl wd_456, mo_push⟩ (
  And.intro ⟨ok_nop, mo_nop⟩ (
  And.intro ⟨ok_nop, mo_nop⟩ (
  trivial))))))))))))))))
theorem rX0_price_6 : am_allR (fun pc o => am_ok am_tb0 cX0_price RX0 8 none false pc o ∧ am_mo o) 96 (am_nth [] tX0_price 6) :=
  And.intro ⟨ok_lmul dX0_price_96 rfl, mo_lbin⟩ (
  And.intro ⟨ok_ldc2 dX0_price_97 rfl wd_445, mo_push⟩ (
  And.intro ⟨ok_nop, mo_nop⟩ (
  And.intro ⟨ok_nop, mo_nop⟩ (
  And.intro ⟨ok_lsub dX0_price_100 rfl, mo_lbin⟩ (
  And.intro ⟨ok_iload_n dX0_price_101 rfl rfl, mo_iload⟩ (
  And.intro ⟨ok_bipush dX0_price_102 rfl bi_10, mo_push⟩ (
  And.intro ⟨ok_nop, mo_nop⟩ (
  And.intro ⟨ok_isub dX0_price_104 rfl, mo_bin⟩ (
  And.intro ⟨ok_i2l dX0_price_105 rfl, mo_i2l⟩ (
  And.intro ⟨ok_digits dX0_price_106 wd_447 rfl, mo_push⟩ (
  And.intro ⟨ok_nop, mo_nop⟩ (
  And.intro ⟨ok_nop, mo_nop⟩ (
  And.intro ⟨ok_iload dX0_price_109 rfl, mo_iload⟩ (
  And.intro ⟨ok_nop, mo_nop⟩ (
  And.intro ⟨ok_laldF dX0_price_111 rfl, mo_lald⟩ (
  trivial))))))))))))))))
theorem rX0_price_7 : am_allR (fun pc o => am_ok am_tb0 cX0_price RX0 8 none false pc o ∧ am_mo o) 112 (am_nth [] tX0_price 7) :=
  And.intro ⟨ok_lmul dX0_price_112 rfl, mo_lbin⟩ (
  And.intro ⟨ok_ladd dX0_price_113 rfl, mo_lbin⟩ (
  And.intro ⟨ok_last dX0_price_114 rfl, mo_last⟩ (
  And.intro ⟨ok_iinc dX0_price_115 ic_1 (by decide) rfl, mo_iinc⟩ (
  And.intro ⟨ok_nop, mo_nop⟩ (
  And.intro ⟨ok_nop, mo_nop⟩ (
  And.intro ⟨ok_goto dX0_price_118 (by decide), mo_goto⟩ (
  And.intro ⟨ok_nop, mo_nop⟩ (
  And.intro ⟨ok_nop, mo_nop⟩ (
  And.intro ⟨ok_ret dX0_price_121 rfl, mo_ret⟩ (
  And.intro ⟨ok_nop, mo_nop⟩ (
  And.intro ⟨ok_nop, mo_nop⟩ (
  And.intro ⟨ok_nop, mo_nop⟩ (
  And.intro ⟨ok_nop, mo_nop⟩ (
  And.intro ⟨ok_nop, mo_nop⟩ (
  And.intro ⟨ok_nop, mo_nop⟩ (
  trivial))))))))))))))))
theorem kX0_price : am_M1 am_tb0 cX0_price RX0 8 none false tX0_price := And.intro rX0_price_0 (And.intro rX0_price_1 (And.intro rX0_price_2 (And.intro rX0_price_3 (And.intro rX0_price_4 (And.intro rX0_price_5 (And.intro rX0_price_6 (And.intro rX0_price_7 (trivial))))))))
def tX0_offer : List (List am_Op) := [[o_aload 0 1, o_getR 0 4 0 4, am_nop, am_nop, o_alen 24 5, o_push (.int 1) 6, o_bin (fun x y => x - y) 7, o_istore 1 8, o_iload 1 9, o_if (fun x => x < 0) 99 12, am_nop, am_nop, o_push (.int 0) 13, o_istore 2 14, o_iload 2 15, o_aload 0 16],
  [o_getI 0 4 2 19, am_nop, am_nop, o_icmp (fun x y => y ≤ x) 93 22, am_nop, am_nop, o_aload 0 23, o_getR 0 4 0 26, am_nop, am_nop, o_iload 1 27, o_lald 24 28, o_push (.long 4611686018427387904) 31, am_nop, am_nop, o_lcmp 32],
  [o_if (fun x => x = 0) 93 35, am_nop, am_nop, o_iload 1 36, o_push (.int 1) 37, o_iload 2 38, o_bin (fun x y => x <<< (y &&& 31)) 39, o_bin (fun x y => x ||| y) 40, o_istore 3 41, o_iload 3 42, o_iload 1 43, o_icmp (fun x y => x = y) 87 46, am_nop, am_nop, o_aload 0 47, o_getR 0 4 1 50],
  [am_nop, am_nop, o_iload 2 51, o_lald 24 52, o_push (.long 4611686018427387904) 55, am_nop, am_nop, o_lcmp 56, o_if (fun x => x = 0) 87 59, am_nop, am_nop, o_aload 0 60, o_getR 0 4 0 63, am_nop, am_nop, o_iload 3 64],
  [o_aload 0 65, o_getR 0 4 0 68, am_nop, am_nop, o_iload 3 69, o_lald 24 70, o_aload 0 71, o_getR 0 4 0 74, am_nop, am_nop, o_iload 1 75, o_lald 24 76, o_aload 0 77, o_getR 0 4 1 80, am_nop, am_nop],
  [o_iload 2 81, o_lald 24 82, o_lbin (fun x y => x + y) 83, o_mminL 86, am_nop, am_nop, o_last 87, o_iinc 2 1 90, am_nop, am_nop, o_goto 14, am_nop, am_nop, o_iinc 1 (-1) 96, am_nop, am_nop],
  [o_goto 8, am_nop, am_nop, o_ret, am_nop, am_nop, am_nop, am_nop, am_nop, am_nop, am_nop, am_nop, am_nop, am_nop, am_nop, am_nop]]
theorem rX0_offer_0 : am_allR (fun pc o => am_ok am_tb0 cX0_offer RX0 4 none false pc o ∧ am_mo o) 0 (am_nth [] tX0_offer 0) :=
  And.intro ⟨ok_aload_n dX0_offer_0 rfl rfl, mo_aload⟩ (
  And.intro ⟨ok_getR dX0_offer_1 hclX0 inWX0 (by decide) (by decide) wd_133 (fun _ _ _ => rfl) rfl, mo_getR⟩ (
  And.intro ⟨ok_nop, mo_nop⟩ (
  And.intro ⟨ok_nop, mo_nop⟩ (
  And.intro ⟨ok_alenJ dX0_offer_4 rfl, mo_alen⟩ (
  And.intro ⟨ok_iconst dX0_offer_5 rfl ic_1, mo_push⟩ (
  And.intro ⟨ok_isub dX0_offer_6 rfl, mo_bin⟩ (
  And.intro ⟨ok_istore_n dX0_offer_7 rfl (by decide) rfl, mo_istore⟩ (
  And.intro ⟨ok_iload_n dX0_offer_8 rfl rfl, mo_iload⟩ (
  And.intro ⟨ok_if_lt dX0_offer_9 (by decide) rfl, mo_if⟩ (
  And.intro ⟨ok_nop, mo_nop⟩ (
  And.intro ⟨ok_nop, mo_nop⟩ (
  And.intro ⟨ok_iconst dX0_offer_12 rfl ic_0, mo_push⟩ (
  And.intro ⟨ok_istore_n dX0_offer_13 rfl (by decide) rfl, mo_istore⟩ (
  And.intro ⟨ok_iload_n dX0_offer_14 rfl rfl, mo_iload⟩ (
  And.intro ⟨ok_aload_n dX0_offer_15 rfl rfl, mo_aload⟩ (
  trivial))))))))))))))))
theorem rX0_offer_1 : am_allR (fun pc o => am_ok am_tb0 cX0_offer RX0 4 none false pc o ∧ am_mo o) 16 (am_nth [] tX0_offer 1) :=
  And.intro ⟨ok_getI dX0_offer_16 hclX0 inWX0 (by decide) (by decide) wd_135 (fun _ _ _ => rfl) rfl, mo_getI⟩ (
  And.intro ⟨ok_nop, mo_nop⟩ (
  And.intro ⟨ok_nop, mo_nop⟩ (
  And.intro ⟨ok_icmp_ge dX0_offer_19 (by decide) rfl, mo_icmp⟩ (
  And.intro ⟨ok_nop, mo_nop⟩ (
  And.intro ⟨ok_nop, mo_nop⟩ (
  And.intro ⟨ok_aload_n dX0_offer_22 rfl rfl, mo_aload⟩ (
  And.intro ⟨ok_getR dX0_offer_23 hclX0 inWX0 (by decide) (by decide) wd_133 (fun _ _ _ => rfl) rfl, mo_getR⟩ (
  And.intro ⟨ok_nop, mo_nop⟩ (
  And.intro ⟨ok_nop, mo_nop⟩ (
  And.intro ⟨ok_iload_n dX0_offer_26 rfl rfl, mo_iload⟩ (
  And.intro ⟨ok_lald dX0_offer_27 rfl, mo_lald⟩ (
  And.intro ⟨ok_ldc2 dX0_offer_28 rfl wd_441, mo_push⟩ (
  And.intro ⟨ok_nop, mo_nop⟩ (
  And.intro ⟨ok_nop, mo_nop⟩ (
  And.intro ⟨ok_lcmp dX0_offer_31 rfl, mo_lcmp⟩ (
  trivial))))))))))))))))
theorem rX0_offer_2 : am_allR (fun pc o => am_ok am_tb0 cX0_offer RX0 4 none false pc o ∧ am_mo o) 32 (am_nth [] tX0_offer 2) :=
  And.intro ⟨ok_if_eq dX0_offer_32 (by decide) rfl, mo_if⟩ (
  And.intro ⟨ok_nop, mo_nop⟩ (
  And.intro ⟨ok_nop, mo_nop⟩ (
  And.intro ⟨ok_iload_n dX0_offer_35 rfl rfl, mo_iload⟩ (
  And.intro ⟨ok_iconst dX0_offer_36 rfl ic_1, mo_push⟩ (
  And.intro ⟨ok_iload_n dX0_offer_37 rfl rfl, mo_iload⟩ (
  And.intro ⟨ok_ishl dX0_offer_38 rfl, mo_bin⟩ (
  And.intro ⟨ok_ior dX0_offer_39 rfl, mo_bin⟩ (
  And.intro ⟨ok_istore_n dX0_offer_40 rfl (by decide) rfl, mo_istore⟩ (
  And.intro ⟨ok_iload_n dX0_offer_41 rfl rfl, mo_iload⟩ (
  And.intro ⟨ok_iload_n dX0_offer_42 rfl rfl, mo_iload⟩ (
  And.intro ⟨ok_icmp_eq dX0_offer_43 (by decide) rfl, mo_icmp⟩ (
  And.intro ⟨ok_nop, mo_nop⟩ (
  And.intro ⟨ok_nop, mo_nop⟩ (
  And.intro ⟨ok_aload_n dX0_offer_46 rfl rfl, mo_aload⟩ (
  And.intro ⟨ok_getR dX0_offer_47 hclX0 inWX0 (by decide) (by decide) wd_134 (fun _ _ _ => rfl) rfl, mo_getR⟩ (
  trivial))))))))))))))))
theorem rX0_offer_3 : am_allR (fun pc o => am_ok am_tb0 cX0_offer RX0 4 none false pc o ∧ am_mo o) 48 (am_nth [] tX0_offer 3) :=
  And.intro ⟨ok_nop, mo_nop⟩ (
  And.intro ⟨ok_nop, mo_nop⟩ (
  And.intro ⟨ok_iload_n dX0_offer_50 rfl rfl, mo_iload⟩ (
  And.intro ⟨ok_lald dX0_offer_51 rfl, mo_lald⟩ (
  And.intro ⟨ok_ldc2 dX0_offer_52 rfl wd_441, mo_push⟩ (
  And.intro ⟨ok_nop, mo_nop⟩ (
  And.intro ⟨ok_nop, mo_nop⟩ (
  And.intro ⟨ok_lcmp dX0_offer_55 rfl, mo_lcmp⟩ (
  And.intro ⟨ok_if_eq dX0_offer_56 (by decide) rfl, mo_if⟩ (
  And.intro ⟨ok_nop, mo_nop⟩ (
  And.intro ⟨ok_nop, mo_nop⟩ (
  And.intro ⟨ok_aload_n dX0_offer_59 rfl rfl, mo_aload⟩ (
  And.intro ⟨ok_getR dX0_offer_60 hclX0 inWX0 (by decide) (by decide) wd_133 (fun _ _ _ => rfl) rfl, mo_getR⟩ (
  And.intro ⟨ok_nop, mo_nop⟩ (
  And.intro ⟨ok_nop, mo_nop⟩ (
  And.intro ⟨ok_iload_n dX0_offer_63 rfl rfl, mo_iload⟩ (
  trivial))))))))))))))))
theorem rX0_offer_4 : am_allR (fun pc o => am_ok am_tb0 cX0_offer RX0 4 none false pc o ∧ am_mo o) 64 (am_nth [] tX0_offer 4) :=
  And.intro ⟨ok_aload_n dX0_offer_64 rfl rfl, mo_aload⟩ (
  And.intro ⟨ok_getR dX0_offer_65 hclX0 inWX0 (by decide) (by decide) wd_133 (fun _ _ _ => rfl) rfl, mo_getR⟩ (
  And.intro ⟨ok_nop, mo_nop⟩ (
  And.intro ⟨ok_nop, mo_nop⟩ (
  And.intro ⟨ok_iload_n dX0_offer_68 rfl rfl, mo_iload⟩ (
  And.intro ⟨ok_lald dX0_offer_69 rfl, mo_lald⟩ (
  And.intro ⟨ok_aload_n dX0_offer_70 rfl rfl, mo_aload⟩ (
  And.intro ⟨ok_getR dX0_offer_71 hclX0 inWX0 (by decide) (by decide) wd_133 (fun _ _ _ => rfl) rfl, mo_getR⟩ (
  And.intro ⟨ok_nop, mo_nop⟩ (
  And.intro ⟨ok_nop, mo_nop⟩ (
  And.intro ⟨ok_iload_n dX0_offer_74 rfl rfl, mo_iload⟩ (
  And.intro ⟨ok_lald dX0_offer_75 rfl, mo_lald⟩ (
  And.intro ⟨ok_aload_n dX0_offer_76 rfl rfl, mo_aload⟩ (
  And.intro ⟨ok_getR dX0_offer_77 hclX0 inWX0 (by decide) (by decide) wd_134 (fun _ _ _ => rfl) rfl, mo_getR⟩ (
  And.intro ⟨ok_nop, mo_nop⟩ (
  And.intro ⟨ok_nop, mo_nop⟩ (
  trivial))))))))))))))))
theorem rX0_offer_5 : am_allR (fun pc o => am_ok am_tb0 cX0_offer RX0 4 none false pc o ∧ am_mo o) 80 (am_nth [] tX0_offer 5) :=
  And.intro ⟨ok_iload_n dX0_offer_80 rfl rfl, mo_iload⟩ (
  And.intro ⟨ok_lald dX0_offer_81 rfl, mo_lald⟩ (
  And.intro ⟨ok_ladd dX0_offer_82 rfl, mo_lbin⟩ (
  And.intro ⟨ok_mminL dX0_offer_83 wd_461 wd_462 wd_10 wm_mminL rfl, mo_mminL⟩ (
  And.intro ⟨ok_nop, mo_nop⟩ (
  And.intro ⟨ok_nop, mo_nop⟩ (
  And.intro ⟨ok_last dX0_offer_86 rfl, mo_last⟩ (
  And.intro ⟨ok_iinc dX0_offer_87 ic_1 (by decide) rfl, mo_iinc⟩ (
  And.intro ⟨ok_nop, mo_nop⟩ (
  And.intro ⟨ok_nop, mo_nop⟩ (
  And.intro ⟨ok_goto dX0_offer_90 (by decide), mo_goto⟩ (
  And.intro ⟨ok_nop, mo_nop⟩ (
  And.intro ⟨ok_nop, mo_nop⟩ (
  And.intro ⟨ok_iinc dX0_offer_93 ic_m1 (by decide) rfl, mo_iinc⟩ (
  And.intro ⟨ok_nop, mo_nop⟩ (
  And.intro ⟨ok_nop, mo_nop⟩ (
  trivial))))))))))))))))
theorem rX0_offer_6 : am_allR (fun pc o => am_ok am_tb0 cX0_offer RX0 4 none false pc o ∧ am_mo o) 96 (am_nth [] tX0_offer 6) :=
  And.intro ⟨ok_goto dX0_offer_96 (by decide), mo_goto⟩ (
  And.intro ⟨ok_nop, mo_nop⟩ (
  And.intro ⟨ok_nop, mo_nop⟩ (
  And.intro ⟨ok_ret dX0_offer_99 rfl, mo_ret⟩ (
  And.intro ⟨ok_nop, mo_nop⟩ (
  And.intro ⟨ok_nop, mo_nop⟩ (
  And.intro ⟨ok_nop, mo_nop⟩ (
  And.intro ⟨ok_nop, mo_nop⟩ (
  And.intro ⟨ok_nop, mo_nop⟩ (
  And.intro ⟨ok_nop, mo_nop⟩ (
  And.intro ⟨ok_nop, mo_nop⟩ (
  And.intro ⟨ok_nop, mo_nop⟩ (
  And.intro ⟨ok_nop, mo_nop⟩ (
  And.intro ⟨ok_nop, mo_nop⟩ (
  And.intro ⟨ok_nop, mo_nop⟩ (
  And.intro ⟨ok_nop, mo_nop⟩ (
  trivial))))))))))))))))
theorem kX0_offer : am_M1 am_tb0 cX0_offer RX0 4 none false tX0_offer := And.intro rX0_offer_0 (And.intro rX0_offer_1 (And.intro rX0_offer_2 (And.intro rX0_offer_3 (And.intro rX0_offer_4 (And.intro rX0_offer_5 (And.intro rX0_offer_6 (trivial)))))))
def tX0_miles : List (List am_Op) := [[o_aload 0 1, o_getJ 0 4 3 4, am_nop, am_nop, o_push (.long 310023175) 7, am_nop, am_nop, o_lbinS (fun x y => x - x / y * y) 8, o_push (.long 1771561) 11, am_nop, am_nop, o_lbinS (fun x y => x / y) 12, o_l2i 13, o_iret]]
theorem rX0_miles_0 : am_allR (fun pc o => am_ok am_tb0 cX0_miles RX0 1 (some .int) false pc o ∧ am_mo o) 0 (am_nth [] tX0_miles 0) :=
  And.intro ⟨ok_aload_n dX0_miles_0 rfl rfl, mo_aload⟩ (
  And.intro ⟨ok_getJ dX0_miles_1 hclX0 inWX0 (by decide) (by decide) wd_136 (fun _ _ _ => rfl) rfl, mo_getJ⟩ (
  And.intro ⟨ok_nop, mo_nop⟩ (
  And.intro ⟨ok_nop, mo_nop⟩ (
  And.intro ⟨ok_ldc2 dX0_miles_4 rfl wd_445, mo_push⟩ (
  And.intro ⟨ok_nop, mo_nop⟩ (
  And.intro ⟨ok_nop, mo_nop⟩ (
  And.intro ⟨ok_lrem dX0_miles_7 rfl, mo_lbinS⟩ (
  And.intro ⟨ok_ldc2 dX0_miles_8 rfl wd_456, mo_push⟩ (
  And.intro ⟨ok_nop, mo_nop⟩ (
  And.intro ⟨ok_nop, mo_nop⟩ (
  And.intro ⟨ok_ldiv dX0_miles_11 rfl, mo_lbinS⟩ (
  And.intro ⟨ok_l2i dX0_miles_12 rfl, mo_l2i⟩ (
  And.intro ⟨ok_iret dX0_miles_13 rfl, mo_iret⟩ (
  trivial))))))))))))))
theorem kX0_miles : am_M1 am_tb0 cX0_miles RX0 1 (some .int) false tX0_miles := And.intro rX0_miles_0 (trivial)
def tX0_holeOf : List (List am_Op) := [[o_iload 1 1, o_if (fun x => x < 0) 12 4, am_nop, am_nop, o_iload 1 5, o_aload 0 6, o_getI 0 4 2 9, am_nop, am_nop, o_icmp (fun x y => x < y) 15 12, am_nop, am_nop, o_push (.int (-1000000005)) 14, am_nop, o_iret, o_aload 0 16],
  [o_getJ 0 4 3 19, am_nop, am_nop, o_push (.long 1771561) 22, am_nop, am_nop, o_lbinS (fun x y => x - x / y * y) 23, o_push (.ref 15) 26, am_nop, am_nop, o_iload 1 27, o_lald 54 28, o_lbinS (fun x y => x / y) 29, o_push (.long 11) 32, am_nop, am_nop],
  [o_lbinS (fun x y => x - x / y * y) 33, o_l2i 34, o_istore 2 35, o_iload 2 36, o_push (.int 10) 38, am_nop, o_icmp (fun x y => ¬ x = y) 46 41, am_nop, am_nop, o_push (.int (-1000000005)) 43, am_nop, o_goto 47, am_nop, am_nop, o_iload 2 47, o_iret]]
theorem rX0_holeOf_0 : am_allR (fun pc o => am_ok am_tb0 cX0_holeOf RX0 3 (some .int) false pc o ∧ am_mo o) 0 (am_nth [] tX0_holeOf 0) :=
  And.intro ⟨ok_iload_n dX0_holeOf_0 rfl rfl, mo_iload⟩ (
  And.intro ⟨ok_if_lt dX0_holeOf_1 (by decide) rfl, mo_if⟩ (
  And.intro ⟨ok_nop, mo_nop⟩ (
  And.intro ⟨ok_nop, mo_nop⟩ (
  And.intro ⟨ok_iload_n dX0_holeOf_4 rfl rfl, mo_iload⟩ (
  And.intro ⟨ok_aload_n dX0_holeOf_5 rfl rfl, mo_aload⟩ (
  And.intro ⟨ok_getI dX0_holeOf_6 hclX0 inWX0 (by decide) (by decide) wd_135 (fun _ _ _ => rfl) rfl, mo_getI⟩ (
  And.intro ⟨ok_nop, mo_nop⟩ (
  And.intro ⟨ok_nop, mo_nop⟩ (
  And.intro ⟨ok_icmp_lt dX0_holeOf_9 (by decide) rfl, mo_icmp⟩ (
  And.intro ⟨ok_nop, mo_nop⟩ (
  And.intro ⟨ok_nop, mo_nop⟩ (
  And.intro ⟨ok_ldc dX0_holeOf_12 rfl wd_472, mo_push⟩ (
  And.intro ⟨ok_nop, mo_nop⟩ (
  And.intro ⟨ok_iret dX0_holeOf_14 rfl, mo_iret⟩ (
  And.intro ⟨ok_aload_n dX0_holeOf_15 rfl rfl, mo_aload⟩ (
  trivial))))))))))))))))
theorem rX0_holeOf_1 : am_allR (fun pc o => am_ok am_tb0 cX0_holeOf RX0 3 (some .int) false pc o ∧ am_mo o) 16 (am_nth [] tX0_holeOf 1) :=
  And.intro ⟨ok_getJ dX0_holeOf_16 hclX0 inWX0 (by decide) (by decide) wd_136 (fun _ _ _ => rfl) rfl, mo_getJ⟩ (
  And.intro ⟨ok_nop, mo_nop⟩ (
  And.intro ⟨ok_nop, mo_nop⟩ (
  And.intro ⟨ok_ldc2 dX0_holeOf_19 rfl wd_456, mo_push⟩ (
  And.intro ⟨ok_nop, mo_nop⟩ (
  And.intro ⟨ok_nop, mo_nop⟩ (
  And.intro ⟨ok_lrem dX0_holeOf_22 rfl, mo_lbinS⟩ (
  And.intro ⟨ok_digits dX0_holeOf_23 wd_447 rfl, mo_push⟩ (
  And.intro ⟨ok_nop, mo_nop⟩ (
  And.intro ⟨ok_nop, mo_nop⟩ (
  And.intro ⟨ok_iload_n dX0_holeOf_26 rfl rfl, mo_iload⟩ (
  And.intro ⟨ok_laldF dX0_holeOf_27 rfl, mo_lald⟩ (
  And.intro ⟨ok_ldiv dX0_holeOf_28 rfl, mo_lbinS⟩ (
  And.intro ⟨ok_ldc2 dX0_holeOf_29 rfl wd_473, mo_push⟩ (
  And.intro ⟨ok_nop, mo_nop⟩ (
  And.intro ⟨ok_nop, mo_nop⟩ (
  trivial))))))))))))))))
theorem rX0_holeOf_2 : am_allR (fun pc o => am_ok am_tb0 cX0_holeOf RX0 3 (some .int) false pc o ∧ am_mo o) 32 (am_nth [] tX0_holeOf 2) :=
  And.intro ⟨ok_lrem dX0_holeOf_32 rfl, mo_lbinS⟩ (
  And.intro ⟨ok_l2i dX0_holeOf_33 rfl, mo_l2i⟩ (
  And.intro ⟨ok_istore_n dX0_holeOf_34 rfl (by decide) rfl, mo_istore⟩ (
  And.intro ⟨ok_iload_n dX0_holeOf_35 rfl rfl, mo_iload⟩ (
  And.intro ⟨ok_bipush dX0_holeOf_36 rfl bi_10, mo_push⟩ (
  And.intro ⟨ok_nop, mo_nop⟩ (
  And.intro ⟨ok_icmp_ne dX0_holeOf_38 (by decide) rfl, mo_icmp⟩ (
  And.intro ⟨ok_nop, mo_nop⟩ (
  And.intro ⟨ok_nop, mo_nop⟩ (
  And.intro ⟨ok_ldc dX0_holeOf_41 rfl wd_472, mo_push⟩ (
  And.intro ⟨ok_nop, mo_nop⟩ (
  And.intro ⟨ok_goto dX0_holeOf_43 (by decide), mo_goto⟩ (
  And.intro ⟨ok_nop, mo_nop⟩ (
  And.intro ⟨ok_nop, mo_nop⟩ (
  And.intro ⟨ok_iload_n dX0_holeOf_46 rfl rfl, mo_iload⟩ (
  And.intro ⟨ok_iret dX0_holeOf_47 rfl, mo_iret⟩ (
  trivial))))))))))))))))
theorem kX0_holeOf : am_M1 am_tb0 cX0_holeOf RX0 3 (some .int) false tX0_holeOf := And.intro rX0_holeOf_0 (And.intro rX0_holeOf_1 (And.intro rX0_holeOf_2 (trivial)))
def tX1_init : List (List am_Op) := [[o_aload 0 1, o_oinit 4, am_nop, am_nop, o_aload 0 5, o_push (.int 0) 6, o_putI 1 5 0 9, am_nop, am_nop, o_aload 0 10, o_push (.int 0) 11, o_putI 1 5 1 14, am_nop, am_nop, o_aload 0 15, o_push (.int 0) 16],
  [o_putI 1 5 2 19, am_nop, am_nop, o_aload 0 20, o_push (.int 0) 21, o_putI 1 5 3 24, am_nop, am_nop, o_aload 0 25, o_push (.int 0) 26, o_putI 1 5 4 29, am_nop, am_nop, o_ret, am_nop, am_nop]]
theorem rX1_init_0 : am_allR (fun pc o => am_ok am_tb0 cX1_init RX1 1 none true pc o ∧ am_mo o) 0 (am_nth [] tX1_init 0) :=
  And.intro ⟨ok_aload_n dX1_init_0 rfl rfl, mo_aload⟩ (
  And.intro ⟨ok_oinit dX1_init_1 wd_40 wd_24 wd_25 rfl, mo_oinit⟩ (
  And.intro ⟨ok_nop, mo_nop⟩ (
  And.intro ⟨ok_nop, mo_nop⟩ (
  And.intro ⟨ok_aload_n dX1_init_4 rfl rfl, mo_aload⟩ (
  And.intro ⟨ok_iconst dX1_init_5 rfl ic_0, mo_push⟩ (
  And.intro ⟨ok_putI dX1_init_6 hclX1 inWX1 tyX1_ok nmX1 (by decide) (by decide) wd_41 rfl (tyX1_ok 0 (by decide)) (fun _ _ _ => rfl) rfl, mo_putI⟩ (
  And.intro ⟨ok_nop, mo_nop⟩ (
  And.intro ⟨ok_nop, mo_nop⟩ (
  And.intro ⟨ok_aload_n dX1_init_9 rfl rfl, mo_aload⟩ (
  And.intro ⟨ok_iconst dX1_init_10 rfl ic_0, mo_push⟩ (
  And.intro ⟨ok_putI dX1_init_11 hclX1 inWX1 tyX1_ok nmX1 (by decide) (by decide) wd_44 rfl (tyX1_ok 1 (by decide)) (fun _ _ _ => rfl) rfl, mo_putI⟩ (
  And.intro ⟨ok_nop, mo_nop⟩ (
  And.intro ⟨ok_nop, mo_nop⟩ (
  And.intro ⟨ok_aload_n dX1_init_14 rfl rfl, mo_aload⟩ (
  And.intro ⟨ok_iconst dX1_init_15 rfl ic_0, mo_push⟩ (
  trivial))))))))))))))))
theorem rX1_init_1 : am_allR (fun pc o => am_ok am_tb0 cX1_init RX1 1 none true pc o ∧ am_mo o) 16 (am_nth [] tX1_init 1) :=
  And.intro ⟨ok_putI dX1_init_16 hclX1 inWX1 tyX1_ok nmX1 (by decide) (by decide) wd_47 rfl (tyX1_ok 2 (by decide)) (fun _ _ _ => rfl) rfl, mo_putI⟩ (
  And.intro ⟨ok_nop, mo_nop⟩ (
  And.intro ⟨ok_nop, mo_nop⟩ (
  And.intro ⟨ok_aload_n dX1_init_19 rfl rfl, mo_aload⟩ (
  And.intro ⟨ok_iconst dX1_init_20 rfl ic_0, mo_push⟩ (
  And.intro ⟨ok_putI dX1_init_21 hclX1 inWX1 tyX1_ok nmX1 (by decide) (by decide) wd_50 rfl (tyX1_ok 3 (by decide)) (fun _ _ _ => rfl) rfl, mo_putI⟩ (
  And.intro ⟨ok_nop, mo_nop⟩ (
  And.intro ⟨ok_nop, mo_nop⟩ (
  And.intro ⟨ok_aload_n dX1_init_24 rfl rfl, mo_aload⟩ (
  And.intro ⟨ok_iconst dX1_init_25 rfl ic_0, mo_push⟩ (
  And.intro ⟨ok_putI dX1_init_26 hclX1 inWX1 tyX1_ok nmX1 (by decide) (by decide) wd_52 rfl (tyX1_ok 4 (by decide)) (fun _ _ _ => rfl) rfl, mo_putI⟩ (
  And.intro ⟨ok_nop, mo_nop⟩ (
  And.intro ⟨ok_nop, mo_nop⟩ (
  And.intro ⟨ok_ret dX1_init_29 rfl, mo_ret⟩ (
  And.intro ⟨ok_nop, mo_nop⟩ (
  And.intro ⟨ok_nop, mo_nop⟩ (
  trivial))))))))))))))))
theorem kX1_init : am_M1 am_tb0 cX1_init RX1 1 none true tX1_init := And.intro rX1_init_0 (And.intro rX1_init_1 (trivial))
def tX1_start : List (List am_Op) := [[o_aload 0 1, o_iload 1 2, o_putI 1 5 0 5, am_nop, am_nop, o_aload 0 6, o_iload 2 7, o_putI 1 5 1 10, am_nop, am_nop, o_aload 0 11, o_iload 3 12, o_putI 1 5 2 15, am_nop, am_nop, o_aload 0 16],
  [o_iload 4 18, am_nop, o_putI 1 5 3 21, am_nop, am_nop, o_aload 0 22, o_push (.int 0) 23, o_putI 1 5 4 26, am_nop, am_nop, o_ret, am_nop, am_nop, am_nop, am_nop, am_nop]]
theorem rX1_start_0 : am_allR (fun pc o => am_ok am_tb0 cX1_start RX1 5 none false pc o ∧ am_mo o) 0 (am_nth [] tX1_start 0) :=
  And.intro ⟨ok_aload_n dX1_start_0 rfl rfl, mo_aload⟩ (
  And.intro ⟨ok_iload_n dX1_start_1 rfl rfl, mo_iload⟩ (
  And.intro ⟨ok_putI dX1_start_2 hclX1 inWX1 tyX1_ok nmX1 (by decide) (by decide) wd_41 rfl (tyX1_ok 0 (by decide)) (fun _ _ _ => rfl) rfl, mo_putI⟩ (
  And.intro ⟨ok_nop, mo_nop⟩ (
  And.intro ⟨ok_nop, mo_nop⟩ (
  And.intro ⟨ok_aload_n dX1_start_5 rfl rfl, mo_aload⟩ (
  And.intro ⟨ok_iload_n dX1_start_6 rfl rfl, mo_iload⟩ (
  And.intro ⟨ok_putI dX1_start_7 hclX1 inWX1 tyX1_ok nmX1 (by decide) (by decide) wd_44 rfl (tyX1_ok 1 (by decide)) (fun _ _ _ => rfl) rfl, mo_putI⟩ (
  And.intro ⟨ok_nop, mo_nop⟩ (
  And.intro ⟨ok_nop, mo_nop⟩ (
  And.intro ⟨ok_aload_n dX1_start_10 rfl rfl, mo_aload⟩ (
  And.intro ⟨ok_iload_n dX1_start_11 rfl rfl, mo_iload⟩ (
  And.intro ⟨ok_putI dX1_start_12 hclX1 inWX1 tyX1_ok nmX1 (by decide) (by decide) wd_47 rfl (tyX1_ok 2 (by decide)) (fun _ _ _ => rfl) rfl, mo_putI⟩ (
  And.intro ⟨ok_nop, mo_nop⟩ (
  And.intro ⟨ok_nop, mo_nop⟩ (
  And.intro ⟨ok_aload_n dX1_start_15 rfl rfl, mo_aload⟩ (
  trivial))))))))))))))))
theorem rX1_start_1 : am_allR (fun pc o => am_ok am_tb0 cX1_start RX1 5 none false pc o ∧ am_mo o) 16 (am_nth [] tX1_start 1) :=
  And.intro ⟨ok_iload dX1_start_16 rfl, mo_iload⟩ (
  And.intro ⟨ok_nop, mo_nop⟩ (
  And.intro ⟨ok_putI dX1_start_18 hclX1 inWX1 tyX1_ok nmX1 (by decide) (by decide) wd_50 rfl (tyX1_ok 3 (by decide)) (fun _ _ _ => rfl) rfl, mo_putI⟩ (
  And.intro ⟨ok_nop, mo_nop⟩ (
  And.intro ⟨ok_nop, mo_nop⟩ (
  And.intro ⟨ok_aload_n dX1_start_21 rfl rfl, mo_aload⟩ (
  And.intro ⟨ok_iconst dX1_start_22 rfl ic_0, mo_push⟩ (
  And.intro ⟨ok_putI dX1_start_23 hclX1 inWX1 tyX1_ok nmX1 (by decide) (by decide) wd_52 rfl (tyX1_ok 4 (by decide)) (fun _ _ _ => rfl) rfl, mo_putI⟩ (
  And.intro ⟨ok_nop, mo_nop⟩ (
  And.intro ⟨ok_nop, mo_nop⟩ (
  And.intro ⟨ok_ret dX1_start_26 rfl, mo_ret⟩ (
  And.intro ⟨ok_nop, mo_nop⟩ (
  And.intro ⟨ok_nop, mo_nop⟩ (
  And.intro ⟨ok_nop, mo_nop⟩ (
  And.intro ⟨ok_nop, mo_nop⟩ (
  And.intro ⟨ok_nop, mo_nop⟩ (
  trivial))))))))))))))))
theorem kX1_start : am_M1 am_tb0 cX1_start RX1 5 none false tX1_start := And.intro rX1_start_0 (And.intro rX1_start_1 (trivial))
def tX1_become : List (List am_Op) := [[o_aload 0 1, o_aload 1 2, o_getI 1 5 0 5, am_nop, am_nop, o_aload 1 6, o_getI 1 5 1 9, am_nop, am_nop, o_aload 1 10, o_getI 1 5 2 13, am_nop, am_nop, o_aload 1 14, o_getI 1 5 3 17, am_nop],
  [am_nop, o_cv 1 5 7 5 0 4 20, am_nop, am_nop, o_aload 0 21, o_aload 1 22, o_getI 1 5 4 25, am_nop, am_nop, o_putI 1 5 4 28, am_nop, am_nop, o_ret, am_nop, am_nop, am_nop]]
theorem rX1_become_0 : am_allR (fun pc o => am_ok am_tb0 cX1_become RX1 2 none false pc o ∧ am_mo o) 0 (am_nth [] tX1_become 0) :=
  And.intro ⟨ok_aload_n dX1_become_0 rfl rfl, mo_aload⟩ (
  And.intro ⟨ok_aload_n dX1_become_1 rfl rfl, mo_aload⟩ (
  And.intro ⟨ok_getI dX1_become_2 hclX1 inWX1 (by decide) (by decide) wd_41 (fun _ _ _ => rfl) rfl, mo_getI⟩ (
  And.intro ⟨ok_nop, mo_nop⟩ (
  And.intro ⟨ok_nop, mo_nop⟩ (
  And.intro ⟨ok_aload_n dX1_become_5 rfl rfl, mo_aload⟩ (
  And.intro ⟨ok_getI dX1_become_6 hclX1 inWX1 (by decide) (by decide) wd_44 (fun _ _ _ => rfl) rfl, mo_getI⟩ (
  And.intro ⟨ok_nop, mo_nop⟩ (
  And.intro ⟨ok_nop, mo_nop⟩ (
  And.intro ⟨ok_aload_n dX1_become_9 rfl rfl, mo_aload⟩ (
  And.intro ⟨ok_getI dX1_become_10 hclX1 inWX1 (by decide) (by decide) wd_47 (fun _ _ _ => rfl) rfl, mo_getI⟩ (
  And.intro ⟨ok_nop, mo_nop⟩ (
  And.intro ⟨ok_nop, mo_nop⟩ (
  And.intro ⟨ok_aload_n dX1_become_13 rfl rfl, mo_aload⟩ (
  And.intro ⟨ok_getI dX1_become_14 hclX1 inWX1 (by decide) (by decide) wd_50 (fun _ _ _ => rfl) rfl, mo_getI⟩ (
  And.intro ⟨ok_nop, mo_nop⟩ (
  trivial))))))))))))))))
theorem rX1_become_1 : am_allR (fun pc o => am_ok am_tb0 cX1_become RX1 2 none false pc o ∧ am_mo o) 16 (am_nth [] tX1_become 1) :=
  And.intro ⟨ok_nop, mo_nop⟩ (
  And.intro ⟨ok_cv (z := 7) dX1_become_17 hclX1 (by decide) wd_509 wd_286 wd_287 wd_3 wd_288 rfl (by decide) ⟨rfl, hy_X1_start⟩ rfl, mo_cv⟩ (
  And.intro ⟨ok_nop, mo_nop⟩ (
  And.intro ⟨ok_nop, mo_nop⟩ (
  And.intro ⟨ok_aload_n dX1_become_20 rfl rfl, mo_aload⟩ (
  And.intro ⟨ok_aload_n dX1_become_21 rfl rfl, mo_aload⟩ (
  And.intro ⟨ok_getI dX1_become_22 hclX1 inWX1 (by decide) (by decide) wd_52 (fun _ _ _ => rfl) rfl, mo_getI⟩ (
  And.intro ⟨ok_nop, mo_nop⟩ (
  And.intro ⟨ok_nop, mo_nop⟩ (
  And.intro ⟨ok_putI dX1_become_25 hclX1 inWX1 tyX1_ok nmX1 (by decide) (by decide) wd_52 rfl (tyX1_ok 4 (by decide)) (fun _ _ _ => rfl) rfl, mo_putI⟩ (
  And.intro ⟨ok_nop, mo_nop⟩ (
  And.intro ⟨ok_nop, mo_nop⟩ (
  And.intro ⟨ok_ret dX1_become_28 rfl, mo_ret⟩ (
  And.intro ⟨ok_nop, mo_nop⟩ (
  And.intro ⟨ok_nop, mo_nop⟩ (
  And.intro ⟨ok_nop, mo_nop⟩ (
  trivial))))))))))))))))
theorem kX1_become : am_M1 am_tb0 cX1_become RX1 2 none false tX1_become := And.intro rX1_become_0 (And.intro rX1_become_1 (trivial))
def tX1_part : List (List am_Op) := [[o_iload 1 1, o_sw [(0, 36), (1, 41), (2, 46), (3, 51), (4, 56)] 61, am_nop, am_nop, am_nop, am_nop, am_nop, am_nop, am_nop, am_nop, am_nop, am_nop, am_nop, am_nop, am_nop, am_nop],
  [am_nop, am_nop, am_nop, am_nop, am_nop, am_nop, am_nop, am_nop, am_nop, am_nop, am_nop, am_nop, am_nop, am_nop, am_nop, am_nop],
  [am_nop, am_nop, am_nop, am_nop, o_aload 0 37, o_getI 1 5 0 40, am_nop, am_nop, o_iret, o_aload 0 42, o_getI 1 5 1 45, am_nop, am_nop, o_iret, o_aload 0 47, o_getI 1 5 2 50],
  [am_nop, am_nop, o_iret, o_aload 0 52, o_getI 1 5 3 55, am_nop, am_nop, o_iret, o_aload 0 57, o_getI 1 5 4 60, am_nop, am_nop, o_iret, o_aload 0 62, o_cv 1 5 12 1 0 0 65, am_nop],
  [am_nop, o_iret, am_nop, am_nop, am_nop, am_nop, am_nop, am_nop, am_nop, am_nop, am_nop, am_nop, am_nop, am_nop, am_nop, am_nop]]
theorem rX1_part_0 : am_allR (fun pc o => am_ok am_tb0 cX1_part RX1 2 (some .int) false pc o ∧ am_mo o) 0 (am_nth [] tX1_part 0) :=
  And.intro ⟨ok_iload_n dX1_part_0 rfl rfl, mo_iload⟩ (
  And.intro ⟨ok_table dX1_part_1 (by decide) (by decide +kernel) (by decide +kernel), mo_sw⟩ (
  And.intro ⟨ok_nop, mo_nop⟩ (
  And.intro ⟨ok_nop, mo_nop⟩ (
  And.intro ⟨ok_nop, mo_nop⟩ (
  And.intro ⟨ok_nop, mo_nop⟩ (
  And.intro ⟨ok_nop, mo_nop⟩ (
  And.intro ⟨ok_nop, mo_nop⟩ (
  And.intro ⟨ok_nop, mo_nop⟩ (
  And.intro ⟨ok_nop, mo_nop⟩ (
  And.intro ⟨ok_nop, mo_nop⟩ (
  And.intro ⟨ok_nop, mo_nop⟩ (
  And.intro ⟨ok_nop, mo_nop⟩ (
  And.intro ⟨ok_nop, mo_nop⟩ (
  And.intro ⟨ok_nop, mo_nop⟩ (
  And.intro ⟨ok_nop, mo_nop⟩ (
  trivial))))))))))))))))
theorem rX1_part_1 : am_allR (fun pc o => am_ok am_tb0 cX1_part RX1 2 (some .int) false pc o ∧ am_mo o) 16 (am_nth [] tX1_part 1) :=
  And.intro ⟨ok_nop, mo_nop⟩ (
  And.intro ⟨ok_nop, mo_nop⟩ (
  And.intro ⟨ok_nop, mo_nop⟩ (
  And.intro ⟨ok_nop, mo_nop⟩ (
  And.intro ⟨ok_nop, mo_nop⟩ (
  And.intro ⟨ok_nop, mo_nop⟩ (
  And.intro ⟨ok_nop, mo_nop⟩ (
  And.intro ⟨ok_nop, mo_nop⟩ (
  And.intro ⟨ok_nop, mo_nop⟩ (
  And.intro ⟨ok_nop, mo_nop⟩ (
  And.intro ⟨ok_nop, mo_nop⟩ (
  And.intro ⟨ok_nop, mo_nop⟩ (
  And.intro ⟨ok_nop, mo_nop⟩ (
  And.intro ⟨ok_nop, mo_nop⟩ (
  And.intro ⟨ok_nop, mo_nop⟩ (
  And.intro ⟨ok_nop, mo_nop⟩ (
  trivial))))))))))))))))
theorem rX1_part_2 : am_allR (fun pc o => am_ok am_tb0 cX1_part RX1 2 (some .int) false pc o ∧ am_mo o) 32 (am_nth [] tX1_part 2) :=
  And.intro ⟨ok_nop, mo_nop⟩ (
  And.intro ⟨ok_nop, mo_nop⟩ (
  And.intro ⟨ok_nop, mo_nop⟩ (
  And.intro ⟨ok_nop, mo_nop⟩ (
  And.intro ⟨ok_aload_n dX1_part_36 rfl rfl, mo_aload⟩ (
  And.intro ⟨ok_getI dX1_part_37 hclX1 inWX1 (by decide) (by decide) wd_41 (fun _ _ _ => rfl) rfl, mo_getI⟩ (
  And.intro ⟨ok_nop, mo_nop⟩ (
  And.intro ⟨ok_nop, mo_nop⟩ (
  And.intro ⟨ok_iret dX1_part_40 rfl, mo_iret⟩ (
  And.intro ⟨ok_aload_n dX1_part_41 rfl rfl, mo_aload⟩ (
  And.intro ⟨ok_getI dX1_part_42 hclX1 inWX1 (by decide) (by decide) wd_44 (fun _ _ _ => rfl) rfl, mo_getI⟩ (
  And.intro ⟨ok_nop, mo_nop⟩ (
  And.intro ⟨ok_nop, mo_nop⟩ (
  And.intro ⟨ok_iret dX1_part_45 rfl, mo_iret⟩ (
  And.intro ⟨ok_aload_n dX1_part_46 rfl rfl, mo_aload⟩ (
  And.intro ⟨ok_getI dX1_part_47 hclX1 inWX1 (by decide) (by decide) wd_47 (fun _ _ _ => rfl) rfl, mo_getI⟩ (
  trivial))))))))))))))))
theorem rX1_part_3 : am_allR (fun pc o => am_ok am_tb0 cX1_part RX1 2 (some .int) false pc o ∧ am_mo o) 48 (am_nth [] tX1_part 3) :=
  And.intro ⟨ok_nop, mo_nop⟩ (
  And.intro ⟨ok_nop, mo_nop⟩ (
  And.intro ⟨ok_iret dX1_part_50 rfl, mo_iret⟩ (
  And.intro ⟨ok_aload_n dX1_part_51 rfl rfl, mo_aload⟩ (
  And.intro ⟨ok_getI dX1_part_52 hclX1 inWX1 (by decide) (by decide) wd_50 (fun _ _ _ => rfl) rfl, mo_getI⟩ (
  And.intro ⟨ok_nop, mo_nop⟩ (
  And.intro ⟨ok_nop, mo_nop⟩ (
  And.intro ⟨ok_iret dX1_part_55 rfl, mo_iret⟩ (
  And.intro ⟨ok_aload_n dX1_part_56 rfl rfl, mo_aload⟩ (
  And.intro ⟨ok_getI dX1_part_57 hclX1 inWX1 (by decide) (by decide) wd_52 (fun _ _ _ => rfl) rfl, mo_getI⟩ (
  And.intro ⟨ok_nop, mo_nop⟩ (
  And.intro ⟨ok_nop, mo_nop⟩ (
  And.intro ⟨ok_iret dX1_part_60 rfl, mo_iret⟩ (
  And.intro ⟨ok_aload_n dX1_part_61 rfl rfl, mo_aload⟩ (
  And.intro ⟨ok_cv (z := 12) dX1_part_62 hclX1 (by decide) wd_301 wd_302 wd_303 wd_3 wd_304 rfl (by decide) ⟨rfl, hy_X1_worth⟩ rfl, mo_cv⟩ (
  And.intro ⟨ok_nop, mo_nop⟩ (
  trivial))))))))))))))))
theorem rX1_part_4 : am_allR (fun pc o => am_ok am_tb0 cX1_part RX1 2 (some .int) false pc o ∧ am_mo o) 64 (am_nth [] tX1_part 4) :=
  And.intro ⟨ok_nop, mo_nop⟩ (
  And.intro ⟨ok_iret dX1_part_65 rfl, mo_iret⟩ (
  And.intro ⟨ok_nop, mo_nop⟩ (
  And.intro ⟨ok_nop, mo_nop⟩ (
  And.intro ⟨ok_nop, mo_nop⟩ (
  And.intro ⟨ok_nop, mo_nop⟩ (
  And.intro ⟨ok_nop, mo_nop⟩ (
  And.intro ⟨ok_nop, mo_nop⟩ (
  And.intro ⟨ok_nop, mo_nop⟩ (
  And.intro ⟨ok_nop, mo_nop⟩ (
  And.intro ⟨ok_nop, mo_nop⟩ (
  And.intro ⟨ok_nop, mo_nop⟩ (
  And.intro ⟨ok_nop, mo_nop⟩ (
  And.intro ⟨ok_nop, mo_nop⟩ (
  And.intro ⟨ok_nop, mo_nop⟩ (
  And.intro ⟨ok_nop, mo_nop⟩ (
  trivial))))))))))))))))
theorem kX1_part : am_M1 am_tb0 cX1_part RX1 2 (some .int) false tX1_part := And.intro rX1_part_0 (And.intro rX1_part_1 (And.intro rX1_part_2 (And.intro rX1_part_3 (And.intro rX1_part_4 (trivial)))))
def tX1_change : List (List am_Op) := [[o_iload 1 1, o_sw [(1, 32), (2, 40), (3, 48), (4, 56)] 64, am_nop, am_nop, am_nop, am_nop, am_nop, am_nop, am_nop, am_nop, am_nop, am_nop, am_nop, am_nop, am_nop, am_nop],
  [am_nop, am_nop, am_nop, am_nop, am_nop, am_nop, am_nop, am_nop, am_nop, am_nop, am_nop, am_nop, am_nop, am_nop, am_nop, am_nop],
  [o_aload 0 33, o_iload 2 34, o_putI 1 5 1 37, am_nop, am_nop, o_goto 64, am_nop, am_nop, o_aload 0 41, o_iload 2 42, o_putI 1 5 2 45, am_nop, am_nop, o_goto 64, am_nop, am_nop],
  [o_aload 0 49, o_iload 2 50, o_putI 1 5 3 53, am_nop, am_nop, o_goto 64, am_nop, am_nop, o_aload 0 57, o_iload 2 58, o_putI 1 5 4 61, am_nop, am_nop, o_goto 64, am_nop, am_nop],
  [o_ret, am_nop, am_nop, am_nop, am_nop, am_nop, am_nop, am_nop, am_nop, am_nop, am_nop, am_nop, am_nop, am_nop, am_nop, am_nop]]
theorem rX1_change_0 : am_allR (fun pc o => am_ok am_tb0 cX1_change RX1 3 none false pc o ∧ am_mo o) 0 (am_nth [] tX1_change 0) :=
  And.intro ⟨ok_iload_n dX1_change_0 rfl rfl, mo_iload⟩ (
  And.intro ⟨ok_table dX1_change_1 (by decide) (by decide +kernel) (by decide +kernel), mo_sw⟩ (
  And.intro ⟨ok_nop, mo_nop⟩ (
  And.intro ⟨ok_nop, mo_nop⟩ (
  And.intro ⟨ok_nop, mo_nop⟩ (
  And.intro ⟨ok_nop, mo_nop⟩ (
  And.intro ⟨ok_nop, mo_nop⟩ (
  And.intro ⟨ok_nop, mo_nop⟩ (
  And.intro ⟨ok_nop, mo_nop⟩ (
  And.intro ⟨ok_nop, mo_nop⟩ (
  And.intro ⟨ok_nop, mo_nop⟩ (
  And.intro ⟨ok_nop, mo_nop⟩ (
  And.intro ⟨ok_nop, mo_nop⟩ (
  And.intro ⟨ok_nop, mo_nop⟩ (
  And.intro ⟨ok_nop, mo_nop⟩ (
  And.intro ⟨ok_nop, mo_nop⟩ (
  trivial))))))))))))))))
theorem rX1_change_1 : am_allR (fun pc o => am_ok am_tb0 cX1_change RX1 3 none false pc o ∧ am_mo o) 16 (am_nth [] tX1_change 1) :=
  And.intro ⟨ok_nop, mo_nop⟩ (
  And.intro ⟨ok_nop, mo_nop⟩ (
  And.intro ⟨ok_nop, mo_nop⟩ (
  And.intro ⟨ok_nop, mo_nop⟩ (
  And.intro ⟨ok_nop, mo_nop⟩ (
  And.intro ⟨ok_nop, mo_nop⟩ (
  And.intro ⟨ok_nop, mo_nop⟩ (
  And.intro ⟨ok_nop, mo_nop⟩ (
  And.intro ⟨ok_nop, mo_nop⟩ (
  And.intro ⟨ok_nop, mo_nop⟩ (
  And.intro ⟨ok_nop, mo_nop⟩ (
  And.intro ⟨ok_nop, mo_nop⟩ (
  And.intro ⟨ok_nop, mo_nop⟩ (
  And.intro ⟨ok_nop, mo_nop⟩ (
  And.intro ⟨ok_nop, mo_nop⟩ (
  And.intro ⟨ok_nop, mo_nop⟩ (
  trivial))))))))))))))))
theorem rX1_change_2 : am_allR (fun pc o => am_ok am_tb0 cX1_change RX1 3 none false pc o ∧ am_mo o) 32 (am_nth [] tX1_change 2) :=
  And.intro ⟨ok_aload_n dX1_change_32 rfl rfl, mo_aload⟩ (
  And.intro ⟨ok_iload_n dX1_change_33 rfl rfl, mo_iload⟩ (
  And.intro ⟨ok_putI dX1_change_34 hclX1 inWX1 tyX1_ok nmX1 (by decide) (by decide) wd_44 rfl (tyX1_ok 1 (by decide)) (fun _ _ _ => rfl) rfl, mo_putI⟩ (
  And.intro ⟨ok_nop, mo_nop⟩ (
  And.intro ⟨ok_nop, mo_nop⟩ (
  And.intro ⟨ok_goto dX1_change_37 (by decide), mo_goto⟩ (
  And.intro ⟨ok_nop, mo_nop⟩ (
  And.intro ⟨ok_nop, mo_nop⟩ (
  And.intro ⟨ok_aload_n dX1_change_40 rfl rfl, mo_aload⟩ (
  And.intro ⟨ok_iload_n dX1_change_41 rfl rfl, mo_iload⟩ (
  And.intro ⟨ok_putI dX1_change_42 hclX1 inWX1 tyX1_ok nmX1 (by decide) (by decide) wd_47 rfl (tyX1_ok 2 (by decide)) (fun _ _ _ => rfl) rfl, mo_putI⟩ (
  And.intro ⟨ok_nop, mo_nop⟩ (
  And.intro ⟨ok_nop, mo_nop⟩ (
  And.intro ⟨ok_goto dX1_change_45 (by decide), mo_goto⟩ (
  And.intro ⟨ok_nop, mo_nop⟩ (
  And.intro ⟨ok_nop, mo_nop⟩ (
  trivial))))))))))))))))
theorem rX1_change_3 : am_allR (fun pc o => am_ok am_tb0 cX1_change RX1 3 none false pc o ∧ am_mo o) 48 (am_nth [] tX1_change 3) :=
  And.intro ⟨ok_aload_n dX1_change_48 rfl rfl, mo_aload⟩ (
  And.intro ⟨ok_iload_n dX1_change_49 rfl rfl, mo_iload⟩ (
  And.intro ⟨ok_putI dX1_change_50 hclX1 inWX1 tyX1_ok nmX1 (by decide) (by decide) wd_50 rfl (tyX1_ok 3 (by decide)) (fun _ _ _ => rfl) rfl, mo_putI⟩ (
  And.intro ⟨ok_nop, mo_nop⟩ (
  And.intro ⟨ok_nop, mo_nop⟩ (
  And.intro ⟨ok_goto dX1_change_53 (by decide), mo_goto⟩ (
  And.intro ⟨ok_nop, mo_nop⟩ (
  And.intro ⟨ok_nop, mo_nop⟩ (
  And.intro ⟨ok_aload_n dX1_change_56 rfl rfl, mo_aload⟩ (
  And.intro ⟨ok_iload_n dX1_change_57 rfl rfl, mo_iload⟩ (
  And.intro ⟨ok_putI dX1_change_58 hclX1 inWX1 tyX1_ok nmX1 (by decide) (by decide) wd_52 rfl (tyX1_ok 4 (by decide)) (fun _ _ _ => rfl) rfl, mo_putI⟩ (
  And.intro ⟨ok_nop, mo_nop⟩ (
  And.intro ⟨ok_nop, mo_nop⟩ (
  And.intro ⟨ok_goto dX1_change_61 (by decide), mo_goto⟩ (
  And.intro ⟨ok_nop, mo_nop⟩ (
  And.intro ⟨ok_nop, mo_nop⟩ (
  trivial))))))))))))))))
theorem rX1_change_4 : am_allR (fun pc o => am_ok am_tb0 cX1_change RX1 3 none false pc o ∧ am_mo o) 64 (am_nth [] tX1_change 4) :=
  And.intro ⟨ok_ret dX1_change_64 rfl, mo_ret⟩ (
  And.intro ⟨ok_nop, mo_nop⟩ (
  And.intro ⟨ok_nop, mo_nop⟩ (
  And.intro ⟨ok_nop, mo_nop⟩ (
  And.intro ⟨ok_nop, mo_nop⟩ (
  And.intro ⟨ok_nop, mo_nop⟩ (
  And.intro ⟨ok_nop, mo_nop⟩ (
  And.intro ⟨ok_nop, mo_nop⟩ (
  And.intro ⟨ok_nop, mo_nop⟩ (
  And.intro ⟨ok_nop, mo_nop⟩ (
  And.intro ⟨ok_nop, mo_nop⟩ (
  And.intro ⟨ok_nop, mo_nop⟩ (
  And.intro ⟨ok_nop, mo_nop⟩ (
  And.intro ⟨ok_nop, mo_nop⟩ (
  And.intro ⟨ok_nop, mo_nop⟩ (
  And.intro ⟨ok_nop, mo_nop⟩ (
  trivial))))))))))))))))
theorem kX1_change : am_M1 am_tb0 cX1_change RX1 3 none false tX1_change := And.intro rX1_change_0 (And.intro rX1_change_1 (And.intro rX1_change_2 (And.intro rX1_change_3 (And.intro rX1_change_4 (trivial)))))
def tX1_isOf : List (List am_Op) := [[o_aload 0 1, o_getI 1 5 0 4, am_nop, am_nop, o_istore 2 5, o_push (.int 0) 6, o_istore 3 7, o_iload 3 8, o_push (.ref 14) 11, am_nop, am_nop, o_alen 50 12, o_icmp (fun x y => y ≤ x) 46 15, am_nop, am_nop, o_iload 2 16],
  [o_if (fun x => x < 0) 46 19, am_nop, am_nop, o_iload 2 20, o_push (.ref 14) 23, am_nop, am_nop, o_alen 50 24, o_icmp (fun x y => y ≤ x) 46 27, am_nop, am_nop, o_iload 2 28, o_iload 1 29, o_icmp (fun x y => ¬ x = y) 34 32, am_nop, am_nop],
  [o_push (.int 1) 33, o_nret .boolean, o_push (.ref 14) 37, am_nop, am_nop, o_iload 2 38, o_iald 50 39, o_istore 2 40, o_iinc 3 1 43, am_nop, am_nop, o_goto 7, am_nop, am_nop, o_push (.int 0) 47, o_nret .boolean]]
theorem rX1_isOf_0 : am_allR (fun pc o => am_ok am_tb0 cX1_isOf RX1 4 (some .boolean) false pc o ∧ am_mo o) 0 (am_nth [] tX1_isOf 0) :=
  And.intro ⟨ok_aload_n dX1_isOf_0 rfl rfl, mo_aload⟩ (
  And.intro ⟨ok_getI dX1_isOf_1 hclX1 inWX1 (by decide) (by decide) wd_41 (fun _ _ _ => rfl) rfl, mo_getI⟩ (
  And.intro ⟨ok_nop, mo_nop⟩ (
  And.intro ⟨ok_nop, mo_nop⟩ (
  And.intro ⟨ok_istore_n dX1_isOf_4 rfl (by decide) rfl, mo_istore⟩ (
  And.intro ⟨ok_iconst dX1_isOf_5 rfl ic_0, mo_push⟩ (
  And.intro ⟨ok_istore_n dX1_isOf_6 rfl (by decide) rfl, mo_istore⟩ (
  And.intro ⟨ok_iload_n dX1_isOf_7 rfl rfl, mo_iload⟩ (
  And.intro ⟨ok_aboveN dX1_isOf_8 wn_313 rfl, mo_push⟩ (
  And.intro ⟨ok_nop, mo_nop⟩ (
  And.intro ⟨ok_nop, mo_nop⟩ (
  And.intro ⟨ok_alenFI dX1_isOf_11 rfl, mo_alen⟩ (
  And.intro ⟨ok_icmp_ge dX1_isOf_12 (by decide) rfl, mo_icmp⟩ (
  And.intro ⟨ok_nop, mo_nop⟩ (
  And.intro ⟨ok_nop, mo_nop⟩ (
  And.intro ⟨ok_iload_n dX1_isOf_15 rfl rfl, mo_iload⟩ (
  trivial))))))))))))))))
theorem rX1_isOf_1 : am_allR (fun pc o => am_ok am_tb0 cX1_isOf RX1 4 (some .boolean) false pc o ∧ am_mo o) 16 (am_nth [] tX1_isOf 1) :=
  And.intro ⟨ok_if_lt dX1_isOf_16 (by decide) rfl, mo_if⟩ (
  And.intro ⟨ok_nop, mo_nop⟩ (
  And.intro ⟨ok_nop, mo_nop⟩ (
  And.intro ⟨ok_iload_n dX1_isOf_19 rfl rfl, mo_iload⟩ (
  And.intro ⟨ok_aboveN dX1_isOf_20 wn_313 rfl, mo_push⟩ (
  And.intro ⟨ok_nop, mo_nop⟩ (
  And.intro ⟨ok_nop, mo_nop⟩ (
  And.intro ⟨ok_alenFI dX1_isOf_23 rfl, mo_alen⟩ (
  And.intro ⟨ok_icmp_ge dX1_isOf_24 (by decide) rfl, mo_icmp⟩ (
  And.intro ⟨ok_nop, mo_nop⟩ (
  And.intro ⟨ok_nop, mo_nop⟩ (
  And.intro ⟨ok_iload_n dX1_isOf_27 rfl rfl, mo_iload⟩ (
  And.intro ⟨ok_iload_n dX1_isOf_28 rfl rfl, mo_iload⟩ (
  And.intro ⟨ok_icmp_ne dX1_isOf_29 (by decide) rfl, mo_icmp⟩ (
  And.intro ⟨ok_nop, mo_nop⟩ (
  And.intro ⟨ok_nop, mo_nop⟩ (
  trivial))))))))))))))))
theorem rX1_isOf_2 : am_allR (fun pc o => am_ok am_tb0 cX1_isOf RX1 4 (some .boolean) false pc o ∧ am_mo o) 32 (am_nth [] tX1_isOf 2) :=
  And.intro ⟨ok_iconst dX1_isOf_32 rfl ic_1, mo_push⟩ (
  And.intro ⟨ok_nret dX1_isOf_33 rfl, mo_nret⟩ (
  And.intro ⟨ok_aboveN dX1_isOf_34 wn_313 rfl, mo_push⟩ (
  And.intro ⟨ok_nop, mo_nop⟩ (
  And.intro ⟨ok_nop, mo_nop⟩ (
  And.intro ⟨ok_iload_n dX1_isOf_37 rfl rfl, mo_iload⟩ (
  And.intro ⟨ok_ialdF dX1_isOf_38 rfl, mo_iald⟩ (
  And.intro ⟨ok_istore_n dX1_isOf_39 rfl (by decide) rfl, mo_istore⟩ (
  And.intro ⟨ok_iinc dX1_isOf_40 ic_1 (by decide) rfl, mo_iinc⟩ (
  And.intro ⟨ok_nop, mo_nop⟩ (
  And.intro ⟨ok_nop, mo_nop⟩ (
  And.intro ⟨ok_goto dX1_isOf_43 (by decide), mo_goto⟩ (
  And.intro ⟨ok_nop, mo_nop⟩ (
  And.intro ⟨ok_nop, mo_nop⟩ (
  And.intro ⟨ok_iconst dX1_isOf_46 rfl ic_0, mo_push⟩ (
  And.intro ⟨ok_nret dX1_isOf_47 rfl, mo_nret⟩ (
  trivial))))))))))))))))
theorem kX1_isOf : am_M1 am_tb0 cX1_isOf RX1 4 (some .boolean) false tX1_isOf := And.intro rX1_isOf_0 (And.intro rX1_isOf_1 (And.intro rX1_isOf_2 (trivial)))
def tX1_worth : List (List am_Op) := [[o_aload 0 1, o_getI 1 5 0 4, am_nop, am_nop, o_sw [(1, 40), (2, 62), (3, 50), (4, 70), (5, 81)] 86, am_nop, am_nop, am_nop, am_nop, am_nop, am_nop, am_nop, am_nop, am_nop, am_nop, am_nop],
  [am_nop, am_nop, am_nop, am_nop, am_nop, am_nop, am_nop, am_nop, am_nop, am_nop, am_nop, am_nop, am_nop, am_nop, am_nop, am_nop],
  [am_nop, am_nop, am_nop, am_nop, am_nop, am_nop, am_nop, am_nop, o_aload 0 41, o_getI 1 5 2 44, am_nop, am_nop, o_aload 0 45, o_getI 1 5 3 48, am_nop, am_nop],
  [o_bin (fun x y => x + y) 49, o_iret, o_push (.int 2) 51, o_aload 0 52, o_getI 1 5 2 55, am_nop, am_nop, o_aload 0 56, o_getI 1 5 3 59, am_nop, am_nop, o_bin (fun x y => x + y) 60, o_bin (fun x y => x * y) 61, o_iret, o_push (.int 120) 64, am_nop],
  [o_aload 0 65, o_getI 1 5 2 68, am_nop, am_nop, o_bin (fun x y => x - y) 69, o_iret, o_push (.int 120) 72, am_nop, o_aload 0 73, o_getI 1 5 2 76, am_nop, am_nop, o_bin (fun x y => x - y) 77, o_push (.int 9) 79, am_nop, o_bin (fun x y => x - y) 80],
  [o_iret, o_aload 0 82, o_getI 1 5 1 85, am_nop, am_nop, o_iret, o_aload 0 87, o_getI 1 5 2 90, am_nop, am_nop, o_iret, am_nop, am_nop, am_nop, am_nop, am_nop]]
theorem rX1_worth_0 : am_allR (fun pc o => am_ok am_tb0 cX1_worth RX1 1 (some .int) false pc o ∧ am_mo o) 0 (am_nth [] tX1_worth 0) :=
  And.intro ⟨ok_aload_n dX1_worth_0 rfl rfl, mo_aload⟩ (
  And.intro ⟨ok_getI dX1_worth_1 hclX1 inWX1 (by decide) (by decide) wd_41 (fun _ _ _ => rfl) rfl, mo_getI⟩ (
  And.intro ⟨ok_nop, mo_nop⟩ (
  And.intro ⟨ok_nop, mo_nop⟩ (
  And.intro ⟨ok_table dX1_worth_4 (by decide) (by decide +kernel) (by decide +kernel), mo_sw⟩ (
  And.intro ⟨ok_nop, mo_nop⟩ (
  And.intro ⟨ok_nop, mo_nop⟩ (
  And.intro ⟨ok_nop, mo_nop⟩ (
  And.intro ⟨ok_nop, mo_nop⟩ (
  And.intro ⟨ok_nop, mo_nop⟩ (
  And.intro ⟨ok_nop, mo_nop⟩ (
  And.intro ⟨ok_nop, mo_nop⟩ (
  And.intro ⟨ok_nop, mo_nop⟩ (
  And.intro ⟨ok_nop, mo_nop⟩ (
  And.intro ⟨ok_nop, mo_nop⟩ (
  And.intro ⟨ok_nop, mo_nop⟩ (
  trivial))))))))))))))))
theorem rX1_worth_1 : am_allR (fun pc o => am_ok am_tb0 cX1_worth RX1 1 (some .int) false pc o ∧ am_mo o) 16 (am_nth [] tX1_worth 1) :=
  And.intro ⟨ok_nop, mo_nop⟩ (
  And.intro ⟨ok_nop, mo_nop⟩ (
  And.intro ⟨ok_nop, mo_nop⟩ (
  And.intro ⟨ok_nop, mo_nop⟩ (
  And.intro ⟨ok_nop, mo_nop⟩ (
  And.intro ⟨ok_nop, mo_nop⟩ (
  And.intro ⟨ok_nop, mo_nop⟩ (
  And.intro ⟨ok_nop, mo_nop⟩ (
  And.intro ⟨ok_nop, mo_nop⟩ (
  And.intro ⟨ok_nop, mo_nop⟩ (
  And.intro ⟨ok_nop, mo_nop⟩ (
  And.intro ⟨ok_nop, mo_nop⟩ (
  And.intro ⟨ok_nop, mo_nop⟩ (
  And.intro ⟨ok_nop, mo_nop⟩ (
  And.intro ⟨ok_nop, mo_nop⟩ (
  And.intro ⟨ok_nop, mo_nop⟩ (
  trivial))))))))))))))))
theorem rX1_worth_2 : am_allR (fun pc o => am_ok am_tb0 cX1_worth RX1 1 (some .int) false pc o ∧ am_mo o) 32 (am_nth [] tX1_worth 2) :=
  And.intro ⟨ok_nop, mo_nop⟩ (
  And.intro ⟨ok_nop, mo_nop⟩ (
  And.intro ⟨ok_nop, mo_nop⟩ (
  And.intro ⟨ok_nop, mo_nop⟩ (
  And.intro ⟨ok_nop, mo_nop⟩ (
  And.intro ⟨ok_nop, mo_nop⟩ (
  And.intro ⟨ok_nop, mo_nop⟩ (
  And.intro ⟨ok_nop, mo_nop⟩ (
  And.intro ⟨ok_aload_n dX1_worth_40 rfl rfl, mo_aload⟩ (
  And.intro ⟨ok_getI dX1_worth_41 hclX1 inWX1 (by decide) (by decide) wd_47 (fun _ _ _ => rfl) rfl, mo_getI⟩ (
  And.intro ⟨ok_nop, mo_nop⟩ (
  And.intro ⟨ok_nop, mo_nop⟩ (
  And.intro ⟨ok_aload_n dX1_worth_44 rfl rfl, mo_aload⟩ (
  And.intro ⟨ok_getI dX1_worth_45 hclX1 inWX1 (by decide) (by decide) wd_50 (fun _ _ _ => rfl) rfl, mo_getI⟩ (
  And.intro ⟨ok_nop, mo_nop⟩ (
  And.intro ⟨ok_nop, mo_nop⟩ (
  trivial))))))))))))))))
theorem rX1_worth_3 : am_allR (fun pc o => am_ok am_tb0 cX1_worth RX1 1 (some .int) false pc o ∧ am_mo o) 48 (am_nth [] tX1_worth 3) :=
  And.intro ⟨ok_iadd dX1_worth_48 rfl, mo_bin⟩ (
  And.intro ⟨ok_iret dX1_worth_49 rfl, mo_iret⟩ (
  And.intro ⟨ok_iconst dX1_worth_50 rfl ic_2, mo_push⟩ (
  And.intro ⟨ok_aload_n dX1_worth_51 rfl rfl, mo_aload⟩ (
  And.intro ⟨ok_getI dX1_worth_52 hclX1 inWX1 (by decide) (by decide) wd_47 (fun _ _ _ => rfl) rfl, mo_getI⟩ (
  And.intro ⟨ok_nop, mo_nop⟩ (
  And.intro ⟨ok_nop, mo_nop⟩ (
  And.intro ⟨ok_aload_n dX1_worth_55 rfl rfl, mo_aload⟩ (
  And.intro ⟨ok_getI dX1_worth_56 hclX1 inWX1 (by decide) (by decide) wd_50 (fun _ _ _ => rfl) rfl, mo_getI⟩ (
  And.intro ⟨ok_nop, mo_nop⟩ (
  And.intro ⟨ok_nop, mo_nop⟩ (
  And.intro ⟨ok_iadd dX1_worth_59 rfl, mo_bin⟩ (
  And.intro ⟨ok_imul dX1_worth_60 rfl, mo_bin⟩ (
  And.intro ⟨ok_iret dX1_worth_61 rfl, mo_iret⟩ (
  And.intro ⟨ok_bipush dX1_worth_62 rfl bi_120, mo_push⟩ (
  And.intro ⟨ok_nop, mo_nop⟩ (
  trivial))))))))))))))))
theorem rX1_worth_4 : am_allR (fun pc o => am_ok am_tb0 cX1_worth RX1 1 (some .int) false pc o ∧ am_mo o) 64 (am_nth [] tX1_worth 4) :=
  And.intro ⟨ok_aload_n dX1_worth_64 rfl rfl, mo_aload⟩ (
  And.intro ⟨ok_getI dX1_worth_65 hclX1 inWX1 (by decide) (by decide) wd_47 (fun _ _ _ => rfl) rfl, mo_getI⟩ (
  And.intro ⟨ok_nop, mo_nop⟩ (
  And.intro ⟨ok_nop, mo_nop⟩ (
  And.intro ⟨ok_isub dX1_worth_68 rfl, mo_bin⟩ (
  And.intro ⟨ok_iret dX1_worth_69 rfl, mo_iret⟩ (
  And.intro ⟨ok_bipush dX1_worth_70 rfl bi_120, mo_push⟩ (
  And.intro ⟨ok_nop, mo_nop⟩ (
  And.intro ⟨ok_aload_n dX1_worth_72 rfl rfl, mo_aload⟩ (
  And.intro ⟨ok_getI dX1_worth_73 hclX1 inWX1 (by decide) (by decide) wd_47 (fun _ _ _ => rfl) rfl, mo_getI⟩ (
  And.intro ⟨ok_nop, mo_nop⟩ (
  And.intro ⟨ok_nop, mo_nop⟩ (
  And.intro ⟨ok_isub dX1_worth_76 rfl, mo_bin⟩ (
  And.intro ⟨ok_bipush dX1_worth_77 rfl bi_9, mo_push⟩ (
  And.intro ⟨ok_nop, mo_nop⟩ (
  And.intro ⟨ok_isub dX1_worth_79 rfl, mo_bin⟩ (
  trivial))))))))))))))))
theorem rX1_worth_5 : am_allR (fun pc o => am_ok am_tb0 cX1_worth RX1 1 (some .int) false pc o ∧ am_mo o) 80 (am_nth [] tX1_worth 5) :=
  And.intro ⟨ok_iret dX1_worth_80 rfl, mo_iret⟩ (
  And.intro ⟨ok_aload_n dX1_worth_81 rfl rfl, mo_aload⟩ (
  And.intro ⟨ok_getI dX1_worth_82 hclX1 inWX1 (by decide) (by decide) wd_44 (fun _ _ _ => rfl) rfl, mo_getI⟩ (
  And.intro ⟨ok_nop, mo_nop⟩ (
  And.intro ⟨ok_nop, mo_nop⟩ (
  And.intro ⟨ok_iret dX1_worth_85 rfl, mo_iret⟩ (
  And.intro ⟨ok_aload_n dX1_worth_86 rfl rfl, mo_aload⟩ (
  And.intro ⟨ok_getI dX1_worth_87 hclX1 inWX1 (by decide) (by decide) wd_47 (fun _ _ _ => rfl) rfl, mo_getI⟩ (
  And.intro ⟨ok_nop, mo_nop⟩ (
  And.intro ⟨ok_nop, mo_nop⟩ (
  And.intro ⟨ok_iret dX1_worth_90 rfl, mo_iret⟩ (
  And.intro ⟨ok_nop, mo_nop⟩ (
  And.intro ⟨ok_nop, mo_nop⟩ (
  And.intro ⟨ok_nop, mo_nop⟩ (
  And.intro ⟨ok_nop, mo_nop⟩ (
  And.intro ⟨ok_nop, mo_nop⟩ (
  trivial))))))))))))))))
theorem kX1_worth : am_M1 am_tb0 cX1_worth RX1 1 (some .int) false tX1_worth := And.intro rX1_worth_0 (And.intro rX1_worth_1 (And.intro rX1_worth_2 (And.intro rX1_worth_3 (And.intro rX1_worth_4 (And.intro rX1_worth_5 (trivial))))))
def tX2_init : List (List am_Op) := [[o_aload 0 1, o_oinit 4, am_nop, am_nop, o_aload 0 5, o_push (.int 10) 7, am_nop, o_newa 31 10, am_nop, am_nop, o_putR 2 14 0 13, am_nop, am_nop, o_aload 0 14, o_push (.int 0) 15, o_putI 2 14 1 18],
  [am_nop, am_nop, o_aload 0 19, o_push (.int 6) 21, am_nop, o_newa 20 23, am_nop, o_putR 2 14 2 26, am_nop, am_nop, o_aload 0 27, o_push (.int 6) 29, am_nop, o_newa 20 31, am_nop, o_putR 2 14 3 34],
  [am_nop, am_nop, o_aload 0 35, o_push (.int 0) 36, o_putI 2 14 4 39, am_nop, am_nop, o_aload 0 40, o_push (.int 14) 42, am_nop, o_newa 36 45, am_nop, am_nop, o_putR 2 14 5 48, am_nop, am_nop],
  [o_aload 0 49, o_push (.int 0) 50, o_putI 2 14 6 53, am_nop, am_nop, o_aload 0 54, o_push (.int 3) 55, o_newa 20 57, am_nop, o_dup 58, o_push (.int 0) 59, o_push (.int (-1)) 60, o_iast 61, o_dup 62, o_push (.int 1) 63, o_push (.int (-1)) 64],
  [o_iast 65, o_dup 66, o_push (.int 2) 67, o_push (.int (-1)) 68, o_iast 69, o_putR 2 14 7 72, am_nop, am_nop, o_aload 0 73, o_push (.int 10) 75, am_nop, o_putI 2 14 8 78, am_nop, am_nop, o_aload 0 79, o_push (.int 120) 81],
  [am_nop, o_putI 2 14 9 84, am_nop, am_nop, o_aload 0 85, o_push (.int 0) 86, o_putI 2 14 10 89, am_nop, am_nop, o_aload 0 90, o_push (.int 0) 91, o_putI 2 14 11 94, am_nop, am_nop, o_aload 0 95, o_push (.int 0) 96],
  [o_putI 2 14 12 99, am_nop, am_nop, o_aload 0 100, o_push (.int 1) 101, o_putI 2 14 13 104, am_nop, am_nop, o_push (.int 0) 105, o_istore 1 106, o_iload 1 107, o_push (.int 10) 109, am_nop, o_icmp (fun x y => y ≤ x) 131 112, am_nop, am_nop],
  [o_aload 0 113, o_getR 2 14 0 116, am_nop, am_nop, o_iload 1 117, o_new 1 5 120, am_nop, am_nop, o_dup 121, o_cv 1 5 6 1 0 0 124, am_nop, am_nop, o_aast 1 5 125, o_iinc 1 1 128, am_nop, am_nop],
  [o_goto 106, am_nop, am_nop, o_ret, am_nop, am_nop, am_nop, am_nop, am_nop, am_nop, am_nop, am_nop, am_nop, am_nop, am_nop, am_nop]]
theorem rX2_init_0 : am_allR (fun pc o => am_ok am_tb0 cX2_init RX2 2 none true pc o ∧ am_mo o) 0 (am_nth [] tX2_init 0) :=
  And.intro ⟨ok_aload_n dX2_init_0 rfl rfl, mo_aload⟩ (
  And.intro ⟨ok_oinit dX2_init_1 wd_31 wd_24 wd_25 rfl, mo_oinit⟩ (
  And.intro ⟨ok_nop, mo_nop⟩ (
  And.intro ⟨ok_nop, mo_nop⟩ (
  And.intro ⟨ok_aload_n dX2_init_4 rfl rfl, mo_aload⟩ (
  And.intro ⟨ok_bipush dX2_init_5 rfl bi_10, mo_push⟩ (
  And.intro ⟨ok_nop, mo_nop⟩ (
  And.intro ⟨ok_newq (ci := 1) dX2_init_7 (by decide) rfl wd_32 wn_33 rfl, mo_newa⟩ (
  And.intro ⟨ok_nop, mo_nop⟩ (
  And.intro ⟨ok_nop, mo_nop⟩ (
  And.intro ⟨ok_putRF dX2_init_10 hclX2 inWX2 tyX2_ok nmX2 (by decide) (by decide) wd_66 rfl rfl rfl (tyX2_ok 0 (by decide)) (Or.inr ⟨_, rfl⟩) (fun _ _ _ => rfl) rfl, mo_putR⟩ (
  And.intro ⟨ok_nop, mo_nop⟩ (
  And.intro ⟨ok_nop, mo_nop⟩ (
  And.intro ⟨ok_aload_n dX2_init_13 rfl rfl, mo_aload⟩ (
  And.intro ⟨ok_iconst dX2_init_14 rfl ic_0, mo_push⟩ (
  And.intro ⟨ok_putI dX2_init_15 hclX2 inWX2 tyX2_ok nmX2 (by decide) (by decide) wd_69 rfl (tyX2_ok 1 (by decide)) (fun _ _ _ => rfl) rfl, mo_putI⟩ (
  trivial))))))))))))))))
theorem rX2_init_1 : am_allR (fun pc o => am_ok am_tb0 cX2_init RX2 2 none true pc o ∧ am_mo o) 16 (am_nth [] tX2_init 1) :=
  And.intro ⟨ok_nop, mo_nop⟩ (
  And.intro ⟨ok_nop, mo_nop⟩ (
  And.intro ⟨ok_aload_n dX2_init_18 rfl rfl, mo_aload⟩ (
  And.intro ⟨ok_bipush dX2_init_19 rfl bi_6, mo_push⟩ (
  And.intro ⟨ok_nop, mo_nop⟩ (
  And.intro ⟨ok_newI dX2_init_21 wd_65 rfl, mo_newa⟩ (
  And.intro ⟨ok_nop, mo_nop⟩ (
  And.intro ⟨ok_putRF dX2_init_23 hclX2 inWX2 tyX2_ok nmX2 (by decide) (by decide) wd_72 rfl rfl rfl (tyX2_ok 2 (by decide)) (Or.inr ⟨_, rfl⟩) (fun _ _ _ => rfl) rfl, mo_putR⟩ (
  And.intro ⟨ok_nop, mo_nop⟩ (
  And.intro ⟨ok_nop, mo_nop⟩ (
  And.intro ⟨ok_aload_n dX2_init_26 rfl rfl, mo_aload⟩ (
  And.intro ⟨ok_bipush dX2_init_27 rfl bi_6, mo_push⟩ (
  And.intro ⟨ok_nop, mo_nop⟩ (
  And.intro ⟨ok_newI dX2_init_29 wd_65 rfl, mo_newa⟩ (
  And.intro ⟨ok_nop, mo_nop⟩ (
  And.intro ⟨ok_putRF dX2_init_31 hclX2 inWX2 tyX2_ok nmX2 (by decide) (by decide) wd_75 rfl rfl rfl (tyX2_ok 3 (by decide)) (Or.inr ⟨_, rfl⟩) (fun _ _ _ => rfl) rfl, mo_putR⟩ (
  trivial))))))))))))))))
theorem rX2_init_2 : am_allR (fun pc o => am_ok am_tb0 cX2_init RX2 2 none true pc o ∧ am_mo o) 32 (am_nth [] tX2_init 2) :=
  And.intro ⟨ok_nop, mo_nop⟩ (
  And.intro ⟨ok_nop, mo_nop⟩ (
  And.intro ⟨ok_aload_n dX2_init_34 rfl rfl, mo_aload⟩ (
  And.intro ⟨ok_iconst dX2_init_35 rfl ic_0, mo_push⟩ (
  And.intro ⟨ok_putI dX2_init_36 hclX2 inWX2 tyX2_ok nmX2 (by decide) (by decide) wd_78 rfl (tyX2_ok 4 (by decide)) (fun _ _ _ => rfl) rfl, mo_putI⟩ (
  And.intro ⟨ok_nop, mo_nop⟩ (
  And.intro ⟨ok_nop, mo_nop⟩ (
  And.intro ⟨ok_aload_n dX2_init_39 rfl rfl, mo_aload⟩ (
  And.intro ⟨ok_bipush dX2_init_40 rfl bi_14, mo_push⟩ (
  And.intro ⟨ok_nop, mo_nop⟩ (
  And.intro ⟨ok_newq (ci := 6) dX2_init_42 (by decide) rfl wd_34 wn_35 rfl, mo_newa⟩ (
  And.intro ⟨ok_nop, mo_nop⟩ (
  And.intro ⟨ok_nop, mo_nop⟩ (
  And.intro ⟨ok_putRF dX2_init_45 hclX2 inWX2 tyX2_ok nmX2 (by decide) (by decide) wd_81 rfl rfl rfl (tyX2_ok 5 (by decide)) (Or.inr ⟨_, rfl⟩) (fun _ _ _ => rfl) rfl, mo_putR⟩ (
  And.intro ⟨ok_nop, mo_nop⟩ (
  And.intro ⟨ok_nop, mo_nop⟩ (
  trivial))))))))))))))))
theorem rX2_init_3 : am_allR (fun pc o => am_ok am_tb0 cX2_init RX2 2 none true pc o ∧ am_mo o) 48 (am_nth [] tX2_init 3) :=
  And.intro ⟨ok_aload_n dX2_init_48 rfl rfl, mo_aload⟩ (
  And.intro ⟨ok_iconst dX2_init_49 rfl ic_0, mo_push⟩ (
  And.intro ⟨ok_putI dX2_init_50 hclX2 inWX2 tyX2_ok nmX2 (by decide) (by decide) wd_82 rfl (tyX2_ok 6 (by decide)) (fun _ _ _ => rfl) rfl, mo_putI⟩ (
  And.intro ⟨ok_nop, mo_nop⟩ (
  And.intro ⟨ok_nop, mo_nop⟩ (
  And.intro ⟨ok_aload_n dX2_init_53 rfl rfl, mo_aload⟩ (
  And.intro ⟨ok_iconst dX2_init_54 rfl ic_3, mo_push⟩ (
  And.intro ⟨ok_newI dX2_init_55 wd_65 rfl, mo_newa⟩ (
  And.intro ⟨ok_nop, mo_nop⟩ (
  And.intro ⟨ok_dup dX2_init_57 rfl, mo_dup⟩ (
  And.intro ⟨ok_iconst dX2_init_58 rfl ic_0, mo_push⟩ (
  And.intro ⟨ok_iconst dX2_init_59 rfl ic_m1, mo_push⟩ (
  And.intro ⟨ok_iast dX2_init_60 rfl, mo_iast⟩ (
  And.intro ⟨ok_dup dX2_init_61 rfl, mo_dup⟩ (
  And.intro ⟨ok_iconst dX2_init_62 rfl ic_1, mo_push⟩ (
  And.intro ⟨ok_iconst dX2_init_63 rfl ic_m1, mo_push⟩ (
  trivial))))))))))))))))
theorem rX2_init_4 : am_allR (fun pc o => am_ok am_tb0 cX2_init RX2 2 none true pc o ∧ am_mo o) 64 (am_nth [] tX2_init 4) :=
  And.intro ⟨ok_iast dX2_init_64 rfl, mo_iast⟩ (
  And.intro ⟨ok_dup dX2_init_65 rfl, mo_dup⟩ (
  And.intro ⟨ok_iconst dX2_init_66 rfl ic_2, mo_push⟩ (
  And.intro ⟨ok_iconst dX2_init_67 rfl ic_m1, mo_push⟩ (
  And.intro ⟨ok_iast dX2_init_68 rfl, mo_iast⟩ (
  And.intro ⟨ok_putRF dX2_init_69 hclX2 inWX2 tyX2_ok nmX2 (by decide) (by decide) wd_84 rfl rfl rfl (tyX2_ok 7 (by decide)) (Or.inr ⟨_, rfl⟩) (fun _ _ _ => rfl) rfl, mo_putR⟩ (
  And.intro ⟨ok_nop, mo_nop⟩ (
  And.intro ⟨ok_nop, mo_nop⟩ (
  And.intro ⟨ok_aload_n dX2_init_72 rfl rfl, mo_aload⟩ (
  And.intro ⟨ok_bipush dX2_init_73 rfl bi_10, mo_push⟩ (
  And.intro ⟨ok_nop, mo_nop⟩ (
  And.intro ⟨ok_putI dX2_init_75 hclX2 inWX2 tyX2_ok nmX2 (by decide) (by decide) wd_86 rfl (tyX2_ok 8 (by decide)) (fun _ _ _ => rfl) rfl, mo_putI⟩ (
  And.intro ⟨ok_nop, mo_nop⟩ (
  And.intro ⟨ok_nop, mo_nop⟩ (
  And.intro ⟨ok_aload_n dX2_init_78 rfl rfl, mo_aload⟩ (
  And.intro ⟨ok_bipush dX2_init_79 rfl bi_120, mo_push⟩ (
  trivial))))))))))))))))
theorem rX2_init_5 : am_allR (fun pc o => am_ok am_tb0 cX2_init RX2 2 none true pc o ∧ am_mo o) 80 (am_nth [] tX2_init 5) :=
  And.intro ⟨ok_nop, mo_nop⟩ (
  And.intro ⟨ok_putI dX2_init_81 hclX2 inWX2 tyX2_ok nmX2 (by decide) (by decide) wd_88 rfl (tyX2_ok 9 (by decide)) (fun _ _ _ => rfl) rfl, mo_putI⟩ (
  And.intro ⟨ok_nop, mo_nop⟩ (
  And.intro ⟨ok_nop, mo_nop⟩ (
  And.intro ⟨ok_aload_n dX2_init_84 rfl rfl, mo_aload⟩ (
  And.intro ⟨ok_iconst dX2_init_85 rfl ic_0, mo_push⟩ (
  And.intro ⟨ok_putI dX2_init_86 hclX2 inWX2 tyX2_ok nmX2 (by decide) (by decide) wd_90 rfl (tyX2_ok 10 (by decide)) (fun _ _ _ => rfl) rfl, mo_putI⟩ (
  And.intro ⟨ok_nop, mo_nop⟩ (
  And.intro ⟨ok_nop, mo_nop⟩ (
  And.intro ⟨ok_aload_n dX2_init_89 rfl rfl, mo_aload⟩ (
  And.intro ⟨ok_iconst dX2_init_90 rfl ic_0, mo_push⟩ (
  And.intro ⟨ok_putI dX2_init_91 hclX2 inWX2 tyX2_ok nmX2 (by decide) (by decide) wd_92 rfl (tyX2_ok 11 (by decide)) (fun _ _ _ => rfl) rfl, mo_putI⟩ (
  And.intro ⟨ok_nop, mo_nop⟩ (
  And.intro ⟨ok_nop, mo_nop⟩ (
  And.intro ⟨ok_aload_n dX2_init_94 rfl rfl, mo_aload⟩ (
  And.intro ⟨ok_iconst dX2_init_95 rfl ic_0, mo_push⟩ (
  trivial))))))))))))))))
theorem rX2_init_6 : am_allR (fun pc o => am_ok am_tb0 cX2_init RX2 2 none true pc o ∧ am_mo o) 96 (am_nth [] tX2_init 6) :=
  And.intro ⟨ok_putI dX2_init_96 hclX2 inWX2 tyX2_ok nmX2 (by decide) (by decide) wd_94 rfl (tyX2_ok 12 (by decide)) (fun _ _ _ => rfl) rfl, mo_putI⟩ (
  And.intro ⟨ok_nop, mo_nop⟩ (
  And.intro ⟨ok_nop, mo_nop⟩ (
  And.intro ⟨ok_aload_n dX2_init_99 rfl rfl, mo_aload⟩ (
  And.intro ⟨ok_iconst dX2_init_100 rfl ic_1, mo_push⟩ (
  And.intro ⟨ok_putI dX2_init_101 hclX2 inWX2 tyX2_ok nmX2 (by decide) (by decide) wd_96 rfl (tyX2_ok 13 (by decide)) (fun _ _ _ => rfl) rfl, mo_putI⟩ (
  And.intro ⟨ok_nop, mo_nop⟩ (
  And.intro ⟨ok_nop, mo_nop⟩ (
  And.intro ⟨ok_iconst dX2_init_104 rfl ic_0, mo_push⟩ (
  And.intro ⟨ok_istore_n dX2_init_105 rfl (by decide) rfl, mo_istore⟩ (
  And.intro ⟨ok_iload_n dX2_init_106 rfl rfl, mo_iload⟩ (
  And.intro ⟨ok_bipush dX2_init_107 rfl bi_10, mo_push⟩ (
  And.intro ⟨ok_nop, mo_nop⟩ (
  And.intro ⟨ok_icmp_ge dX2_init_109 (by decide) rfl, mo_icmp⟩ (
  And.intro ⟨ok_nop, mo_nop⟩ (
  And.intro ⟨ok_nop, mo_nop⟩ (
  trivial))))))))))))))))
theorem rX2_init_7 : am_allR (fun pc o => am_ok am_tb0 cX2_init RX2 2 none true pc o ∧ am_mo o) 112 (am_nth [] tX2_init 7) :=
  And.intro ⟨ok_aload_n dX2_init_112 rfl rfl, mo_aload⟩ (
  And.intro ⟨ok_getR dX2_init_113 hclX2 inWX2 (by decide) (by decide) wd_66 (fun _ _ _ => rfl) rfl, mo_getR⟩ (
  And.intro ⟨ok_nop, mo_nop⟩ (
  And.intro ⟨ok_nop, mo_nop⟩ (
  And.intro ⟨ok_iload_n dX2_init_116 rfl rfl, mo_iload⟩ (
  And.intro ⟨ok_new dX2_init_117 hclX1 inWX1 tyX1_ok (by decide) hdfX1 wd_32 wd_36 wd_3 rfl, mo_new⟩ (
  And.intro ⟨ok_nop, mo_nop⟩ (
  And.intro ⟨ok_nop, mo_nop⟩ (
  And.intro ⟨ok_dup dX2_init_120 rfl, mo_dup⟩ (
  And.intro ⟨ok_ciN (z := 6) dX2_init_121 (by decide) wn_37 wd_38 wd_3 wd_39 rfl (by decide) rfl rfl hy_X1_init rfl, mo_cv⟩ (
  And.intro ⟨ok_nop, mo_nop⟩ (
  And.intro ⟨ok_nop, mo_nop⟩ (
  And.intro ⟨ok_aast dX2_init_124 (by decide) hclX1 rfl rfl, mo_aast⟩ (
  And.intro ⟨ok_iinc dX2_init_125 ic_1 (by decide) rfl, mo_iinc⟩ (
  And.intro ⟨ok_nop, mo_nop⟩ (
  And.intro ⟨ok_nop, mo_nop⟩ (
  trivial))))))))))))))))
theorem rX2_init_8 : am_allR (fun pc o => am_ok am_tb0 cX2_init RX2 2 none true pc o ∧ am_mo o) 128 (am_nth [] tX2_init 8) :=
  And.intro ⟨ok_goto dX2_init_128 (by decide), mo_goto⟩ (
  And.intro ⟨ok_nop, mo_nop⟩ (
  And.intro ⟨ok_nop, mo_nop⟩ (
  And.intro ⟨ok_ret dX2_init_131 rfl, mo_ret⟩ (
  And.intro ⟨ok_nop, mo_nop⟩ (
  And.intro ⟨ok_nop, mo_nop⟩ (
  And.intro ⟨ok_nop, mo_nop⟩ (
  And.intro ⟨ok_nop, mo_nop⟩ (
  And.intro ⟨ok_nop, mo_nop⟩ (
  And.intro ⟨ok_nop, mo_nop⟩ (
  And.intro ⟨ok_nop, mo_nop⟩ (
  And.intro ⟨ok_nop, mo_nop⟩ (
  And.intro ⟨ok_nop, mo_nop⟩ (
  And.intro ⟨ok_nop, mo_nop⟩ (
  And.intro ⟨ok_nop, mo_nop⟩ (
  And.intro ⟨ok_nop, mo_nop⟩ (
  trivial))))))))))))))))
theorem kX2_init : am_M1 am_tb0 cX2_init RX2 2 none true tX2_init := And.intro rX2_init_0 (And.intro rX2_init_1 (And.intro rX2_init_2 (And.intro rX2_init_3 (And.intro rX2_init_4 (And.intro rX2_init_5 (And.intro rX2_init_6 (And.intro rX2_init_7 (And.intro rX2_init_8 (trivial)))))))))
def tX2_become : List (List am_Op) := [[o_push (.int 0) 1, o_istore 2 2, o_iload 2 3, o_aload 1 4, o_getI 2 14 1 7, am_nop, am_nop, o_icmp (fun x y => y ≤ x) 31 10, am_nop, am_nop, o_aload 0 11, o_getR 2 14 0 14, am_nop, am_nop, o_iload 2 15, o_aald 31 16],
  [o_aload 1 17, o_getR 2 14 0 20, am_nop, am_nop, o_iload 2 21, o_aald 31 22, o_cv 1 5 8 2 1 1 25, am_nop, am_nop, o_iinc 2 1 28, am_nop, am_nop, o_goto 2, am_nop, am_nop, o_aload 0 32],
  [o_aload 1 33, o_getI 2 14 1 36, am_nop, am_nop, o_putI 2 14 1 39, am_nop, am_nop, o_aload 1 40, o_getR 2 14 2 43, am_nop, am_nop, o_push (.int 0) 44, o_aload 0 45, o_getR 2 14 2 48, am_nop, am_nop],
  [o_push (.int 0) 49, o_push (.int 6) 51, am_nop, o_acopy 54, am_nop, am_nop, o_aload 1 55, o_getR 2 14 3 58, am_nop, am_nop, o_push (.int 0) 59, o_aload 0 60, o_getR 2 14 3 63, am_nop, am_nop, o_push (.int 0) 64],
  [o_push (.int 6) 66, am_nop, o_acopy 69, am_nop, am_nop, o_aload 0 70, o_aload 1 71, o_getI 2 14 4 74, am_nop, am_nop, o_putI 2 14 4 77, am_nop, am_nop, o_push (.int 0) 78, o_istore 2 79, o_iload 2 80],
  [o_aload 1 81, o_getI 2 14 6 84, am_nop, am_nop, o_icmp (fun x y => y ≤ x) 105 87, am_nop, am_nop, o_aload 0 88, o_getR 2 14 5 91, am_nop, am_nop, o_iload 2 92, o_aload 1 93, o_getR 2 14 5 96, am_nop, am_nop],
  [o_iload 2 97, o_aald 36 98, o_aast 6 4 99, o_iinc 2 1 102, am_nop, am_nop, o_goto 79, am_nop, am_nop, o_aload 0 106, o_aload 1 107, o_getI 2 14 6 110, am_nop, am_nop, o_putI 2 14 6 113, am_nop],
  [am_nop, o_aload 1 114, o_getR 2 14 7 117, am_nop, am_nop, o_push (.int 0) 118, o_aload 0 119, o_getR 2 14 7 122, am_nop, am_nop, o_push (.int 0) 123, o_push (.int 3) 124, o_acopy 127, am_nop, am_nop, o_aload 0 128],
  [o_aload 1 129, o_getI 2 14 8 132, am_nop, am_nop, o_putI 2 14 8 135, am_nop, am_nop, o_aload 0 136, o_aload 1 137, o_getI 2 14 9 140, am_nop, am_nop, o_putI 2 14 9 143, am_nop, am_nop, o_aload 0 144],
  [o_aload 1 145, o_getI 2 14 10 148, am_nop, am_nop, o_putI 2 14 10 151, am_nop, am_nop, o_aload 0 152, o_aload 1 153, o_getI 2 14 11 156, am_nop, am_nop, o_putI 2 14 11 159, am_nop, am_nop, o_aload 0 160],
  [o_aload 1 161, o_getI 2 14 12 164, am_nop, am_nop, o_putI 2 14 12 167, am_nop, am_nop, o_aload 0 168, o_aload 1 169, o_getI 2 14 13 172, am_nop, am_nop, o_putI 2 14 13 175, am_nop, am_nop, o_ret]]
theorem rX2_become_0 : am_allR (fun pc o => am_ok am_tb0 cX2_become RX2 3 none false pc o ∧ am_mo o) 0 (am_nth [] tX2_become 0) :=
  And.intro ⟨ok_iconst dX2_become_0 rfl ic_0, mo_push⟩ (
  And.intro ⟨ok_istore_n dX2_become_1 rfl (by decide) rfl, mo_istore⟩ (
  And.intro ⟨ok_iload_n dX2_become_2 rfl rfl, mo_iload⟩ (
  And.intro ⟨ok_aload_n dX2_become_3 rfl rfl, mo_aload⟩ (
  And.intro ⟨ok_getI dX2_become_4 hclX2 inWX2 (by decide) (by decide) wd_69 (fun _ _ _ => rfl) rfl, mo_getI⟩ (
  And.intro ⟨ok_nop, mo_nop⟩ (
  And.intro ⟨ok_nop, mo_nop⟩ (
  And.intro ⟨ok_icmp_ge dX2_become_7 (by decide) rfl, mo_icmp⟩ (
  And.intro ⟨ok_nop, mo_nop⟩ (
  And.intro ⟨ok_nop, mo_nop⟩ (
  And.intro ⟨ok_aload_n dX2_become_10 rfl rfl, mo_aload⟩ (
  And.intro ⟨ok_getR dX2_become_11 hclX2 inWX2 (by decide) (by decide) wd_66 (fun _ _ _ => rfl) rfl, mo_getR⟩ (
  And.intro ⟨ok_nop, mo_nop⟩ (
  And.intro ⟨ok_nop, mo_nop⟩ (
  And.intro ⟨ok_iload_n dX2_become_14 rfl rfl, mo_iload⟩ (
  And.intro ⟨ok_aald (ci := 1) dX2_become_15 (by decide) rfl rfl, mo_aald⟩ (
  trivial))))))))))))))))
theorem rX2_become_1 : am_allR (fun pc o => am_ok am_tb0 cX2_become RX2 3 none false pc o ∧ am_mo o) 16 (am_nth [] tX2_become 1) :=
  And.intro ⟨ok_aload_n dX2_become_16 rfl rfl, mo_aload⟩ (
  And.intro ⟨ok_getR dX2_become_17 hclX2 inWX2 (by decide) (by decide) wd_66 (fun _ _ _ => rfl) rfl, mo_getR⟩ (
  And.intro ⟨ok_nop, mo_nop⟩ (
  And.intro ⟨ok_nop, mo_nop⟩ (
  And.intro ⟨ok_iload_n dX2_become_20 rfl rfl, mo_iload⟩ (
  And.intro ⟨ok_aald (ci := 1) dX2_become_21 (by decide) rfl rfl, mo_aald⟩ (
  And.intro ⟨ok_cv (z := 8) dX2_become_22 hclX1 (by decide) wd_505 wd_506 wd_507 wd_3 wd_508 rfl (by decide) ⟨rfl, hy_X1_become⟩ rfl, mo_cv⟩ (
  And.intro ⟨ok_nop, mo_nop⟩ (
  And.intro ⟨ok_nop, mo_nop⟩ (
  And.intro ⟨ok_iinc dX2_become_25 ic_1 (by decide) rfl, mo_iinc⟩ (
  And.intro ⟨ok_nop, mo_nop⟩ (
  And.intro ⟨ok_nop, mo_nop⟩ (
  And.intro ⟨ok_goto dX2_become_28 (by decide), mo_goto⟩ (
  And.intro ⟨ok_nop, mo_nop⟩ (
  And.intro ⟨ok_nop, mo_nop⟩ (
  And.intro ⟨ok_aload_n dX2_become_31 rfl rfl, mo_aload⟩ (
  trivial))))))))))))))))
theorem rX2_become_2 : am_allR (fun pc o => am_ok am_tb0 cX2_become RX2 3 none false pc o ∧ am_mo o) 32 (am_nth [] tX2_become 2) :=
  And.intro ⟨ok_aload_n dX2_become_32 rfl rfl, mo_aload⟩ (
  And.intro ⟨ok_getI dX2_become_33 hclX2 inWX2 (by decide) (by decide) wd_69 (fun _ _ _ => rfl) rfl, mo_getI⟩ (
  And.intro ⟨ok_nop, mo_nop⟩ (
  And.intro ⟨ok_nop, mo_nop⟩ (
  And.intro ⟨ok_putI dX2_become_36 hclX2 inWX2 tyX2_ok nmX2 (by decide) (by decide) wd_69 rfl (tyX2_ok 1 (by decide)) (fun _ _ _ => rfl) rfl, mo_putI⟩ (
  And.intro ⟨ok_nop, mo_nop⟩ (
  And.intro ⟨ok_nop, mo_nop⟩ (
  And.intro ⟨ok_aload_n dX2_become_39 rfl rfl, mo_aload⟩ (
  And.intro ⟨ok_getR dX2_become_40 hclX2 inWX2 (by decide) (by decide) wd_72 (fun _ _ _ => rfl) rfl, mo_getR⟩ (
  And.intro ⟨ok_nop, mo_nop⟩ (
  And.intro ⟨ok_nop, mo_nop⟩ (
  And.intro ⟨ok_iconst dX2_become_43 rfl ic_0, mo_push⟩ (
  And.intro ⟨ok_aload_n dX2_become_44 rfl rfl, mo_aload⟩ (
  And.intro ⟨ok_getR dX2_become_45 hclX2 inWX2 (by decide) (by decide) wd_72 (fun _ _ _ => rfl) rfl, mo_getR⟩ (
  And.intro ⟨ok_nop, mo_nop⟩ (
  And.intro ⟨ok_nop, mo_nop⟩ (
  trivial))))))))))))))))
theorem rX2_become_3 : am_allR (fun pc o => am_ok am_tb0 cX2_become RX2 3 none false pc o ∧ am_mo o) 48 (am_nth [] tX2_become 3) :=
  And.intro ⟨ok_iconst dX2_become_48 rfl ic_0, mo_push⟩ (
  And.intro ⟨ok_bipush dX2_become_49 rfl bi_6, mo_push⟩ (
  And.intro ⟨ok_nop, mo_nop⟩ (
  And.intro ⟨ok_acopy dX2_become_51 wd_510 wd_512 wd_511 wd_12 rfl, mo_acopy⟩ (
  And.intro ⟨ok_nop, mo_nop⟩ (
  And.intro ⟨ok_nop, mo_nop⟩ (
  And.intro ⟨ok_aload_n dX2_become_54 rfl rfl, mo_aload⟩ (
  And.intro ⟨ok_getR dX2_become_55 hclX2 inWX2 (by decide) (by decide) wd_75 (fun _ _ _ => rfl) rfl, mo_getR⟩ (
  And.intro ⟨ok_nop, mo_nop⟩ (
  And.intro ⟨ok_nop, mo_nop⟩ (
  And.intro ⟨ok_iconst dX2_become_58 rfl ic_0, mo_push⟩ (
  And.intro ⟨ok_aload_n dX2_become_59 rfl rfl, mo_aload⟩ (
  And.intro ⟨ok_getR dX2_become_60 hclX2 inWX2 (by decide) (by decide) wd_75 (fun _ _ _ => rfl) rfl, mo_getR⟩ (
  And.intro ⟨ok_nop, mo_nop⟩ (
  And.intro ⟨ok_nop, mo_nop⟩ (
  And.intro ⟨ok_iconst dX2_become_63 rfl ic_0, mo_push⟩ (
  trivial))))))))))))))))
theorem rX2_become_4 : am_allR (fun pc o => am_ok am_tb0 cX2_become RX2 3 none false pc o ∧ am_mo o) 64 (am_nth [] tX2_become 4) :=
  And.intro ⟨ok_bipush dX2_become_64 rfl bi_6, mo_push⟩ (
  And.intro ⟨ok_nop, mo_nop⟩ (
  And.intro ⟨ok_acopy dX2_become_66 wd_510 wd_512 wd_511 wd_12 rfl, mo_acopy⟩ (
  And.intro ⟨ok_nop, mo_nop⟩ (
  And.intro ⟨ok_nop, mo_nop⟩ (
  And.intro ⟨ok_aload_n dX2_become_69 rfl rfl, mo_aload⟩ (
  And.intro ⟨ok_aload_n dX2_become_70 rfl rfl, mo_aload⟩ (
  And.intro ⟨ok_getI dX2_become_71 hclX2 inWX2 (by decide) (by decide) wd_78 (fun _ _ _ => rfl) rfl, mo_getI⟩ (
  And.intro ⟨ok_nop, mo_nop⟩ (
  And.intro ⟨ok_nop, mo_nop⟩ (
  And.intro ⟨ok_putI dX2_become_74 hclX2 inWX2 tyX2_ok nmX2 (by decide) (by decide) wd_78 rfl (tyX2_ok 4 (by decide)) (fun _ _ _ => rfl) rfl, mo_putI⟩ (
  And.intro ⟨ok_nop, mo_nop⟩ (
  And.intro ⟨ok_nop, mo_nop⟩ (
  And.intro ⟨ok_iconst dX2_become_77 rfl ic_0, mo_push⟩ (
  And.intro ⟨ok_istore_n dX2_become_78 rfl (by decide) rfl, mo_istore⟩ (
  And.intro ⟨ok_iload_n dX2_become_79 rfl rfl, mo_iload⟩ (
  trivial))))))))))))))))
theorem rX2_become_5 : am_allR (fun pc o => am_ok am_tb0 cX2_become RX2 3 none false pc o ∧ am_mo o) 80 (am_nth [] tX2_become 5) :=
  And.intro ⟨ok_aload_n dX2_become_80 rfl rfl, mo_aload⟩ (
  And.intro ⟨ok_getI dX2_become_81 hclX2 inWX2 (by decide) (by decide) wd_82 (fun _ _ _ => rfl) rfl, mo_getI⟩ (
  And.intro ⟨ok_nop, mo_nop⟩ (
  And.intro ⟨ok_nop, mo_nop⟩ (
  And.intro ⟨ok_icmp_ge dX2_become_84 (by decide) rfl, mo_icmp⟩ (
  And.intro ⟨ok_nop, mo_nop⟩ (
  And.intro ⟨ok_nop, mo_nop⟩ (
  And.intro ⟨ok_aload_n dX2_become_87 rfl rfl, mo_aload⟩ (
  And.intro ⟨ok_getR dX2_become_88 hclX2 inWX2 (by decide) (by decide) wd_81 (fun _ _ _ => rfl) rfl, mo_getR⟩ (
  And.intro ⟨ok_nop, mo_nop⟩ (
  And.intro ⟨ok_nop, mo_nop⟩ (
  And.intro ⟨ok_iload_n dX2_become_91 rfl rfl, mo_iload⟩ (
  And.intro ⟨ok_aload_n dX2_become_92 rfl rfl, mo_aload⟩ (
  And.intro ⟨ok_getR dX2_become_93 hclX2 inWX2 (by decide) (by decide) wd_81 (fun _ _ _ => rfl) rfl, mo_getR⟩ (
  And.intro ⟨ok_nop, mo_nop⟩ (
  And.intro ⟨ok_nop, mo_nop⟩ (
  trivial))))))))))))))))
theorem rX2_become_6 : am_allR (fun pc o => am_ok am_tb0 cX2_become RX2 3 none false pc o ∧ am_mo o) 96 (am_nth [] tX2_become 6) :=
  And.intro ⟨ok_iload_n dX2_become_96 rfl rfl, mo_iload⟩ (
  And.intro ⟨ok_aald (ci := 6) dX2_become_97 (by decide) rfl rfl, mo_aald⟩ (
  And.intro ⟨ok_aast dX2_become_98 (by decide) hclX6 rfl rfl, mo_aast⟩ (
  And.intro ⟨ok_iinc dX2_become_99 ic_1 (by decide) rfl, mo_iinc⟩ (
  And.intro ⟨ok_nop, mo_nop⟩ (
  And.intro ⟨ok_nop, mo_nop⟩ (
  And.intro ⟨ok_goto dX2_become_102 (by decide), mo_goto⟩ (
  And.intro ⟨ok_nop, mo_nop⟩ (
  And.intro ⟨ok_nop, mo_nop⟩ (
  And.intro ⟨ok_aload_n dX2_become_105 rfl rfl, mo_aload⟩ (
  And.intro ⟨ok_aload_n dX2_become_106 rfl rfl, mo_aload⟩ (
  And.intro ⟨ok_getI dX2_become_107 hclX2 inWX2 (by decide) (by decide) wd_82 (fun _ _ _ => rfl) rfl, mo_getI⟩ (
  And.intro ⟨ok_nop, mo_nop⟩ (
  And.intro ⟨ok_nop, mo_nop⟩ (
  And.intro ⟨ok_putI dX2_become_110 hclX2 inWX2 tyX2_ok nmX2 (by decide) (by decide) wd_82 rfl (tyX2_ok 6 (by decide)) (fun _ _ _ => rfl) rfl, mo_putI⟩ (
  And.intro ⟨ok_nop, mo_nop⟩ (
  trivial))))))))))))))))
theorem rX2_become_7 : am_allR (fun pc o => am_ok am_tb0 cX2_become RX2 3 none false pc o ∧ am_mo o) 112 (am_nth [] tX2_become 7) :=
  And.intro ⟨ok_nop, mo_nop⟩ (
  And.intro ⟨ok_aload_n dX2_become_113 rfl rfl, mo_aload⟩ (
  And.intro ⟨ok_getR dX2_become_114 hclX2 inWX2 (by decide) (by decide) wd_84 (fun _ _ _ => rfl) rfl, mo_getR⟩ (
  And.intro ⟨ok_nop, mo_nop⟩ (
  And.intro ⟨ok_nop, mo_nop⟩ (
  And.intro ⟨ok_iconst dX2_become_117 rfl ic_0, mo_push⟩ (
  And.intro ⟨ok_aload_n dX2_become_118 rfl rfl, mo_aload⟩ (
  And.intro ⟨ok_getR dX2_become_119 hclX2 inWX2 (by decide) (by decide) wd_84 (fun _ _ _ => rfl) rfl, mo_getR⟩ (
  And.intro ⟨ok_nop, mo_nop⟩ (
  And.intro ⟨ok_nop, mo_nop⟩ (
  And.intro ⟨ok_iconst dX2_become_122 rfl ic_0, mo_push⟩ (
  And.intro ⟨ok_iconst dX2_become_123 rfl ic_3, mo_push⟩ (
  And.intro ⟨ok_acopy dX2_become_124 wd_510 wd_512 wd_511 wd_12 rfl, mo_acopy⟩ (
  And.intro ⟨ok_nop, mo_nop⟩ (
  And.intro ⟨ok_nop, mo_nop⟩ (
  And.intro ⟨ok_aload_n dX2_become_127 rfl rfl, mo_aload⟩ (
  trivial))))))))))))))))
theorem rX2_become_8 : am_allR (fun pc o => am_ok am_tb0 cX2_become RX2 3 none false pc o ∧ am_mo o) 128 (am_nth [] tX2_become 8) :=
  And.intro ⟨ok_aload_n dX2_become_128 rfl rfl, mo_aload⟩ (
  And.intro ⟨ok_getI dX2_become_129 hclX2 inWX2 (by decide) (by decide) wd_86 (fun _ _ _ => rfl) rfl, mo_getI⟩ (
  And.intro ⟨ok_nop, mo_nop⟩ (
  And.intro ⟨ok_nop, mo_nop⟩ (
  And.intro ⟨ok_putI dX2_become_132 hclX2 inWX2 tyX2_ok nmX2 (by decide) (by decide) wd_86 rfl (tyX2_ok 8 (by decide)) (fun _ _ _ => rfl) rfl, mo_putI⟩ (
  And.intro ⟨ok_nop, mo_nop⟩ (
  And.intro ⟨ok_nop, mo_nop⟩ (
  And.intro ⟨ok_aload_n dX2_become_135 rfl rfl, mo_aload⟩ (
  And.intro ⟨ok_aload_n dX2_become_136 rfl rfl, mo_aload⟩ (
  And.intro ⟨ok_getI dX2_become_137 hclX2 inWX2 (by decide) (by decide) wd_88 (fun _ _ _ => rfl) rfl, mo_getI⟩ (
  And.intro ⟨ok_nop, mo_nop⟩ (
  And.intro ⟨ok_nop, mo_nop⟩ (
  And.intro ⟨ok_putI dX2_become_140 hclX2 inWX2 tyX2_ok nmX2 (by decide) (by decide) wd_88 rfl (tyX2_ok 9 (by decide)) (fun _ _ _ => rfl) rfl, mo_putI⟩ (
  And.intro ⟨ok_nop, mo_nop⟩ (
  And.intro ⟨ok_nop, mo_nop⟩ (
  And.intro ⟨ok_aload_n dX2_become_143 rfl rfl, mo_aload⟩ (
  trivial))))))))))))))))
theorem rX2_become_9 : am_allR (fun pc o => am_ok am_tb0 cX2_become RX2 3 none false pc o ∧ am_mo o) 144 (am_nth [] tX2_become 9) :=
  And.intro ⟨ok_aload_n dX2_become_144 rfl rfl, mo_aload⟩ (
  And.intro ⟨ok_getI dX2_become_145 hclX2 inWX2 (by decide) (by decide) wd_90 (fun _ _ _ => rfl) rfl, mo_getI⟩ (
  And.intro ⟨ok_nop, mo_nop⟩ (
  And.intro ⟨ok_nop, mo_nop⟩ (
  And.intro ⟨ok_putI dX2_become_148 hclX2 inWX2 tyX2_ok nmX2 (by decide) (by decide) wd_90 rfl (tyX2_ok 10 (by decide)) (fun _ _ _ => rfl) rfl, mo_putI⟩ (
  And.intro ⟨ok_nop, mo_nop⟩ (
  And.intro ⟨ok_nop, mo_nop⟩ (
  And.intro ⟨ok_aload_n dX2_become_151 rfl rfl, mo_aload⟩ (
  And.intro ⟨ok_aload_n dX2_become_152 rfl rfl, mo_aload⟩ (
  And.intro ⟨ok_getI dX2_become_153 hclX2 inWX2 (by decide) (by decide) wd_92 (fun _ _ _ => rfl) rfl, mo_getI⟩ (
  And.intro ⟨ok_nop, mo_nop⟩ (
  And.intro ⟨ok_nop, mo_nop⟩ (
  And.intro ⟨ok_putI dX2_become_156 hclX2 inWX2 tyX2_ok nmX2 (by decide) (by decide) wd_92 rfl (tyX2_ok 11 (by decide)) (fun _ _ _ => rfl) rfl, mo_putI⟩ (
  And.intro ⟨ok_nop, mo_nop⟩ (
  And.intro ⟨ok_nop, mo_nop⟩ (
  And.intro ⟨ok_aload_n dX2_become_159 rfl rfl, mo_aload⟩ (
  trivial))))))))))))))))
theorem rX2_become_10 : am_allR (fun pc o => am_ok am_tb0 cX2_become RX2 3 none false pc o ∧ am_mo o) 160 (am_nth [] tX2_become 10) :=
  And.intro ⟨ok_aload_n dX2_become_160 rfl rfl, mo_aload⟩ (
  And.intro ⟨ok_getI dX2_become_161 hclX2 inWX2 (by decide) (by decide) wd_94 (fun _ _ _ => rfl) rfl, mo_getI⟩ (
  And.intro ⟨ok_nop, mo_nop⟩ (
  And.intro ⟨ok_nop, mo_nop⟩ (
  And.intro ⟨ok_putI dX2_become_164 hclX2 inWX2 tyX2_ok nmX2 (by decide) (by decide) wd_94 rfl (tyX2_ok 12 (by decide)) (fun _ _ _ => rfl) rfl, mo_putI⟩ (
  And.intro ⟨ok_nop, mo_nop⟩ (
  And.intro ⟨ok_nop, mo_nop⟩ (
  And.intro ⟨ok_aload_n dX2_become_167 rfl rfl, mo_aload⟩ (
  And.intro ⟨ok_aload_n dX2_become_168 rfl rfl, mo_aload⟩ (
  And.intro ⟨ok_getI dX2_become_169 hclX2 inWX2 (by decide) (by decide) wd_96 (fun _ _ _ => rfl) rfl, mo_getI⟩ (
  And.intro ⟨ok_nop, mo_nop⟩ (
  And.intro ⟨ok_nop, mo_nop⟩ (
  And.intro ⟨ok_putI dX2_become_172 hclX2 inWX2 tyX2_ok nmX2 (by decide) (by decide) wd_96 rfl (tyX2_ok 13 (by decide)) (fun _ _ _ => rfl) rfl, mo_putI⟩ (
  And.intro ⟨ok_nop, mo_nop⟩ (
  And.intro ⟨ok_nop, mo_nop⟩ (
  And.intro ⟨ok_ret dX2_become_175 rfl, mo_ret⟩ (
  trivial))))))))))))))))
theorem kX2_become : am_M1 am_tb0 cX2_become RX2 3 none false tX2_become := And.intro rX2_become_0 (And.intro rX2_become_1 (And.intro rX2_become_2 (And.intro rX2_become_3 (And.intro rX2_become_4 (And.intro rX2_become_5 (And.intro rX2_become_6 (And.intro rX2_become_7 (And.intro rX2_become_8 (And.intro rX2_become_9 (And.intro rX2_become_10 (trivial)))))))))))
def tX2_find : List (List am_Op) := [[o_iload 1 1, o_if (fun x => x < 0) 21 4, am_nop, am_nop, o_iload 1 5, o_aload 0 6, o_getI 2 14 1 9, am_nop, am_nop, o_icmp (fun x y => y ≤ x) 21 12, am_nop, am_nop, o_aload 0 13, o_getR 2 14 0 16, am_nop, am_nop],
  [o_iload 1 17, o_aald 31 18, o_goto 22, am_nop, am_nop, o_push (.ref 0) 22, o_aret, am_nop, am_nop, am_nop, am_nop, am_nop, am_nop, am_nop, am_nop, am_nop]]
theorem rX2_find_0 : am_allR (fun pc o => am_ok am_tb0 cX2_find RX2 2 (some (.object "DigFill$Hole")) false pc o ∧ am_mo o) 0 (am_nth [] tX2_find 0) :=
  And.intro ⟨ok_iload_n dX2_find_0 rfl rfl, mo_iload⟩ (
  And.intro ⟨ok_if_lt dX2_find_1 (by decide) rfl, mo_if⟩ (
  And.intro ⟨ok_nop, mo_nop⟩ (
  And.intro ⟨ok_nop, mo_nop⟩ (
  And.intro ⟨ok_iload_n dX2_find_4 rfl rfl, mo_iload⟩ (
  And.intro ⟨ok_aload_n dX2_find_5 rfl rfl, mo_aload⟩ (
  And.intro ⟨ok_getI dX2_find_6 hclX2 inWX2 (by decide) (by decide) wd_69 (fun _ _ _ => rfl) rfl, mo_getI⟩ (
  And.intro ⟨ok_nop, mo_nop⟩ (
  And.intro ⟨ok_nop, mo_nop⟩ (
  And.intro ⟨ok_icmp_ge dX2_find_9 (by decide) rfl, mo_icmp⟩ (
  And.intro ⟨ok_nop, mo_nop⟩ (
  And.intro ⟨ok_nop, mo_nop⟩ (
  And.intro ⟨ok_aload_n dX2_find_12 rfl rfl, mo_aload⟩ (
  And.intro ⟨ok_getR dX2_find_13 hclX2 inWX2 (by decide) (by decide) wd_66 (fun _ _ _ => rfl) rfl, mo_getR⟩ (
  And.intro ⟨ok_nop, mo_nop⟩ (
  And.intro ⟨ok_nop, mo_nop⟩ (
  trivial))))))))))))))))
theorem rX2_find_1 : am_allR (fun pc o => am_ok am_tb0 cX2_find RX2 2 (some (.object "DigFill$Hole")) false pc o ∧ am_mo o) 16 (am_nth [] tX2_find 1) :=
  And.intro ⟨ok_iload_n dX2_find_16 rfl rfl, mo_iload⟩ (
  And.intro ⟨ok_aald (ci := 1) dX2_find_17 (by decide) rfl rfl, mo_aald⟩ (
  And.intro ⟨ok_goto dX2_find_18 (by decide), mo_goto⟩ (
  And.intro ⟨ok_nop, mo_nop⟩ (
  And.intro ⟨ok_nop, mo_nop⟩ (
  And.intro ⟨ok_null dX2_find_21 rfl, mo_push⟩ (
  And.intro ⟨ok_aret dX2_find_22 rfl (Or.inl ⟨_, rfl⟩), mo_aret⟩ (
  And.intro ⟨ok_nop, mo_nop⟩ (
  And.intro ⟨ok_nop, mo_nop⟩ (
  And.intro ⟨ok_nop, mo_nop⟩ (
  And.intro ⟨ok_nop, mo_nop⟩ (
  And.intro ⟨ok_nop, mo_nop⟩ (
  And.intro ⟨ok_nop, mo_nop⟩ (
  And.intro ⟨ok_nop, mo_nop⟩ (
  And.intro ⟨ok_nop, mo_nop⟩ (
  And.intro ⟨ok_nop, mo_nop⟩ (
  trivial))))))))))))))))
theorem kX2_find : am_M1 am_tb0 cX2_find RX2 2 (some (.object "DigFill$Hole")) false tX2_find := And.intro rX2_find_0 (And.intro rX2_find_1 (trivial))
def tX2_open : List (List am_Op) := [[o_aload 0 1, o_getI 2 14 1 4, am_nop, am_nop, o_istore 5 6, am_nop, o_iload 5 8, am_nop, o_push (.int 10) 10, am_nop, o_icmp (fun x y => x < y) 16 13, am_nop, am_nop, o_push (.int (-1000000003)) 15, am_nop, o_iret],
  [o_aload 0 17, o_getR 2 14 0 20, am_nop, am_nop, o_iload 5 22, am_nop, o_aald 31 23, o_iload 1 24, o_iload 2 25, o_iload 3 26, o_iload 4 28, am_nop, o_cv 1 5 7 5 0 4 31, am_nop, am_nop, o_aload 0 32],
  [o_iload 5 34, am_nop, o_push (.int 1) 35, o_bin (fun x y => x + y) 36, o_putI 2 14 1 39, am_nop, am_nop, o_iload 5 41, am_nop, o_iret, am_nop, am_nop, am_nop, am_nop, am_nop, am_nop]]
theorem rX2_open_0 : am_allR (fun pc o => am_ok am_tb0 cX2_open RX2 6 (some .int) false pc o ∧ am_mo o) 0 (am_nth [] tX2_open 0) :=
  And.intro ⟨ok_aload_n dX2_open_0 rfl rfl, mo_aload⟩ (
  And.intro ⟨ok_getI dX2_open_1 hclX2 inWX2 (by decide) (by decide) wd_69 (fun _ _ _ => rfl) rfl, mo_getI⟩ (
  And.intro ⟨ok_nop, mo_nop⟩ (
  And.intro ⟨ok_nop, mo_nop⟩ (
  And.intro ⟨ok_istore dX2_open_4 (by decide) rfl, mo_istore⟩ (
  And.intro ⟨ok_nop, mo_nop⟩ (
  And.intro ⟨ok_iload dX2_open_6 rfl, mo_iload⟩ (
  And.intro ⟨ok_nop, mo_nop⟩ (
  And.intro ⟨ok_bipush dX2_open_8 rfl bi_10, mo_push⟩ (
  And.intro ⟨ok_nop, mo_nop⟩ (
  And.intro ⟨ok_icmp_lt dX2_open_10 (by decide) rfl, mo_icmp⟩ (
  And.intro ⟨ok_nop, mo_nop⟩ (
  And.intro ⟨ok_nop, mo_nop⟩ (
  And.intro ⟨ok_ldc dX2_open_13 rfl wd_284, mo_push⟩ (
  And.intro ⟨ok_nop, mo_nop⟩ (
  And.intro ⟨ok_iret dX2_open_15 rfl, mo_iret⟩ (
  trivial))))))))))))))))
theorem rX2_open_1 : am_allR (fun pc o => am_ok am_tb0 cX2_open RX2 6 (some .int) false pc o ∧ am_mo o) 16 (am_nth [] tX2_open 1) :=
  And.intro ⟨ok_aload_n dX2_open_16 rfl rfl, mo_aload⟩ (
  And.intro ⟨ok_getR dX2_open_17 hclX2 inWX2 (by decide) (by decide) wd_66 (fun _ _ _ => rfl) rfl, mo_getR⟩ (
  And.intro ⟨ok_nop, mo_nop⟩ (
  And.intro ⟨ok_nop, mo_nop⟩ (
  And.intro ⟨ok_iload dX2_open_20 rfl, mo_iload⟩ (
  And.intro ⟨ok_nop, mo_nop⟩ (
  And.intro ⟨ok_aald (ci := 1) dX2_open_22 (by decide) rfl rfl, mo_aald⟩ (
  And.intro ⟨ok_iload_n dX2_open_23 rfl rfl, mo_iload⟩ (
  And.intro ⟨ok_iload_n dX2_open_24 rfl rfl, mo_iload⟩ (
  And.intro ⟨ok_iload_n dX2_open_25 rfl rfl, mo_iload⟩ (
  And.intro ⟨ok_iload dX2_open_26 rfl, mo_iload⟩ (
  And.intro ⟨ok_nop, mo_nop⟩ (
  And.intro ⟨ok_cv (z := 7) dX2_open_28 hclX1 (by decide) wd_285 wd_286 wd_287 wd_3 wd_288 rfl (by decide) ⟨rfl, hy_X1_start⟩ rfl, mo_cv⟩ (
  And.intro ⟨ok_nop, mo_nop⟩ (
  And.intro ⟨ok_nop, mo_nop⟩ (
  And.intro ⟨ok_aload_n dX2_open_31 rfl rfl, mo_aload⟩ (
  trivial))))))))))))))))
theorem rX2_open_2 : am_allR (fun pc o => am_ok am_tb0 cX2_open RX2 6 (some .int) false pc o ∧ am_mo o) 32 (am_nth [] tX2_open 2) :=
  And.intro ⟨ok_iload dX2_open_32 rfl, mo_iload⟩ (
  And.intro ⟨ok_nop, mo_nop⟩ (
  And.intro ⟨ok_iconst dX2_open_34 rfl ic_1, mo_push⟩ (
  And.intro ⟨ok_iadd dX2_open_35 rfl, mo_bin⟩ (
  And.intro ⟨ok_putI dX2_open_36 hclX2 inWX2 tyX2_ok nmX2 (by decide) (by decide) wd_69 rfl (tyX2_ok 1 (by decide)) (fun _ _ _ => rfl) rfl, mo_putI⟩ (
  And.intro ⟨ok_nop, mo_nop⟩ (
  And.intro ⟨ok_nop, mo_nop⟩ (
  And.intro ⟨ok_iload dX2_open_39 rfl, mo_iload⟩ (
  And.intro ⟨ok_nop, mo_nop⟩ (
  And.intro ⟨ok_iret dX2_open_41 rfl, mo_iret⟩ (
  And.intro ⟨ok_nop, mo_nop⟩ (
  And.intro ⟨ok_nop, mo_nop⟩ (
  And.intro ⟨ok_nop, mo_nop⟩ (
  And.intro ⟨ok_nop, mo_nop⟩ (
  And.intro ⟨ok_nop, mo_nop⟩ (
  And.intro ⟨ok_nop, mo_nop⟩ (
  trivial))))))))))))))))
theorem kX2_open : am_M1 am_tb0 cX2_open RX2 6 (some .int) false tX2_open := And.intro rX2_open_0 (And.intro rX2_open_1 (And.intro rX2_open_2 (trivial)))
def tX2_openByLot : List (List am_Op) := [[o_aload 0 1, o_cv 2 14 18 1 0 0 4, am_nop, am_nop, o_push (.int 6) 6, am_nop, o_binS (fun x y => x - x / y * y) 7, o_istore 1 8, o_aload 0 9, o_cv 2 14 18 1 0 0 12, am_nop, am_nop, o_push (.int 30) 14, am_nop, o_binS (fun x y => x - x / y * y) 15, o_istore 2 16],
  [o_push (.int 1) 17, o_aload 0 18, o_cv 2 14 18 1 0 0 21, am_nop, am_nop, o_push (.int 60) 23, am_nop, o_binS (fun x y => x - x / y * y) 24, o_bin (fun x y => x + y) 25, o_istore 3 26, o_aload 0 27, o_cv 2 14 18 1 0 0 30, am_nop, am_nop, o_push (.int 8) 32, am_nop],
  [o_binS (fun x y => x - x / y * y) 33, o_istore 4 35, am_nop, o_aload 0 36, o_iload 1 37, o_iload 2 38, o_iload 3 39, o_iload 4 41, am_nop, o_cv 2 14 16 6 1 4 44, am_nop, am_nop, o_pop 45, o_ret, am_nop, am_nop]]
theorem rX2_openByLot_0 : am_allR (fun pc o => am_ok am_tb0 cX2_openByLot RX2 5 none false pc o ∧ am_mo o) 0 (am_nth [] tX2_openByLot 0) :=
  And.intro ⟨ok_aload_n dX2_openByLot_0 rfl rfl, mo_aload⟩ (
  And.intro ⟨ok_cv (z := 18) dX2_openByLot_1 hclX2 (by decide) wd_383 wd_384 wd_385 wd_2 wd_386 rfl (by decide) ⟨rfl, hy_X2_draw⟩ rfl, mo_cv⟩ (
  And.intro ⟨ok_nop, mo_nop⟩ (
  And.intro ⟨ok_nop, mo_nop⟩ (
  And.intro ⟨ok_bipush dX2_openByLot_4 rfl bi_6, mo_push⟩ (
  And.intro ⟨ok_nop, mo_nop⟩ (
  And.intro ⟨ok_irem dX2_openByLot_6 rfl, mo_binS⟩ (
  And.intro ⟨ok_istore_n dX2_openByLot_7 rfl (by decide) rfl, mo_istore⟩ (
  And.intro ⟨ok_aload_n dX2_openByLot_8 rfl rfl, mo_aload⟩ (
  And.intro ⟨ok_cv (z := 18) dX2_openByLot_9 hclX2 (by decide) wd_383 wd_384 wd_385 wd_2 wd_386 rfl (by decide) ⟨rfl, hy_X2_draw⟩ rfl, mo_cv⟩ (
  And.intro ⟨ok_nop, mo_nop⟩ (
  And.intro ⟨ok_nop, mo_nop⟩ (
  And.intro ⟨ok_bipush dX2_openByLot_12 rfl bi_30, mo_push⟩ (
  And.intro ⟨ok_nop, mo_nop⟩ (
  And.intro ⟨ok_irem dX2_openByLot_14 rfl, mo_binS⟩ (
  And.intro ⟨ok_istore_n dX2_openByLot_15 rfl (by decide) rfl, mo_istore⟩ (
  trivial))))))))))))))))
theorem rX2_openByLot_1 : am_allR (fun pc o => am_ok am_tb0 cX2_openByLot RX2 5 none false pc o ∧ am_mo o) 16 (am_nth [] tX2_openByLot 1) :=
  And.intro ⟨ok_iconst dX2_openByLot_16 rfl ic_1, mo_push⟩ (
  And.intro ⟨ok_aload_n dX2_openByLot_17 rfl rfl, mo_aload⟩ (
  And.intro ⟨ok_cv (z := 18) dX2_openByLot_18 hclX2 (by decide) wd_383 wd_384 wd_385 wd_2 wd_386 rfl (by decide) ⟨rfl, hy_X2_draw⟩ rfl, mo_cv⟩ (
  And.intro ⟨ok_nop, mo_nop⟩ (
  And.intro ⟨ok_nop, mo_nop⟩ (
  And.intro ⟨ok_bipush dX2_openByLot_21 rfl bi_60, mo_push⟩ (
  And.intro ⟨ok_nop, mo_nop⟩ (
  And.intro ⟨ok_irem dX2_openByLot_23 rfl, mo_binS⟩ (
  And.intro ⟨ok_iadd dX2_openByLot_24 rfl, mo_bin⟩ (
  And.intro ⟨ok_istore_n dX2_openByLot_25 rfl (by decide) rfl, mo_istore⟩ (
  And.intro ⟨ok_aload_n dX2_openByLot_26 rfl rfl, mo_aload⟩ (
  And.intro ⟨ok_cv (z := 18) dX2_openByLot_27 hclX2 (by decide) wd_383 wd_384 wd_385 wd_2 wd_386 rfl (by decide) ⟨rfl, hy_X2_draw⟩ rfl, mo_cv⟩ (
  And.intro ⟨ok_nop, mo_nop⟩ (
  And.intro ⟨ok_nop, mo_nop⟩ (
  And.intro ⟨ok_bipush dX2_openByLot_30 rfl bi_8, mo_push⟩ (
  And.intro ⟨ok_nop, mo_nop⟩ (
  trivial))))))))))))))))
theorem rX2_openByLot_2 : am_allR (fun pc o => am_ok am_tb0 cX2_openByLot RX2 5 none false pc o ∧ am_mo o) 32 (am_nth [] tX2_openByLot 2) :=
  And.intro ⟨ok_irem dX2_openByLot_32 rfl, mo_binS⟩ (
  And.intro ⟨ok_istore dX2_openByLot_33 (by decide) rfl, mo_istore⟩ (
  And.intro ⟨ok_nop, mo_nop⟩ (
  And.intro ⟨ok_aload_n dX2_openByLot_35 rfl rfl, mo_aload⟩ (
  And.intro ⟨ok_iload_n dX2_openByLot_36 rfl rfl, mo_iload⟩ (
  And.intro ⟨ok_iload_n dX2_openByLot_37 rfl rfl, mo_iload⟩ (
  And.intro ⟨ok_iload_n dX2_openByLot_38 rfl rfl, mo_iload⟩ (
  And.intro ⟨ok_iload dX2_openByLot_39 rfl, mo_iload⟩ (
  And.intro ⟨ok_nop, mo_nop⟩ (
  And.intro ⟨ok_cv (z := 16) dX2_openByLot_41 hclX2 (by decide) wd_388 wd_281 wd_282 wd_2 wd_283 rfl (by decide) ⟨rfl, hy_X2_open⟩ rfl, mo_cv⟩ (
  And.intro ⟨ok_nop, mo_nop⟩ (
  And.intro ⟨ok_nop, mo_nop⟩ (
  And.intro ⟨ok_pop dX2_openByLot_44 rfl, mo_pop⟩ (
  And.intro ⟨ok_ret dX2_openByLot_45 rfl, mo_ret⟩ (
  And.intro ⟨ok_nop, mo_nop⟩ (
  And.intro ⟨ok_nop, mo_nop⟩ (
  trivial))))))))))))))))
theorem kX2_openByLot : am_M1 am_tb0 cX2_openByLot RX2 5 none false tX2_openByLot := And.intro rX2_openByLot_0 (And.intro rX2_openByLot_1 (And.intro rX2_openByLot_2 (trivial)))
def tX2_draw : List (List am_Op) := [[o_aload 0 1, o_aload 0 2, o_getI 2 14 13 5, am_nop, am_nop, o_push (.int 1103515245) 7, am_nop, o_bin (fun x y => x * y) 8, o_push (.int 12345) 11, am_nop, am_nop, o_bin (fun x y => x + y) 12, o_putI 2 14 13 15, am_nop, am_nop, o_aload 0 16],
  [o_getI 2 14 13 19, am_nop, am_nop, o_push (.int 8) 21, am_nop, o_bin (fun x y => (x.toUInt32 >>> (y.toUInt32 &&& Int32.toUInt32 31)).toInt32) 22, o_iret, am_nop, am_nop, am_nop, am_nop, am_nop, am_nop, am_nop, am_nop, am_nop]]
theorem rX2_draw_0 : am_allR (fun pc o => am_ok am_tb0 cX2_draw RX2 1 (some .int) false pc o ∧ am_mo o) 0 (am_nth [] tX2_draw 0) :=
  And.intro ⟨ok_aload_n dX2_draw_0 rfl rfl, mo_aload⟩ (
  And.intro ⟨ok_aload_n dX2_draw_1 rfl rfl, mo_aload⟩ (
  And.intro ⟨ok_getI dX2_draw_2 hclX2 inWX2 (by decide) (by decide) wd_96 (fun _ _ _ => rfl) rfl, mo_getI⟩ (
  And.intro ⟨ok_nop, mo_nop⟩ (
  And.intro ⟨ok_nop, mo_nop⟩ (
  And.intro ⟨ok_ldc dX2_draw_5 rfl wd_387, mo_push⟩ (
  And.intro ⟨ok_nop, mo_nop⟩ (
  And.intro ⟨ok_imul dX2_draw_7 rfl, mo_bin⟩ (
  And.intro ⟨ok_sipush dX2_draw_8 rfl si_12345, mo_push⟩ (
  And.intro ⟨ok_nop, mo_nop⟩ (
  And.intro ⟨ok_nop, mo_nop⟩ (
  And.intro ⟨ok_iadd dX2_draw_11 rfl, mo_bin⟩ (
  And.intro ⟨ok_putI dX2_draw_12 hclX2 inWX2 tyX2_ok nmX2 (by decide) (by decide) wd_96 rfl (tyX2_ok 13 (by decide)) (fun _ _ _ => rfl) rfl, mo_putI⟩ (
  And.intro ⟨ok_nop, mo_nop⟩ (
  And.intro ⟨ok_nop, mo_nop⟩ (
  And.intro ⟨ok_aload_n dX2_draw_15 rfl rfl, mo_aload⟩ (
  trivial))))))))))))))))
theorem rX2_draw_1 : am_allR (fun pc o => am_ok am_tb0 cX2_draw RX2 1 (some .int) false pc o ∧ am_mo o) 16 (am_nth [] tX2_draw 1) :=
  And.intro ⟨ok_getI dX2_draw_16 hclX2 inWX2 (by decide) (by decide) wd_96 (fun _ _ _ => rfl) rfl, mo_getI⟩ (
  And.intro ⟨ok_nop, mo_nop⟩ (
  And.intro ⟨ok_nop, mo_nop⟩ (
  And.intro ⟨ok_bipush dX2_draw_19 rfl bi_8, mo_push⟩ (
  And.intro ⟨ok_nop, mo_nop⟩ (
  And.intro ⟨ok_iushr dX2_draw_21 rfl, mo_bin⟩ (
  And.intro ⟨ok_iret dX2_draw_22 rfl, mo_iret⟩ (
  And.intro ⟨ok_nop, mo_nop⟩ (
  And.intro ⟨ok_nop, mo_nop⟩ (
  And.intro ⟨ok_nop, mo_nop⟩ (
  And.intro ⟨ok_nop, mo_nop⟩ (
  And.intro ⟨ok_nop, mo_nop⟩ (
  And.intro ⟨ok_nop, mo_nop⟩ (
  And.intro ⟨ok_nop, mo_nop⟩ (
  And.intro ⟨ok_nop, mo_nop⟩ (
  And.intro ⟨ok_nop, mo_nop⟩ (
  trivial))))))))))))))))
theorem kX2_draw : am_M1 am_tb0 cX2_draw RX2 1 (some .int) false tX2_draw := And.intro rX2_draw_0 (And.intro rX2_draw_1 (trivial))
def tX2_roomAfter : List (List am_Op) := [[o_aload 0 1, o_getI 2 14 1 4, am_nop, am_nop, o_push (.int 10) 6, am_nop, o_icmp (fun x y => y ≤ x) 14 9, am_nop, am_nop, o_aload 0 10, o_getI 2 14 1 13, am_nop, am_nop, o_iret, o_push (.int 0) 15, o_istore 3 16],
  [o_iload 3 17, o_aload 0 18, o_getI 2 14 1 21, am_nop, am_nop, o_icmp (fun x y => y ≤ x) 64 24, am_nop, am_nop, o_aload 0 25, o_getR 2 14 0 28, am_nop, am_nop, o_iload 3 29, o_aald 31 30, o_getI 1 5 2 33, am_nop],
  [am_nop, o_aload 0 34, o_getR 2 14 0 37, am_nop, am_nop, o_iload 3 38, o_aald 31 39, o_aload 1 40, o_same 43 47, am_nop, am_nop, o_iload 2 44, o_goto 48, am_nop, am_nop, o_push (.int 0) 48],
  [o_bin (fun x y => x - y) 49, o_istore 4 51, am_nop, o_iload 4 53, am_nop, o_if (fun x => ¬ x = 0) 58 56, am_nop, am_nop, o_iload 3 57, o_iret, o_iinc 3 1 61, am_nop, am_nop, o_goto 16, am_nop, am_nop],
  [o_push (.int (-1)) 65, o_iret, am_nop, am_nop, am_nop, am_nop, am_nop, am_nop, am_nop, am_nop, am_nop, am_nop, am_nop, am_nop, am_nop, am_nop]]
theorem rX2_roomAfter_0 : am_allR (fun pc o => am_ok am_tb0 cX2_roomAfter RX2 5 (some .int) false pc o ∧ am_mo o) 0 (am_nth [] tX2_roomAfter 0) :=
  And.intro ⟨ok_aload_n dX2_roomAfter_0 rfl rfl, mo_aload⟩ (
  And.intro ⟨ok_getI dX2_roomAfter_1 hclX2 inWX2 (by decide) (by decide) wd_69 (fun _ _ _ => rfl) rfl, mo_getI⟩ (
  And.intro ⟨ok_nop, mo_nop⟩ (
  And.intro ⟨ok_nop, mo_nop⟩ (
  And.intro ⟨ok_bipush dX2_roomAfter_4 rfl bi_10, mo_push⟩ (
  And.intro ⟨ok_nop, mo_nop⟩ (
  And.intro ⟨ok_icmp_ge dX2_roomAfter_6 (by decide) rfl, mo_icmp⟩ (
  And.intro ⟨ok_nop, mo_nop⟩ (
  And.intro ⟨ok_nop, mo_nop⟩ (
  And.intro ⟨ok_aload_n dX2_roomAfter_9 rfl rfl, mo_aload⟩ (
  And.intro ⟨ok_getI dX2_roomAfter_10 hclX2 inWX2 (by decide) (by decide) wd_69 (fun _ _ _ => rfl) rfl, mo_getI⟩ (
  And.intro ⟨ok_nop, mo_nop⟩ (
  And.intro ⟨ok_nop, mo_nop⟩ (
  And.intro ⟨ok_iret dX2_roomAfter_13 rfl, mo_iret⟩ (
  And.intro ⟨ok_iconst dX2_roomAfter_14 rfl ic_0, mo_push⟩ (
  And.intro ⟨ok_istore_n dX2_roomAfter_15 rfl (by decide) rfl, mo_istore⟩ (
  trivial))))))))))))))))
theorem rX2_roomAfter_1 : am_allR (fun pc o => am_ok am_tb0 cX2_roomAfter RX2 5 (some .int) false pc o ∧ am_mo o) 16 (am_nth [] tX2_roomAfter 1) :=
  And.intro ⟨ok_iload_n dX2_roomAfter_16 rfl rfl, mo_iload⟩ (
  And.intro ⟨ok_aload_n dX2_roomAfter_17 rfl rfl, mo_aload⟩ (
  And.intro ⟨ok_getI dX2_roomAfter_18 hclX2 inWX2 (by decide) (by decide) wd_69 (fun _ _ _ => rfl) rfl, mo_getI⟩ (
  And.intro ⟨ok_nop, mo_nop⟩ (
  And.intro ⟨ok_nop, mo_nop⟩ (
  And.intro ⟨ok_icmp_ge dX2_roomAfter_21 (by decide) rfl, mo_icmp⟩ (
  And.intro ⟨ok_nop, mo_nop⟩ (
  And.intro ⟨ok_nop, mo_nop⟩ (
  And.intro ⟨ok_aload_n dX2_roomAfter_24 rfl rfl, mo_aload⟩ (
  And.intro ⟨ok_getR dX2_roomAfter_25 hclX2 inWX2 (by decide) (by decide) wd_66 (fun _ _ _ => rfl) rfl, mo_getR⟩ (
  And.intro ⟨ok_nop, mo_nop⟩ (
  And.intro ⟨ok_nop, mo_nop⟩ (
  And.intro ⟨ok_iload_n dX2_roomAfter_28 rfl rfl, mo_iload⟩ (
  And.intro ⟨ok_aald (ci := 1) dX2_roomAfter_29 (by decide) rfl rfl, mo_aald⟩ (
  And.intro ⟨ok_getIN dX2_roomAfter_30 hclX1 inWX1 (by decide) (by decide) wn_49 (fun _ _ _ => rfl) rfl, mo_getI⟩ (
  And.intro ⟨ok_nop, mo_nop⟩ (
  trivial))))))))))))))))
theorem rX2_roomAfter_2 : am_allR (fun pc o => am_ok am_tb0 cX2_roomAfter RX2 5 (some .int) false pc o ∧ am_mo o) 32 (am_nth [] tX2_roomAfter 2) :=
  And.intro ⟨ok_nop, mo_nop⟩ (
  And.intro ⟨ok_aload_n dX2_roomAfter_33 rfl rfl, mo_aload⟩ (
  And.intro ⟨ok_getR dX2_roomAfter_34 hclX2 inWX2 (by decide) (by decide) wd_66 (fun _ _ _ => rfl) rfl, mo_getR⟩ (
  And.intro ⟨ok_nop, mo_nop⟩ (
  And.intro ⟨ok_nop, mo_nop⟩ (
  And.intro ⟨ok_iload_n dX2_roomAfter_37 rfl rfl, mo_iload⟩ (
  And.intro ⟨ok_aald (ci := 1) dX2_roomAfter_38 (by decide) rfl rfl, mo_aald⟩ (
  And.intro ⟨ok_aload_n dX2_roomAfter_39 rfl rfl, mo_aload⟩ (
  And.intro ⟨ok_acmpne dX2_roomAfter_40 (by decide) rfl, mo_same⟩ (
  And.intro ⟨ok_nop, mo_nop⟩ (
  And.intro ⟨ok_nop, mo_nop⟩ (
  And.intro ⟨ok_iload_n dX2_roomAfter_43 rfl rfl, mo_iload⟩ (
  And.intro ⟨ok_goto dX2_roomAfter_44 (by decide), mo_goto⟩ (
  And.intro ⟨ok_nop, mo_nop⟩ (
  And.intro ⟨ok_nop, mo_nop⟩ (
  And.intro ⟨ok_iconst dX2_roomAfter_47 rfl ic_0, mo_push⟩ (
  trivial))))))))))))))))
theorem rX2_roomAfter_3 : am_allR (fun pc o => am_ok am_tb0 cX2_roomAfter RX2 5 (some .int) false pc o ∧ am_mo o) 48 (am_nth [] tX2_roomAfter 3) :=
  And.intro ⟨ok_isub dX2_roomAfter_48 rfl, mo_bin⟩ (
  And.intro ⟨ok_istore dX2_roomAfter_49 (by decide) rfl, mo_istore⟩ (
  And.intro ⟨ok_nop, mo_nop⟩ (
  And.intro ⟨ok_iload dX2_roomAfter_51 rfl, mo_iload⟩ (
  And.intro ⟨ok_nop, mo_nop⟩ (
  And.intro ⟨ok_if_ne dX2_roomAfter_53 (by decide) rfl, mo_if⟩ (
  And.intro ⟨ok_nop, mo_nop⟩ (
  And.intro ⟨ok_nop, mo_nop⟩ (
  And.intro ⟨ok_iload_n dX2_roomAfter_56 rfl rfl, mo_iload⟩ (
  And.intro ⟨ok_iret dX2_roomAfter_57 rfl, mo_iret⟩ (
  And.intro ⟨ok_iinc dX2_roomAfter_58 ic_1 (by decide) rfl, mo_iinc⟩ (
  And.intro ⟨ok_nop, mo_nop⟩ (
  And.intro ⟨ok_nop, mo_nop⟩ (
  And.intro ⟨ok_goto dX2_roomAfter_61 (by decide), mo_goto⟩ (
  And.intro ⟨ok_nop, mo_nop⟩ (
  And.intro ⟨ok_nop, mo_nop⟩ (
  trivial))))))))))))))))
theorem rX2_roomAfter_4 : am_allR (fun pc o => am_ok am_tb0 cX2_roomAfter RX2 5 (some .int) false pc o ∧ am_mo o) 64 (am_nth [] tX2_roomAfter 4) :=
  And.intro ⟨ok_iconst dX2_roomAfter_64 rfl ic_m1, mo_push⟩ (
  And.intro ⟨ok_iret dX2_roomAfter_65 rfl, mo_iret⟩ (
  And.intro ⟨ok_nop, mo_nop⟩ (
  And.intro ⟨ok_nop, mo_nop⟩ (
  And.intro ⟨ok_nop, mo_nop⟩ (
  And.intro ⟨ok_nop, mo_nop⟩ (
  And.intro ⟨ok_nop, mo_nop⟩ (
  And.intro ⟨ok_nop, mo_nop⟩ (
  And.intro ⟨ok_nop, mo_nop⟩ (
  And.intro ⟨ok_nop, mo_nop⟩ (
  And.intro ⟨ok_nop, mo_nop⟩ (
  And.intro ⟨ok_nop, mo_nop⟩ (
  And.intro ⟨ok_nop, mo_nop⟩ (
  And.intro ⟨ok_nop, mo_nop⟩ (
  And.intro ⟨ok_nop, mo_nop⟩ (
  And.intro ⟨ok_nop, mo_nop⟩ (
  trivial))))))))))))))))
theorem kX2_roomAfter : am_M1 am_tb0 cX2_roomAfter RX2 5 (some .int) false tX2_roomAfter := And.intro rX2_roomAfter_0 (And.intro rX2_roomAfter_1 (And.intro rX2_roomAfter_2 (And.intro rX2_roomAfter_3 (And.intro rX2_roomAfter_4 (trivial)))))
def tX2_earthOf : List (List am_Op) := [[o_iload 1 1, o_aload 0 2, o_getI 2 14 9 5, am_nop, am_nop, o_bin (fun x y => x * y) 6, o_push (.int 100) 8, am_nop, o_binS (fun x y => x / y) 9, o_iret]]
theorem rX2_earthOf_0 : am_allR (fun pc o => am_ok am_tb0 cX2_earthOf RX2 2 (some .int) false pc o ∧ am_mo o) 0 (am_nth [] tX2_earthOf 0) :=
  And.intro ⟨ok_iload_n dX2_earthOf_0 rfl rfl, mo_iload⟩ (
  And.intro ⟨ok_aload_n dX2_earthOf_1 rfl rfl, mo_aload⟩ (
  And.intro ⟨ok_getI dX2_earthOf_2 hclX2 inWX2 (by decide) (by decide) wd_88 (fun _ _ _ => rfl) rfl, mo_getI⟩ (
  And.intro ⟨ok_nop, mo_nop⟩ (
  And.intro ⟨ok_nop, mo_nop⟩ (
  And.intro ⟨ok_imul dX2_earthOf_5 rfl, mo_bin⟩ (
  And.intro ⟨ok_bipush dX2_earthOf_6 rfl bi_100, mo_push⟩ (
  And.intro ⟨ok_nop, mo_nop⟩ (
  And.intro ⟨ok_idiv dX2_earthOf_8 rfl, mo_binS⟩ (
  And.intro ⟨ok_iret dX2_earthOf_9 rfl, mo_iret⟩ (
  trivial))))))))))
theorem kX2_earthOf : am_M1 am_tb0 cX2_earthOf RX2 2 (some .int) false tX2_earthOf := And.intro rX2_earthOf_0 (trivial)
def tX2_canFill : List (List am_Op) := [[o_iload 2 1, o_aload 1 2, o_getI 1 5 2 5, am_nop, am_nop, o_icmp (fun x y => y < x) 12 8, am_nop, am_nop, o_push (.int 1) 9, o_goto 13, am_nop, am_nop, o_push (.int 0) 13, o_istore 4 15, am_nop, o_iload 3 16],
  [o_aload 1 17, o_getI 1 5 1 20, am_nop, am_nop, o_bin (fun x y => x - y) 21, o_mabs 24, am_nop, am_nop, o_aload 0 25, o_getI 2 14 8 28, am_nop, am_nop, o_icmp (fun x y => y < x) 35 31, am_nop, am_nop, o_push (.int 1) 32],
  [o_goto 36, am_nop, am_nop, o_push (.int 0) 36, o_istore 5 38, am_nop, o_iload 2 39, o_push (.int 2) 40, o_binS (fun x y => x - x / y * y) 41, o_if (fun x => ¬ x = 0) 48 44, am_nop, am_nop, o_push (.int 1) 45, o_goto 49, am_nop, am_nop],
  [o_push (.int 0) 49, o_istore 6 51, am_nop, o_aload 1 52, o_getI 1 5 0 55, am_nop, am_nop, o_sw [(1, 88), (2, 139), (3, 112), (4, 160), (5, 189)] 192, am_nop, am_nop, am_nop, am_nop, am_nop, am_nop, am_nop, am_nop],
  [am_nop, am_nop, am_nop, am_nop, am_nop, am_nop, am_nop, am_nop, am_nop, am_nop, am_nop, am_nop, am_nop, am_nop, am_nop, am_nop],
  [am_nop, am_nop, am_nop, am_nop, am_nop, am_nop, am_nop, am_nop, o_iload 4 90, am_nop, o_if (fun x => x = 0) 110 93, am_nop, am_nop, o_iload 5 95, am_nop, o_if (fun x => x = 0) 110 98],
  [am_nop, am_nop, o_aload 0 99, o_aload 1 100, o_cv 2 14 22 3 2 1 103, am_nop, am_nop, o_if (fun x => x = 0) 110 106, am_nop, am_nop, o_push (.int 1) 107, o_goto 111, am_nop, am_nop, o_push (.int 0) 111, o_nret .boolean],
  [o_iload 2 113, o_aload 1 114, o_getI 1 5 2 117, am_nop, am_nop, o_icmp (fun x y => ¬ x = y) 137 120, am_nop, am_nop, o_iload 5 122, am_nop, o_if (fun x => x = 0) 137 125, am_nop, am_nop, o_aload 0 126, o_aload 1 127, o_cv 2 14 22 3 2 1 130],
  [am_nop, am_nop, o_if (fun x => x = 0) 137 133, am_nop, am_nop, o_push (.int 1) 134, o_goto 138, am_nop, am_nop, o_push (.int 0) 138, o_nret .boolean, o_iload 4 141, am_nop, o_if (fun x => x = 0) 158 144, am_nop, am_nop],
  [o_iload 5 146, am_nop, o_if (fun x => x = 0) 158 149, am_nop, am_nop, o_iload 6 151, am_nop, o_if (fun x => x = 0) 158 154, am_nop, am_nop, o_push (.int 1) 155, o_goto 159, am_nop, am_nop, o_push (.int 0) 159, o_nret .boolean],
  [o_iload 4 162, am_nop, o_if (fun x => x = 0) 187 165, am_nop, am_nop, o_iload 5 167, am_nop, o_if (fun x => x = 0) 175 170, am_nop, am_nop, o_iload 6 172, am_nop, o_if (fun x => ¬ x = 0) 183 175, am_nop, am_nop, o_iload 3 176],
  [o_aload 1 177, o_getI 1 5 1 180, am_nop, am_nop, o_icmp (fun x y => ¬ x = y) 187 183, am_nop, am_nop, o_push (.int 1) 184, o_goto 188, am_nop, am_nop, o_push (.int 0) 188, o_nret .boolean, o_iload 4 191, am_nop, o_nret .boolean],
  [o_iload 4 194, am_nop, o_if (fun x => x = 0) 206 197, am_nop, am_nop, o_iload 5 199, am_nop, o_if (fun x => x = 0) 206 202, am_nop, am_nop, o_push (.int 1) 203, o_goto 207, am_nop, am_nop, o_push (.int 0) 207, o_nret .boolean]]
theorem rX2_canFill_0 : am_allR (fun pc o => am_ok am_tb0 cX2_canFill RX2 7 (some .boolean) false pc o ∧ am_mo o) 0 (am_nth [] tX2_canFill 0) :=
  And.intro ⟨ok_iload_n dX2_canFill_0 rfl rfl, mo_iload⟩ (
  And.intro ⟨ok_aload_n dX2_canFill_1 rfl rfl, mo_aload⟩ (
  And.intro ⟨ok_getIN dX2_canFill_2 hclX1 inWX1 (by decide) (by decide) wn_49 (fun _ _ _ => rfl) rfl, mo_getI⟩ (
  And.intro ⟨ok_nop, mo_nop⟩ (
  And.intro ⟨ok_nop, mo_nop⟩ (
  And.intro ⟨ok_icmp_gt dX2_canFill_5 (by decide) rfl, mo_icmp⟩ (
  And.intro ⟨ok_nop, mo_nop⟩ (
  And.intro ⟨ok_nop, mo_nop⟩ (
  And.intro ⟨ok_iconst dX2_canFill_8 rfl ic_1, mo_push⟩ (
  And.intro ⟨ok_goto dX2_canFill_9 (by decide), mo_goto⟩ (
  And.intro ⟨ok_nop, mo_nop⟩ (
  And.intro ⟨ok_nop, mo_nop⟩ (
  And.intro ⟨ok_iconst dX2_canFill_12 rfl ic_0, mo_push⟩ (
  And.intro ⟨ok_istore dX2_canFill_13 (by decide) rfl, mo_istore⟩ (
  And.intro ⟨ok_nop, mo_nop⟩ (
  And.intro ⟨ok_iload_n dX2_canFill_15 rfl rfl, mo_iload⟩ (
  trivial))))))))))))))))
theorem rX2_canFill_1 : am_allR (fun pc o => am_ok am_tb0 cX2_canFill RX2 7 (some .boolean) false pc o ∧ am_mo o) 16 (am_nth [] tX2_canFill 1) :=
  And.intro ⟨ok_aload_n dX2_canFill_16 rfl rfl, mo_aload⟩ (
  And.intro ⟨ok_getIN dX2_canFill_17 hclX1 inWX1 (by decide) (by decide) wn_46 (fun _ _ _ => rfl) rfl, mo_getI⟩ (
  And.intro ⟨ok_nop, mo_nop⟩ (
  And.intro ⟨ok_nop, mo_nop⟩ (
  And.intro ⟨ok_isub dX2_canFill_20 rfl, mo_bin⟩ (
  And.intro ⟨ok_mabs dX2_canFill_21 wd_408 wd_409 wd_10 wm_mabs rfl, mo_mabs⟩ (
  And.intro ⟨ok_nop, mo_nop⟩ (
  And.intro ⟨ok_nop, mo_nop⟩ (
  And.intro ⟨ok_aload_n dX2_canFill_24 rfl rfl, mo_aload⟩ (
  And.intro ⟨ok_getI dX2_canFill_25 hclX2 inWX2 (by decide) (by decide) wd_86 (fun _ _ _ => rfl) rfl, mo_getI⟩ (
  And.intro ⟨ok_nop, mo_nop⟩ (
  And.intro ⟨ok_nop, mo_nop⟩ (
  And.intro ⟨ok_icmp_gt dX2_canFill_28 (by decide) rfl, mo_icmp⟩ (
  And.intro ⟨ok_nop, mo_nop⟩ (
  And.intro ⟨ok_nop, mo_nop⟩ (
  And.intro ⟨ok_iconst dX2_canFill_31 rfl ic_1, mo_push⟩ (
  trivial))))))))))))))))
theorem rX2_canFill_2 : am_allR (fun pc o => am_ok am_tb0 cX2_canFill RX2 7 (some .boolean) false pc o ∧ am_mo o) 32 (am_nth [] tX2_canFill 2) :=
  And.intro ⟨ok_goto dX2_canFill_32 (by decide), mo_goto⟩ (
  And.intro ⟨ok_nop, mo_nop⟩ (
  And.intro ⟨ok_nop, mo_nop⟩ (
  And.intro ⟨ok_iconst dX2_canFill_35 rfl ic_0, mo_push⟩ (
  And.intro ⟨ok_istore dX2_canFill_36 (by decide) rfl, mo_istore⟩ (
  And.intro ⟨ok_nop, mo_nop⟩ (
  And.intro ⟨ok_iload_n dX2_canFill_38 rfl rfl, mo_iload⟩ (
  And.intro ⟨ok_iconst dX2_canFill_39 rfl ic_2, mo_push⟩ (
  And.intro ⟨ok_irem dX2_canFill_40 rfl, mo_binS⟩ (
  And.intro ⟨ok_if_ne dX2_canFill_41 (by decide) rfl, mo_if⟩ (
  And.intro ⟨ok_nop, mo_nop⟩ (
  And.intro ⟨ok_nop, mo_nop⟩ (
  And.intro ⟨ok_iconst dX2_canFill_44 rfl ic_1, mo_push⟩ (
  And.intro ⟨ok_goto dX2_canFill_45 (by decide), mo_goto⟩ (
  And.intro ⟨ok_nop, mo_nop⟩ (
  And.intro ⟨ok_nop, mo_nop⟩ (
  trivial))))))))))))))))
theorem rX2_canFill_3 : am_allR (fun pc o => am_ok am_tb0 cX2_canFill RX2 7 (some .boolean) false pc o ∧ am_mo o) 48 (am_nth [] tX2_canFill 3) :=
  And.intro ⟨ok_iconst dX2_canFill_48 rfl ic_0, mo_push⟩ (
  And.intro ⟨ok_istore dX2_canFill_49 (by decide) rfl, mo_istore⟩ (
  And.intro ⟨ok_nop, mo_nop⟩ (
  And.intro ⟨ok_aload_n dX2_canFill_51 rfl rfl, mo_aload⟩ (
  And.intro ⟨ok_getIN dX2_canFill_52 hclX1 inWX1 (by decide) (by decide) wn_43 (fun _ _ _ => rfl) rfl, mo_getI⟩ (
  And.intro ⟨ok_nop, mo_nop⟩ (
  And.intro ⟨ok_nop, mo_nop⟩ (
  And.intro ⟨ok_table dX2_canFill_55 (by decide) (by decide +kernel) (by decide +kernel), mo_sw⟩ (
  And.intro ⟨ok_nop, mo_nop⟩ (
  And.intro ⟨ok_nop, mo_nop⟩ (
  And.intro ⟨ok_nop, mo_nop⟩ (
  And.intro ⟨ok_nop, mo_nop⟩ (
  And.intro ⟨ok_nop, mo_nop⟩ (
  And.intro ⟨ok_nop, mo_nop⟩ (
  And.intro ⟨ok_nop, mo_nop⟩ (
  And.intro ⟨ok_nop, mo_nop⟩ (
  trivial))))))))))))))))
theorem rX2_canFill_4 : am_allR (fun pc o => am_ok am_tb0 cX2_canFill RX2 7 (some .boolean) false pc o ∧ am_mo o) 64 (am_nth [] tX2_canFill 4) :=
  And.intro ⟨ok_nop, mo_nop⟩ (
  And.intro ⟨ok_nop, mo_nop⟩ (
  And.intro ⟨ok_nop, mo_nop⟩ (
  And.intro ⟨ok_nop, mo_nop⟩ (
  And.intro ⟨ok_nop, mo_nop⟩ (
  And.intro ⟨ok_nop, mo_nop⟩ (
  And.intro ⟨ok_nop, mo_nop⟩ (
  And.intro ⟨ok_nop, mo_nop⟩ (
  And.intro ⟨ok_nop, mo_nop⟩ (
  And.intro ⟨ok_nop, mo_nop⟩ (
  And.intro ⟨ok_nop, mo_nop⟩ (
  And.intro ⟨ok_nop, mo_nop⟩ (
  And.intro ⟨ok_nop, mo_nop⟩ (
  And.intro ⟨ok_nop, mo_nop⟩ (
  And.intro ⟨ok_nop, mo_nop⟩ (
  And.intro ⟨ok_nop, mo_nop⟩ (
  trivial))))))))))))))))
theorem rX2_canFill_5 : am_allR (fun pc o => am_ok am_tb0 cX2_canFill RX2 7 (some .boolean) false pc o ∧ am_mo o) 80 (am_nth [] tX2_canFill 5) :=
  And.intro ⟨ok_nop, mo_nop⟩ (
  And.intro ⟨ok_nop, mo_nop⟩ (
  And.intro ⟨ok_nop, mo_nop⟩ (
  And.intro ⟨ok_nop, mo_nop⟩ (
  And.intro ⟨ok_nop, mo_nop⟩ (
  And.intro ⟨ok_nop, mo_nop⟩ (
  And.intro ⟨ok_nop, mo_nop⟩ (
  And.intro ⟨ok_nop, mo_nop⟩ (
  And.intro ⟨ok_iload dX2_canFill_88 rfl, mo_iload⟩ (
  And.intro ⟨ok_nop, mo_nop⟩ (
  And.intro ⟨ok_if_eq dX2_canFill_90 (by decide) rfl, mo_if⟩ (
  And.intro ⟨ok_nop, mo_nop⟩ (
  And.intro ⟨ok_nop, mo_nop⟩ (
  And.intro ⟨ok_iload dX2_canFill_93 rfl, mo_iload⟩ (
  And.intro ⟨ok_nop, mo_nop⟩ (
  And.intro ⟨ok_if_eq dX2_canFill_95 (by decide) rfl, mo_if⟩ (
  trivial))))))))))))))))
theorem rX2_canFill_6 : am_allR (fun pc o => am_ok am_tb0 cX2_canFill RX2 7 (some .boolean) false pc o ∧ am_mo o) 96 (am_nth [] tX2_canFill 6) :=
  And.intro ⟨ok_nop, mo_nop⟩ (
  And.intro ⟨ok_nop, mo_nop⟩ (
  And.intro ⟨ok_aload_n dX2_canFill_98 rfl rfl, mo_aload⟩ (
  And.intro ⟨ok_aload_n dX2_canFill_99 rfl rfl, mo_aload⟩ (
  And.intro ⟨ok_cv (z := 22) dX2_canFill_100 hclX2 (by decide) wd_411 wd_412 wd_413 wd_2 wd_414 rfl (by decide) ⟨rfl, hy_X2_isOldEnough⟩ rfl, mo_cv⟩ (
  And.intro ⟨ok_nop, mo_nop⟩ (
  And.intro ⟨ok_nop, mo_nop⟩ (
  And.intro ⟨ok_if_eq dX2_canFill_103 (by decide) rfl, mo_if⟩ (
  And.intro ⟨ok_nop, mo_nop⟩ (
  And.intro ⟨ok_nop, mo_nop⟩ (
  And.intro ⟨ok_iconst dX2_canFill_106 rfl ic_1, mo_push⟩ (
  And.intro ⟨ok_goto dX2_canFill_107 (by decide), mo_goto⟩ (
  And.intro ⟨ok_nop, mo_nop⟩ (
  And.intro ⟨ok_nop, mo_nop⟩ (
  And.intro ⟨ok_iconst dX2_canFill_110 rfl ic_0, mo_push⟩ (
  And.intro ⟨ok_nret dX2_canFill_111 rfl, mo_nret⟩ (
  trivial))))))))))))))))
theorem rX2_canFill_7 : am_allR (fun pc o => am_ok am_tb0 cX2_canFill RX2 7 (some .boolean) false pc o ∧ am_mo o) 112 (am_nth [] tX2_canFill 7) :=
  And.intro ⟨ok_iload_n dX2_canFill_112 rfl rfl, mo_iload⟩ (
  And.intro ⟨ok_aload_n dX2_canFill_113 rfl rfl, mo_aload⟩ (
  And.intro ⟨ok_getIN dX2_canFill_114 hclX1 inWX1 (by decide) (by decide) wn_49 (fun _ _ _ => rfl) rfl, mo_getI⟩ (
  And.intro ⟨ok_nop, mo_nop⟩ (
  And.intro ⟨ok_nop, mo_nop⟩ (
  And.intro ⟨ok_icmp_ne dX2_canFill_117 (by decide) rfl, mo_icmp⟩ (
  And.intro ⟨ok_nop, mo_nop⟩ (
  And.intro ⟨ok_nop, mo_nop⟩ (
  And.intro ⟨ok_iload dX2_canFill_120 rfl, mo_iload⟩ (
  And.intro ⟨ok_nop, mo_nop⟩ (
  And.intro ⟨ok_if_eq dX2_canFill_122 (by decide) rfl, mo_if⟩ (
  And.intro ⟨ok_nop, mo_nop⟩ (
  And.intro ⟨ok_nop, mo_nop⟩ (
  And.intro ⟨ok_aload_n dX2_canFill_125 rfl rfl, mo_aload⟩ (
  And.intro ⟨ok_aload_n dX2_canFill_126 rfl rfl, mo_aload⟩ (
  And.intro ⟨ok_cv (z := 22) dX2_canFill_127 hclX2 (by decide) wd_411 wd_412 wd_413 wd_2 wd_414 rfl (by decide) ⟨rfl, hy_X2_isOldEnough⟩ rfl, mo_cv⟩ (
  trivial))))))))))))))))
theorem rX2_canFill_8 : am_allR (fun pc o => am_ok am_tb0 cX2_canFill RX2 7 (some .boolean) false pc o ∧ am_mo o) 128 (am_nth [] tX2_canFill 8) :=
  And.intro ⟨ok_nop, mo_nop⟩ (
  And.intro ⟨ok_nop, mo_nop⟩ (
  And.intro ⟨ok_if_eq dX2_canFill_130 (by decide) rfl, mo_if⟩ (
  And.intro ⟨ok_nop, mo_nop⟩ (
  And.intro ⟨ok_nop, mo_nop⟩ (
  And.intro ⟨ok_iconst dX2_canFill_133 rfl ic_1, mo_push⟩ (
  And.intro ⟨ok_goto dX2_canFill_134 (by decide), mo_goto⟩ (
  And.intro ⟨ok_nop, mo_nop⟩ (
  And.intro ⟨ok_nop, mo_nop⟩ (
  And.intro ⟨ok_iconst dX2_canFill_137 rfl ic_0, mo_push⟩ (
  And.intro ⟨ok_nret dX2_canFill_138 rfl, mo_nret⟩ (
  And.intro ⟨ok_iload dX2_canFill_139 rfl, mo_iload⟩ (
  And.intro ⟨ok_nop, mo_nop⟩ (
  And.intro ⟨ok_if_eq dX2_canFill_141 (by decide) rfl, mo_if⟩ (
  And.intro ⟨ok_nop, mo_nop⟩ (
  And.intro ⟨ok_nop, mo_nop⟩ (
  trivial))))))))))))))))
theorem rX2_canFill_9 : am_allR (fun pc o => am_ok am_tb0 cX2_canFill RX2 7 (some .boolean) false pc o ∧ am_mo o) 144 (am_nth [] tX2_canFill 9) :=
  And.intro ⟨ok_iload dX2_canFill_144 rfl, mo_iload⟩ (
  And.intro ⟨ok_nop, mo_nop⟩ (
  And.intro ⟨ok_if_eq dX2_canFill_146 (by decide) rfl, mo_if⟩ (
  And.intro ⟨ok_nop, mo_nop⟩ (
  And.intro ⟨ok_nop, mo_nop⟩ (
  And.intro ⟨ok_iload dX2_canFill_149 rfl, mo_iload⟩ (
  And.intro ⟨ok_nop, mo_nop⟩ (
  And.intro ⟨ok_if_eq dX2_canFill_151 (by decide) rfl, mo_if⟩ (
  And.intro ⟨ok_nop, mo_nop⟩ (
  And.intro ⟨ok_nop, mo_nop⟩ (
  And.intro ⟨ok_iconst dX2_canFill_154 rfl ic_1, mo_push⟩ (
  And.intro ⟨ok_goto dX2_canFill_155 (by decide), mo_goto⟩ (
  And.intro ⟨ok_nop, mo_nop⟩ (
  And.intro ⟨ok_nop, mo_nop⟩ (
  And.intro ⟨ok_iconst dX2_canFill_158 rfl ic_0, mo_push⟩ (
  And.intro ⟨ok_nret dX2_canFill_159 rfl, mo_nret⟩ (
  trivial))))))))))))))))
theorem rX2_canFill_10 : am_allR (fun pc o => am_ok am_tb0 cX2_canFill RX2 7 (some .boolean) false pc o ∧ am_mo o) 160 (am_nth [] tX2_canFill 10) :=
  And.intro ⟨ok_iload dX2_canFill_160 rfl, mo_iload⟩ (
  And.intro ⟨ok_nop, mo_nop⟩ (
  And.intro ⟨ok_if_eq dX2_canFill_162 (by decide) rfl, mo_if⟩ (
  And.intro ⟨ok_nop, mo_nop⟩ (
  And.intro ⟨ok_nop, mo_nop⟩ (
  And.intro ⟨ok_iload dX2_canFill_165 rfl, mo_iload⟩ (
  And.intro ⟨ok_nop, mo_nop⟩ (
  And.intro ⟨ok_if_eq dX2_canFill_167 (by decide) rfl, mo_if⟩ (
  And.intro ⟨ok_nop, mo_nop⟩ (
  And.intro ⟨ok_nop, mo_nop⟩ (
  And.intro ⟨ok_iload dX2_canFill_170 rfl, mo_iload⟩ (
  And.intro ⟨ok_nop, mo_nop⟩ (
  And.intro ⟨ok_if_ne dX2_canFill_172 (by decide) rfl, mo_if⟩ (
  And.intro ⟨ok_nop, mo_nop⟩ (
  And.intro ⟨ok_nop, mo_nop⟩ (
  And.intro ⟨ok_iload_n dX2_canFill_175 rfl rfl, mo_iload⟩ (
  trivial))))))))))))))))
theorem rX2_canFill_11 : am_allR (fun pc o => am_ok am_tb0 cX2_canFill RX2 7 (some .boolean) false pc o ∧ am_mo o) 176 (am_nth [] tX2_canFill 11) :=
  And.intro ⟨ok_aload_n dX2_canFill_176 rfl rfl, mo_aload⟩ (
  And.intro ⟨ok_getIN dX2_canFill_177 hclX1 inWX1 (by decide) (by decide) wn_46 (fun _ _ _ => rfl) rfl, mo_getI⟩ (
  And.intro ⟨ok_nop, mo_nop⟩ (
  And.intro ⟨ok_nop, mo_nop⟩ (
  And.intro ⟨ok_icmp_ne dX2_canFill_180 (by decide) rfl, mo_icmp⟩ (
  And.intro ⟨ok_nop, mo_nop⟩ (
  And.intro ⟨ok_nop, mo_nop⟩ (
  And.intro ⟨ok_iconst dX2_canFill_183 rfl ic_1, mo_push⟩ (
  And.intro ⟨ok_goto dX2_canFill_184 (by decide), mo_goto⟩ (
  And.intro ⟨ok_nop, mo_nop⟩ (
  And.intro ⟨ok_nop, mo_nop⟩ (
  And.intro ⟨ok_iconst dX2_canFill_187 rfl ic_0, mo_push⟩ (
  And.intro ⟨ok_nret dX2_canFill_188 rfl, mo_nret⟩ (
  And.intro ⟨ok_iload dX2_canFill_189 rfl, mo_iload⟩ (
  And.intro ⟨ok_nop, mo_nop⟩ (
  And.intro ⟨ok_nret dX2_canFill_191 rfl, mo_nret⟩ (
  trivial))))))))))))))))
theorem rX2_canFill_12 : am_allR (fun pc o => am_ok am_tb0 cX2_canFill RX2 7 (some .boolean) false pc o ∧ am_mo o) 192 (am_nth [] tX2_canFill 12) :=
  And.intro ⟨ok_iload dX2_canFill_192 rfl, mo_iload⟩ (
  And.intro ⟨ok_nop, mo_nop⟩ (
  And.intro ⟨ok_if_eq dX2_canFill_194 (by decide) rfl, mo_if⟩ (
  And.intro ⟨ok_nop, mo_nop⟩ (
  And.intro ⟨ok_nop, mo_nop⟩ (
  And.intro ⟨ok_iload dX2_canFill_197 rfl, mo_iload⟩ (
  And.intro ⟨ok_nop, mo_nop⟩ (
  And.intro ⟨ok_if_eq dX2_canFill_199 (by decide) rfl, mo_if⟩ (
  And.intro ⟨ok_nop, mo_nop⟩ (
  And.intro ⟨ok_nop, mo_nop⟩ (
  And.intro ⟨ok_iconst dX2_canFill_202 rfl ic_1, mo_push⟩ (
  And.intro ⟨ok_goto dX2_canFill_203 (by decide), mo_goto⟩ (
  And.intro ⟨ok_nop, mo_nop⟩ (
  And.intro ⟨ok_nop, mo_nop⟩ (
  And.intro ⟨ok_iconst dX2_canFill_206 rfl ic_0, mo_push⟩ (
  And.intro ⟨ok_nret dX2_canFill_207 rfl, mo_nret⟩ (
  trivial))))))))))))))))
theorem kX2_canFill : am_M1 am_tb0 cX2_canFill RX2 7 (some .boolean) false tX2_canFill := And.intro rX2_canFill_0 (And.intro rX2_canFill_1 (And.intro rX2_canFill_2 (And.intro rX2_canFill_3 (And.intro rX2_canFill_4 (And.intro rX2_canFill_5 (And.intro rX2_canFill_6 (And.intro rX2_canFill_7 (And.intro rX2_canFill_8 (And.intro rX2_canFill_9 (And.intro rX2_canFill_10 (And.intro rX2_canFill_11 (And.intro rX2_canFill_12 (trivial)))))))))))))
def tX2_isOldEnough : List (List am_Op) := [[o_aload 0 1, o_push (.int 0) 2, o_cv 2 14 31 2 1 1 5, am_nop, am_nop, o_astore 2 6, o_aload 1 7, o_getI 1 5 4 10, am_nop, am_nop, o_aload 2 11, o_null 14 18, am_nop, am_nop, o_push (.int 3) 15, o_goto 36],
  [am_nop, am_nop, o_aload 2 19, o_aload 1 20, o_getI 1 5 2 23, am_nop, am_nop, o_aload 1 24, o_getI 1 5 3 27, am_nop, am_nop, o_push (.int 0) 28, o_cv 6 4 58 7 1 3 31, am_nop, am_nop, o_push (.int 99) 33],
  [am_nop, o_cs 107 2 0 2 36, am_nop, am_nop, o_icmp (fun x y => x < y) 43 39, am_nop, am_nop, o_push (.int 1) 40, o_goto 44, am_nop, am_nop, o_push (.int 0) 44, o_nret .boolean, am_nop, am_nop, am_nop]]
theorem rX2_isOldEnough_0 : am_allR (fun pc o => am_ok am_tb0 cX2_isOldEnough RX2 3 (some .boolean) false pc o ∧ am_mo o) 0 (am_nth [] tX2_isOldEnough 0) :=
  And.intro ⟨ok_aload_n dX2_isOldEnough_0 rfl rfl, mo_aload⟩ (
  And.intro ⟨ok_iconst dX2_isOldEnough_1 rfl ic_0, mo_push⟩ (
  And.intro ⟨ok_cv (z := 31) dX2_isOldEnough_2 hclX2 (by decide) wd_343 wd_344 wd_345 wd_2 wd_346 rfl (by decide) ⟨rfl, hy_X2_textFor⟩ rfl, mo_cv⟩ (
  And.intro ⟨ok_nop, mo_nop⟩ (
  And.intro ⟨ok_nop, mo_nop⟩ (
  And.intro ⟨ok_astore_n dX2_isOldEnough_5 rfl (by decide) rfl, mo_astore⟩ (
  And.intro ⟨ok_aload_n dX2_isOldEnough_6 rfl rfl, mo_aload⟩ (
  And.intro ⟨ok_getIN dX2_isOldEnough_7 hclX1 inWX1 (by decide) (by decide) wn_53 (fun _ _ _ => rfl) rfl, mo_getI⟩ (
  And.intro ⟨ok_nop, mo_nop⟩ (
  And.intro ⟨ok_nop, mo_nop⟩ (
  And.intro ⟨ok_aload_n dX2_isOldEnough_10 rfl rfl, mo_aload⟩ (
  And.intro ⟨ok_ifnonnull dX2_isOldEnough_11 (by decide) rfl, mo_null⟩ (
  And.intro ⟨ok_nop, mo_nop⟩ (
  And.intro ⟨ok_nop, mo_nop⟩ (
  And.intro ⟨ok_iconst dX2_isOldEnough_14 rfl ic_3, mo_push⟩ (
  And.intro ⟨ok_goto dX2_isOldEnough_15 (by decide), mo_goto⟩ (
  trivial))))))))))))))))
theorem rX2_isOldEnough_1 : am_allR (fun pc o => am_ok am_tb0 cX2_isOldEnough RX2 3 (some .boolean) false pc o ∧ am_mo o) 16 (am_nth [] tX2_isOldEnough 1) :=
  And.intro ⟨ok_nop, mo_nop⟩ (
  And.intro ⟨ok_nop, mo_nop⟩ (
  And.intro ⟨ok_aload_n dX2_isOldEnough_18 rfl rfl, mo_aload⟩ (
  And.intro ⟨ok_aload_n dX2_isOldEnough_19 rfl rfl, mo_aload⟩ (
  And.intro ⟨ok_getIN dX2_isOldEnough_20 hclX1 inWX1 (by decide) (by decide) wn_49 (fun _ _ _ => rfl) rfl, mo_getI⟩ (
  And.intro ⟨ok_nop, mo_nop⟩ (
  And.intro ⟨ok_nop, mo_nop⟩ (
  And.intro ⟨ok_aload_n dX2_isOldEnough_23 rfl rfl, mo_aload⟩ (
  And.intro ⟨ok_getIN dX2_isOldEnough_24 hclX1 inWX1 (by decide) (by decide) wn_51 (fun _ _ _ => rfl) rfl, mo_getI⟩ (
  And.intro ⟨ok_nop, mo_nop⟩ (
  And.intro ⟨ok_nop, mo_nop⟩ (
  And.intro ⟨ok_iconst dX2_isOldEnough_27 rfl ic_0, mo_push⟩ (
  And.intro ⟨ok_cv (z := 58) dX2_isOldEnough_28 hclX6 (by decide) wd_351 wd_352 wd_353 wd_9 wd_354 rfl (by decide) ⟨rfl, hy_X6_value⟩ rfl, mo_cv⟩ (
  And.intro ⟨ok_nop, mo_nop⟩ (
  And.intro ⟨ok_nop, mo_nop⟩ (
  And.intro ⟨ok_bipush dX2_isOldEnough_31 rfl bi_99, mo_push⟩ (
  trivial))))))))))))))))
theorem rX2_isOldEnough_2 : am_allR (fun pc o => am_ok am_tb0 cX2_isOldEnough RX2 3 (some .boolean) false pc o ∧ am_mo o) 32 (am_nth [] tX2_isOldEnough 2) :=
  And.intro ⟨ok_nop, mo_nop⟩ (
  And.intro ⟨ok_csN (z := 107) dX2_isOldEnough_33 wn_361 wd_362 wd_1 wd_363 rfl (by decide) hy_X7_held rfl, mo_cs⟩ (
  And.intro ⟨ok_nop, mo_nop⟩ (
  And.intro ⟨ok_nop, mo_nop⟩ (
  And.intro ⟨ok_icmp_lt dX2_isOldEnough_36 (by decide) rfl, mo_icmp⟩ (
  And.intro ⟨ok_nop, mo_nop⟩ (
  And.intro ⟨ok_nop, mo_nop⟩ (
  And.intro ⟨ok_iconst dX2_isOldEnough_39 rfl ic_1, mo_push⟩ (
  And.intro ⟨ok_goto dX2_isOldEnough_40 (by decide), mo_goto⟩ (
  And.intro ⟨ok_nop, mo_nop⟩ (
  And.intro ⟨ok_nop, mo_nop⟩ (
  And.intro ⟨ok_iconst dX2_isOldEnough_43 rfl ic_0, mo_push⟩ (
  And.intro ⟨ok_nret dX2_isOldEnough_44 rfl, mo_nret⟩ (
  And.intro ⟨ok_nop, mo_nop⟩ (
  And.intro ⟨ok_nop, mo_nop⟩ (
  And.intro ⟨ok_nop, mo_nop⟩ (
  trivial))))))))))))))))
theorem kX2_isOldEnough : am_M1 am_tb0 cX2_isOldEnough RX2 3 (some .boolean) false tX2_isOldEnough := And.intro rX2_isOldEnough_0 (And.intro rX2_isOldEnough_1 (And.intro rX2_isOldEnough_2 (trivial)))
def tX2_sinks : List (List am_Op) := [[o_aload 1 1, o_getI 1 5 0 4, am_nop, am_nop, o_sw [(1, 40), (2, 51), (3, 49), (4, 65), (5, 81)] 86, am_nop, am_nop, am_nop, am_nop, am_nop, am_nop, am_nop, am_nop, am_nop, am_nop, am_nop],
  [am_nop, am_nop, am_nop, am_nop, am_nop, am_nop, am_nop, am_nop, am_nop, am_nop, am_nop, am_nop, am_nop, am_nop, am_nop, am_nop],
  [am_nop, am_nop, am_nop, am_nop, am_nop, am_nop, am_nop, am_nop, o_aload 0 41, o_aload 1 42, o_iload 2 43, o_cv 2 14 24 4 2 2 46, am_nop, am_nop, o_push (.int 1) 47, o_bin (fun x y => x + y) 48],
  [o_iret, o_push (.int 0) 50, o_iret, o_push (.int 9) 53, am_nop, o_push (.int 2) 54, o_aload 0 55, o_aload 1 56, o_iload 2 57, o_cv 2 14 24 4 2 2 60, am_nop, am_nop, o_bin (fun x y => x * y) 61, o_mbin (fun x y => if y < x then y else x) 64, am_nop, am_nop],
  [o_iret, o_push (.int 9) 67, am_nop, o_push (.int 2) 68, o_aload 0 69, o_aload 1 70, o_iload 2 71, o_cv 2 14 24 4 2 2 74, am_nop, am_nop, o_bin (fun x y => x * y) 75, o_mbin (fun x y => if y < x then y else x) 78, am_nop, am_nop, o_push (.int 2) 79, o_binS (fun x y => x / y) 80],
  [o_iret, o_iload 2 82, o_push (.int 9) 84, am_nop, o_binS (fun x y => x / y) 85, o_iret, o_aload 0 87, o_aload 1 88, o_iload 2 89, o_cv 2 14 24 4 2 2 92, am_nop, am_nop, o_iret, am_nop, am_nop, am_nop]]
theorem rX2_sinks_0 : am_allR (fun pc o => am_ok am_tb0 cX2_sinks RX2 3 (some .int) false pc o ∧ am_mo o) 0 (am_nth [] tX2_sinks 0) :=
  And.intro ⟨ok_aload_n dX2_sinks_0 rfl rfl, mo_aload⟩ (
  And.intro ⟨ok_getIN dX2_sinks_1 hclX1 inWX1 (by decide) (by decide) wn_43 (fun _ _ _ => rfl) rfl, mo_getI⟩ (
  And.intro ⟨ok_nop, mo_nop⟩ (
  And.intro ⟨ok_nop, mo_nop⟩ (
  And.intro ⟨ok_table dX2_sinks_4 (by decide) (by decide +kernel) (by decide +kernel), mo_sw⟩ (
  And.intro ⟨ok_nop, mo_nop⟩ (
  And.intro ⟨ok_nop, mo_nop⟩ (
  And.intro ⟨ok_nop, mo_nop⟩ (
  And.intro ⟨ok_nop, mo_nop⟩ (
  And.intro ⟨ok_nop, mo_nop⟩ (
  And.intro ⟨ok_nop, mo_nop⟩ (
  And.intro ⟨ok_nop, mo_nop⟩ (
  And.intro ⟨ok_nop, mo_nop⟩ (
  And.intro ⟨ok_nop, mo_nop⟩ (
  And.intro ⟨ok_nop, mo_nop⟩ (
  And.intro ⟨ok_nop, mo_nop⟩ (
  trivial))))))))))))))))
theorem rX2_sinks_1 : am_allR (fun pc o => am_ok am_tb0 cX2_sinks RX2 3 (some .int) false pc o ∧ am_mo o) 16 (am_nth [] tX2_sinks 1) :=
  And.intro ⟨ok_nop, mo_nop⟩ (
  And.intro ⟨ok_nop, mo_nop⟩ (
  And.intro ⟨ok_nop, mo_nop⟩ (
  And.intro ⟨ok_nop, mo_nop⟩ (
  And.intro ⟨ok_nop, mo_nop⟩ (
  And.intro ⟨ok_nop, mo_nop⟩ (
  And.intro ⟨ok_nop, mo_nop⟩ (
  And.intro ⟨ok_nop, mo_nop⟩ (
  And.intro ⟨ok_nop, mo_nop⟩ (
  And.intro ⟨ok_nop, mo_nop⟩ (
  And.intro ⟨ok_nop, mo_nop⟩ (
  And.intro ⟨ok_nop, mo_nop⟩ (
  And.intro ⟨ok_nop, mo_nop⟩ (
  And.intro ⟨ok_nop, mo_nop⟩ (
  And.intro ⟨ok_nop, mo_nop⟩ (
  And.intro ⟨ok_nop, mo_nop⟩ (
  trivial))))))))))))))))
theorem rX2_sinks_2 : am_allR (fun pc o => am_ok am_tb0 cX2_sinks RX2 3 (some .int) false pc o ∧ am_mo o) 32 (am_nth [] tX2_sinks 2) :=
  And.intro ⟨ok_nop, mo_nop⟩ (
  And.intro ⟨ok_nop, mo_nop⟩ (
  And.intro ⟨ok_nop, mo_nop⟩ (
  And.intro ⟨ok_nop, mo_nop⟩ (
  And.intro ⟨ok_nop, mo_nop⟩ (
  And.intro ⟨ok_nop, mo_nop⟩ (
  And.intro ⟨ok_nop, mo_nop⟩ (
  And.intro ⟨ok_nop, mo_nop⟩ (
  And.intro ⟨ok_aload_n dX2_sinks_40 rfl rfl, mo_aload⟩ (
  And.intro ⟨ok_aload_n dX2_sinks_41 rfl rfl, mo_aload⟩ (
  And.intro ⟨ok_iload_n dX2_sinks_42 rfl rfl, mo_iload⟩ (
  And.intro ⟨ok_cv (z := 24) dX2_sinks_43 hclX2 (by decide) wd_339 wd_340 wd_341 wd_2 wd_342 rfl (by decide) ⟨rfl, hy_X2_sinksPlain⟩ rfl, mo_cv⟩ (
  And.intro ⟨ok_nop, mo_nop⟩ (
  And.intro ⟨ok_nop, mo_nop⟩ (
  And.intro ⟨ok_iconst dX2_sinks_46 rfl ic_1, mo_push⟩ (
  And.intro ⟨ok_iadd dX2_sinks_47 rfl, mo_bin⟩ (
  trivial))))))))))))))))
theorem rX2_sinks_3 : am_allR (fun pc o => am_ok am_tb0 cX2_sinks RX2 3 (some .int) false pc o ∧ am_mo o) 48 (am_nth [] tX2_sinks 3) :=
  And.intro ⟨ok_iret dX2_sinks_48 rfl, mo_iret⟩ (
  And.intro ⟨ok_iconst dX2_sinks_49 rfl ic_0, mo_push⟩ (
  And.intro ⟨ok_iret dX2_sinks_50 rfl, mo_iret⟩ (
  And.intro ⟨ok_bipush dX2_sinks_51 rfl bi_9, mo_push⟩ (
  And.intro ⟨ok_nop, mo_nop⟩ (
  And.intro ⟨ok_iconst dX2_sinks_53 rfl ic_2, mo_push⟩ (
  And.intro ⟨ok_aload_n dX2_sinks_54 rfl rfl, mo_aload⟩ (
  And.intro ⟨ok_aload_n dX2_sinks_55 rfl rfl, mo_aload⟩ (
  And.intro ⟨ok_iload_n dX2_sinks_56 rfl rfl, mo_iload⟩ (
  And.intro ⟨ok_cv (z := 24) dX2_sinks_57 hclX2 (by decide) wd_339 wd_340 wd_341 wd_2 wd_342 rfl (by decide) ⟨rfl, hy_X2_sinksPlain⟩ rfl, mo_cv⟩ (
  And.intro ⟨ok_nop, mo_nop⟩ (
  And.intro ⟨ok_nop, mo_nop⟩ (
  And.intro ⟨ok_imul dX2_sinks_60 rfl, mo_bin⟩ (
  And.intro ⟨ok_mmin dX2_sinks_61 wd_370 wd_365 wd_10 wm_mmin rfl, mo_mbin⟩ (
  And.intro ⟨ok_nop, mo_nop⟩ (
  And.intro ⟨ok_nop, mo_nop⟩ (
  trivial))))))))))))))))
theorem rX2_sinks_4 : am_allR (fun pc o => am_ok am_tb0 cX2_sinks RX2 3 (some .int) false pc o ∧ am_mo o) 64 (am_nth [] tX2_sinks 4) :=
  And.intro ⟨ok_iret dX2_sinks_64 rfl, mo_iret⟩ (
  And.intro ⟨ok_bipush dX2_sinks_65 rfl bi_9, mo_push⟩ (
  And.intro ⟨ok_nop, mo_nop⟩ (
  And.intro ⟨ok_iconst dX2_sinks_67 rfl ic_2, mo_push⟩ (
  And.intro ⟨ok_aload_n dX2_sinks_68 rfl rfl, mo_aload⟩ (
  And.intro ⟨ok_aload_n dX2_sinks_69 rfl rfl, mo_aload⟩ (
  And.intro ⟨ok_iload_n dX2_sinks_70 rfl rfl, mo_iload⟩ (
  And.intro ⟨ok_cv (z := 24) dX2_sinks_71 hclX2 (by decide) wd_339 wd_340 wd_341 wd_2 wd_342 rfl (by decide) ⟨rfl, hy_X2_sinksPlain⟩ rfl, mo_cv⟩ (
  And.intro ⟨ok_nop, mo_nop⟩ (
  And.intro ⟨ok_nop, mo_nop⟩ (
  And.intro ⟨ok_imul dX2_sinks_74 rfl, mo_bin⟩ (
  And.intro ⟨ok_mmin dX2_sinks_75 wd_370 wd_365 wd_10 wm_mmin rfl, mo_mbin⟩ (
  And.intro ⟨ok_nop, mo_nop⟩ (
  And.intro ⟨ok_nop, mo_nop⟩ (
  And.intro ⟨ok_iconst dX2_sinks_78 rfl ic_2, mo_push⟩ (
  And.intro ⟨ok_idiv dX2_sinks_79 rfl, mo_binS⟩ (
  trivial))))))))))))))))
theorem rX2_sinks_5 : am_allR (fun pc o => am_ok am_tb0 cX2_sinks RX2 3 (some .int) false pc o ∧ am_mo o) 80 (am_nth [] tX2_sinks 5) :=
  And.intro ⟨ok_iret dX2_sinks_80 rfl, mo_iret⟩ (
  And.intro ⟨ok_iload_n dX2_sinks_81 rfl rfl, mo_iload⟩ (
  And.intro ⟨ok_bipush dX2_sinks_82 rfl bi_9, mo_push⟩ (
  And.intro ⟨ok_nop, mo_nop⟩ (
  And.intro ⟨ok_idiv dX2_sinks_84 rfl, mo_binS⟩ (
  And.intro ⟨ok_iret dX2_sinks_85 rfl, mo_iret⟩ (
  And.intro ⟨ok_aload_n dX2_sinks_86 rfl rfl, mo_aload⟩ (
  And.intro ⟨ok_aload_n dX2_sinks_87 rfl rfl, mo_aload⟩ (
  And.intro ⟨ok_iload_n dX2_sinks_88 rfl rfl, mo_iload⟩ (
  And.intro ⟨ok_cv (z := 24) dX2_sinks_89 hclX2 (by decide) wd_339 wd_340 wd_341 wd_2 wd_342 rfl (by decide) ⟨rfl, hy_X2_sinksPlain⟩ rfl, mo_cv⟩ (
  And.intro ⟨ok_nop, mo_nop⟩ (
  And.intro ⟨ok_nop, mo_nop⟩ (
  And.intro ⟨ok_iret dX2_sinks_92 rfl, mo_iret⟩ (
  And.intro ⟨ok_nop, mo_nop⟩ (
  And.intro ⟨ok_nop, mo_nop⟩ (
  And.intro ⟨ok_nop, mo_nop⟩ (
  trivial))))))))))))))))
theorem kX2_sinks : am_M1 am_tb0 cX2_sinks RX2 3 (some .int) false tX2_sinks := And.intro rX2_sinks_0 (And.intro rX2_sinks_1 (And.intro rX2_sinks_2 (And.intro rX2_sinks_3 (And.intro rX2_sinks_4 (And.intro rX2_sinks_5 (trivial))))))
def tX2_sinksPlain : List (List am_Op) := [[o_aload 0 1, o_push (.int 1) 2, o_cv 2 14 31 2 1 1 5, am_nop, am_nop, o_astore 3 6, o_aload 3 7, o_null 10 16, am_nop, am_nop, o_iload 2 11, o_push (.int 5) 12, o_binS (fun x y => x / y) 13, o_goto 34, am_nop, am_nop],
  [o_aload 3 17, o_iload 2 18, o_aload 1 19, o_getI 1 5 2 22, am_nop, am_nop, o_aload 1 23, o_getI 1 5 4 26, am_nop, am_nop, o_cv 6 4 58 7 1 3 29, am_nop, am_nop, o_push (.int 9) 31, am_nop, o_cs 107 2 0 2 34],
  [am_nop, am_nop, o_iret, am_nop, am_nop, am_nop, am_nop, am_nop, am_nop, am_nop, am_nop, am_nop, am_nop, am_nop, am_nop, am_nop]]
theorem rX2_sinksPlain_0 : am_allR (fun pc o => am_ok am_tb0 cX2_sinksPlain RX2 4 (some .int) false pc o ∧ am_mo o) 0 (am_nth [] tX2_sinksPlain 0) :=
  And.intro ⟨ok_aload_n dX2_sinksPlain_0 rfl rfl, mo_aload⟩ (
  And.intro ⟨ok_iconst dX2_sinksPlain_1 rfl ic_1, mo_push⟩ (
  And.intro ⟨ok_cv (z := 31) dX2_sinksPlain_2 hclX2 (by decide) wd_343 wd_344 wd_345 wd_2 wd_346 rfl (by decide) ⟨rfl, hy_X2_textFor⟩ rfl, mo_cv⟩ (
  And.intro ⟨ok_nop, mo_nop⟩ (
  And.intro ⟨ok_nop, mo_nop⟩ (
  And.intro ⟨ok_astore_n dX2_sinksPlain_5 rfl (by decide) rfl, mo_astore⟩ (
  And.intro ⟨ok_aload_n dX2_sinksPlain_6 rfl rfl, mo_aload⟩ (
  And.intro ⟨ok_ifnonnull dX2_sinksPlain_7 (by decide) rfl, mo_null⟩ (
  And.intro ⟨ok_nop, mo_nop⟩ (
  And.intro ⟨ok_nop, mo_nop⟩ (
  And.intro ⟨ok_iload_n dX2_sinksPlain_10 rfl rfl, mo_iload⟩ (
  And.intro ⟨ok_iconst dX2_sinksPlain_11 rfl ic_5, mo_push⟩ (
  And.intro ⟨ok_idiv dX2_sinksPlain_12 rfl, mo_binS⟩ (
  And.intro ⟨ok_goto dX2_sinksPlain_13 (by decide), mo_goto⟩ (
  And.intro ⟨ok_nop, mo_nop⟩ (
  And.intro ⟨ok_nop, mo_nop⟩ (
  trivial))))))))))))))))
theorem rX2_sinksPlain_1 : am_allR (fun pc o => am_ok am_tb0 cX2_sinksPlain RX2 4 (some .int) false pc o ∧ am_mo o) 16 (am_nth [] tX2_sinksPlain 1) :=
  And.intro ⟨ok_aload_n dX2_sinksPlain_16 rfl rfl, mo_aload⟩ (
  And.intro ⟨ok_iload_n dX2_sinksPlain_17 rfl rfl, mo_iload⟩ (
  And.intro ⟨ok_aload_n dX2_sinksPlain_18 rfl rfl, mo_aload⟩ (
  And.intro ⟨ok_getIN dX2_sinksPlain_19 hclX1 inWX1 (by decide) (by decide) wn_49 (fun _ _ _ => rfl) rfl, mo_getI⟩ (
  And.intro ⟨ok_nop, mo_nop⟩ (
  And.intro ⟨ok_nop, mo_nop⟩ (
  And.intro ⟨ok_aload_n dX2_sinksPlain_22 rfl rfl, mo_aload⟩ (
  And.intro ⟨ok_getIN dX2_sinksPlain_23 hclX1 inWX1 (by decide) (by decide) wn_53 (fun _ _ _ => rfl) rfl, mo_getI⟩ (
  And.intro ⟨ok_nop, mo_nop⟩ (
  And.intro ⟨ok_nop, mo_nop⟩ (
  And.intro ⟨ok_cv (z := 58) dX2_sinksPlain_26 hclX6 (by decide) wd_351 wd_352 wd_353 wd_9 wd_354 rfl (by decide) ⟨rfl, hy_X6_value⟩ rfl, mo_cv⟩ (
  And.intro ⟨ok_nop, mo_nop⟩ (
  And.intro ⟨ok_nop, mo_nop⟩ (
  And.intro ⟨ok_bipush dX2_sinksPlain_29 rfl bi_9, mo_push⟩ (
  And.intro ⟨ok_nop, mo_nop⟩ (
  And.intro ⟨ok_csN (z := 107) dX2_sinksPlain_31 wn_361 wd_362 wd_1 wd_363 rfl (by decide) hy_X7_held rfl, mo_cs⟩ (
  trivial))))))))))))))))
theorem rX2_sinksPlain_2 : am_allR (fun pc o => am_ok am_tb0 cX2_sinksPlain RX2 4 (some .int) false pc o ∧ am_mo o) 32 (am_nth [] tX2_sinksPlain 2) :=
  And.intro ⟨ok_nop, mo_nop⟩ (
  And.intro ⟨ok_nop, mo_nop⟩ (
  And.intro ⟨ok_iret dX2_sinksPlain_34 rfl, mo_iret⟩ (
  And.intro ⟨ok_nop, mo_nop⟩ (
  And.intro ⟨ok_nop, mo_nop⟩ (
  And.intro ⟨ok_nop, mo_nop⟩ (
  And.intro ⟨ok_nop, mo_nop⟩ (
  And.intro ⟨ok_nop, mo_nop⟩ (
  And.intro ⟨ok_nop, mo_nop⟩ (
  And.intro ⟨ok_nop, mo_nop⟩ (
  And.intro ⟨ok_nop, mo_nop⟩ (
  And.intro ⟨ok_nop, mo_nop⟩ (
  And.intro ⟨ok_nop, mo_nop⟩ (
  And.intro ⟨ok_nop, mo_nop⟩ (
  And.intro ⟨ok_nop, mo_nop⟩ (
  And.intro ⟨ok_nop, mo_nop⟩ (
  trivial))))))))))))))))
theorem kX2_sinksPlain : am_M1 am_tb0 cX2_sinksPlain RX2 4 (some .int) false tX2_sinksPlain := And.intro rX2_sinksPlain_0 (And.intro rX2_sinksPlain_1 (And.intro rX2_sinksPlain_2 (trivial)))
def tX2_passDay : List (List am_Op) := [[o_push (.int 0) 1, o_istore 1 2, o_iload 1 3, o_aload 0 4, o_getI 2 14 1 7, am_nop, am_nop, o_icmp (fun x y => y ≤ x) 86 10, am_nop, am_nop, o_aload 0 11, o_getR 2 14 0 14, am_nop, am_nop, o_iload 1 15, o_aald 31 16],
  [o_astore 2 17, o_aload 2 18, o_getI 1 5 2 21, am_nop, am_nop, o_if (fun x => x ≤ 0) 80 24, am_nop, am_nop, o_aload 2 25, o_getI 1 5 2 28, am_nop, am_nop, o_aload 0 29, o_aload 2 30, o_aload 0 31, o_cv 2 14 18 1 0 0 34],
  [am_nop, am_nop, o_push (.int 10) 36, am_nop, o_binS (fun x y => x - x / y * y) 37, o_cv 2 14 23 3 3 2 40, am_nop, am_nop, o_mbin (fun x y => if y < x then y else x) 43, am_nop, am_nop, o_istore 3 44, o_aload 2 45, o_dup 46, o_getI 1 5 2 49, am_nop],
  [am_nop, o_iload 3 50, o_bin (fun x y => x - y) 51, o_putI 1 5 2 54, am_nop, am_nop, o_aload 0 55, o_dup 56, o_getI 2 14 12 59, am_nop, am_nop, o_iload 3 60, o_bin (fun x y => x + y) 61, o_putI 2 14 12 64, am_nop, am_nop],
  [o_aload 2 65, o_push (.int 999) 68, am_nop, am_nop, o_aload 2 69, o_getI 1 5 4 72, am_nop, am_nop, o_push (.int 1) 73, o_bin (fun x y => x + y) 74, o_mbin (fun x y => if y < x then y else x) 77, am_nop, am_nop, o_putI 1 5 4 80, am_nop, am_nop],
  [o_iinc 1 1 83, am_nop, am_nop, o_goto 2, am_nop, am_nop, o_aload 0 87, o_dup 88, o_getI 2 14 10 91, am_nop, am_nop, o_push (.int 1) 92, o_bin (fun x y => x + y) 93, o_putI 2 14 10 96, am_nop, am_nop],
  [o_ret, am_nop, am_nop, am_nop, am_nop, am_nop, am_nop, am_nop, am_nop, am_nop, am_nop, am_nop, am_nop, am_nop, am_nop, am_nop]]
theorem rX2_passDay_0 : am_allR (fun pc o => am_ok am_tb0 cX2_passDay RX2 4 none false pc o ∧ am_mo o) 0 (am_nth [] tX2_passDay 0) :=
  And.intro ⟨ok_iconst dX2_passDay_0 rfl ic_0, mo_push⟩ (
  And.intro ⟨ok_istore_n dX2_passDay_1 rfl (by decide) rfl, mo_istore⟩ (
  And.intro ⟨ok_iload_n dX2_passDay_2 rfl rfl, mo_iload⟩ (
  And.intro ⟨ok_aload_n dX2_passDay_3 rfl rfl, mo_aload⟩ (
  And.intro ⟨ok_getI dX2_passDay_4 hclX2 inWX2 (by decide) (by decide) wd_69 (fun _ _ _ => rfl) rfl, mo_getI⟩ (
  And.intro ⟨ok_nop, mo_nop⟩ (
  And.intro ⟨ok_nop, mo_nop⟩ (
  And.intro ⟨ok_icmp_ge dX2_passDay_7 (by decide) rfl, mo_icmp⟩ (
  And.intro ⟨ok_nop, mo_nop⟩ (
  And.intro ⟨ok_nop, mo_nop⟩ (
  And.intro ⟨ok_aload_n dX2_passDay_10 rfl rfl, mo_aload⟩ (
  And.intro ⟨ok_getR dX2_passDay_11 hclX2 inWX2 (by decide) (by decide) wd_66 (fun _ _ _ => rfl) rfl, mo_getR⟩ (
  And.intro ⟨ok_nop, mo_nop⟩ (
  And.intro ⟨ok_nop, mo_nop⟩ (
  And.intro ⟨ok_iload_n dX2_passDay_14 rfl rfl, mo_iload⟩ (
  And.intro ⟨ok_aald (ci := 1) dX2_passDay_15 (by decide) rfl rfl, mo_aald⟩ (
  trivial))))))))))))))))
theorem rX2_passDay_1 : am_allR (fun pc o => am_ok am_tb0 cX2_passDay RX2 4 none false pc o ∧ am_mo o) 16 (am_nth [] tX2_passDay 1) :=
  And.intro ⟨ok_astore_n dX2_passDay_16 rfl (by decide) rfl, mo_astore⟩ (
  And.intro ⟨ok_aload_n dX2_passDay_17 rfl rfl, mo_aload⟩ (
  And.intro ⟨ok_getIN dX2_passDay_18 hclX1 inWX1 (by decide) (by decide) wn_49 (fun _ _ _ => rfl) rfl, mo_getI⟩ (
  And.intro ⟨ok_nop, mo_nop⟩ (
  And.intro ⟨ok_nop, mo_nop⟩ (
  And.intro ⟨ok_if_le dX2_passDay_21 (by decide) rfl, mo_if⟩ (
  And.intro ⟨ok_nop, mo_nop⟩ (
  And.intro ⟨ok_nop, mo_nop⟩ (
  And.intro ⟨ok_aload_n dX2_passDay_24 rfl rfl, mo_aload⟩ (
  And.intro ⟨ok_getIN dX2_passDay_25 hclX1 inWX1 (by decide) (by decide) wn_49 (fun _ _ _ => rfl) rfl, mo_getI⟩ (
  And.intro ⟨ok_nop, mo_nop⟩ (
  And.intro ⟨ok_nop, mo_nop⟩ (
  And.intro ⟨ok_aload_n dX2_passDay_28 rfl rfl, mo_aload⟩ (
  And.intro ⟨ok_aload_n dX2_passDay_29 rfl rfl, mo_aload⟩ (
  And.intro ⟨ok_aload_n dX2_passDay_30 rfl rfl, mo_aload⟩ (
  And.intro ⟨ok_cv (z := 18) dX2_passDay_31 hclX2 (by decide) wd_383 wd_384 wd_385 wd_2 wd_386 rfl (by decide) ⟨rfl, hy_X2_draw⟩ rfl, mo_cv⟩ (
  trivial))))))))))))))))
theorem rX2_passDay_2 : am_allR (fun pc o => am_ok am_tb0 cX2_passDay RX2 4 none false pc o ∧ am_mo o) 32 (am_nth [] tX2_passDay 2) :=
  And.intro ⟨ok_nop, mo_nop⟩ (
  And.intro ⟨ok_nop, mo_nop⟩ (
  And.intro ⟨ok_bipush dX2_passDay_34 rfl bi_10, mo_push⟩ (
  And.intro ⟨ok_nop, mo_nop⟩ (
  And.intro ⟨ok_irem dX2_passDay_36 rfl, mo_binS⟩ (
  And.intro ⟨ok_cv (z := 23) dX2_passDay_37 hclX2 (by decide) wd_492 wd_336 wd_337 wd_2 wd_338 rfl (by decide) ⟨rfl, hy_X2_sinks⟩ rfl, mo_cv⟩ (
  And.intro ⟨ok_nop, mo_nop⟩ (
  And.intro ⟨ok_nop, mo_nop⟩ (
  And.intro ⟨ok_mmin dX2_passDay_40 wd_370 wd_365 wd_10 wm_mmin rfl, mo_mbin⟩ (
  And.intro ⟨ok_nop, mo_nop⟩ (
  And.intro ⟨ok_nop, mo_nop⟩ (
  And.intro ⟨ok_istore_n dX2_passDay_43 rfl (by decide) rfl, mo_istore⟩ (
  And.intro ⟨ok_aload_n dX2_passDay_44 rfl rfl, mo_aload⟩ (
  And.intro ⟨ok_dup dX2_passDay_45 rfl, mo_dup⟩ (
  And.intro ⟨ok_getIN dX2_passDay_46 hclX1 inWX1 (by decide) (by decide) wn_49 (fun _ _ _ => rfl) rfl, mo_getI⟩ (
  And.intro ⟨ok_nop, mo_nop⟩ (
  trivial))))))))))))))))
theorem rX2_passDay_3 : am_allR (fun pc o => am_ok am_tb0 cX2_passDay RX2 4 none false pc o ∧ am_mo o) 48 (am_nth [] tX2_passDay 3) :=
  And.intro ⟨ok_nop, mo_nop⟩ (
  And.intro ⟨ok_iload_n dX2_passDay_49 rfl rfl, mo_iload⟩ (
  And.intro ⟨ok_isub dX2_passDay_50 rfl, mo_bin⟩ (
  And.intro ⟨ok_putIN dX2_passDay_51 hclX1 inWX1 tyX1_ok nmX1 (by decide) (by decide) wn_49 rfl (tyX1_ok 2 (by decide)) (fun _ _ _ => rfl) rfl, mo_putI⟩ (
  And.intro ⟨ok_nop, mo_nop⟩ (
  And.intro ⟨ok_nop, mo_nop⟩ (
  And.intro ⟨ok_aload_n dX2_passDay_54 rfl rfl, mo_aload⟩ (
  And.intro ⟨ok_dup dX2_passDay_55 rfl, mo_dup⟩ (
  And.intro ⟨ok_getI dX2_passDay_56 hclX2 inWX2 (by decide) (by decide) wd_94 (fun _ _ _ => rfl) rfl, mo_getI⟩ (
  And.intro ⟨ok_nop, mo_nop⟩ (
  And.intro ⟨ok_nop, mo_nop⟩ (
  And.intro ⟨ok_iload_n dX2_passDay_59 rfl rfl, mo_iload⟩ (
  And.intro ⟨ok_iadd dX2_passDay_60 rfl, mo_bin⟩ (
  And.intro ⟨ok_putI dX2_passDay_61 hclX2 inWX2 tyX2_ok nmX2 (by decide) (by decide) wd_94 rfl (tyX2_ok 12 (by decide)) (fun _ _ _ => rfl) rfl, mo_putI⟩ (
  And.intro ⟨ok_nop, mo_nop⟩ (
  And.intro ⟨ok_nop, mo_nop⟩ (
  trivial))))))))))))))))
theorem rX2_passDay_4 : am_allR (fun pc o => am_ok am_tb0 cX2_passDay RX2 4 none false pc o ∧ am_mo o) 64 (am_nth [] tX2_passDay 4) :=
  And.intro ⟨ok_aload_n dX2_passDay_64 rfl rfl, mo_aload⟩ (
  And.intro ⟨ok_sipush dX2_passDay_65 rfl si_999, mo_push⟩ (
  And.intro ⟨ok_nop, mo_nop⟩ (
  And.intro ⟨ok_nop, mo_nop⟩ (
  And.intro ⟨ok_aload_n dX2_passDay_68 rfl rfl, mo_aload⟩ (
  And.intro ⟨ok_getIN dX2_passDay_69 hclX1 inWX1 (by decide) (by decide) wn_53 (fun _ _ _ => rfl) rfl, mo_getI⟩ (
  And.intro ⟨ok_nop, mo_nop⟩ (
  And.intro ⟨ok_nop, mo_nop⟩ (
  And.intro ⟨ok_iconst dX2_passDay_72 rfl ic_1, mo_push⟩ (
  And.intro ⟨ok_iadd dX2_passDay_73 rfl, mo_bin⟩ (
  And.intro ⟨ok_mmin dX2_passDay_74 wd_370 wd_365 wd_10 wm_mmin rfl, mo_mbin⟩ (
  And.intro ⟨ok_nop, mo_nop⟩ (
  And.intro ⟨ok_nop, mo_nop⟩ (
  And.intro ⟨ok_putIN dX2_passDay_77 hclX1 inWX1 tyX1_ok nmX1 (by decide) (by decide) wn_53 rfl (tyX1_ok 4 (by decide)) (fun _ _ _ => rfl) rfl, mo_putI⟩ (
  And.intro ⟨ok_nop, mo_nop⟩ (
  And.intro ⟨ok_nop, mo_nop⟩ (
  trivial))))))))))))))))
theorem rX2_passDay_5 : am_allR (fun pc o => am_ok am_tb0 cX2_passDay RX2 4 none false pc o ∧ am_mo o) 80 (am_nth [] tX2_passDay 5) :=
  And.intro ⟨ok_iinc dX2_passDay_80 ic_1 (by decide) rfl, mo_iinc⟩ (
  And.intro ⟨ok_nop, mo_nop⟩ (
  And.intro ⟨ok_nop, mo_nop⟩ (
  And.intro ⟨ok_goto dX2_passDay_83 (by decide), mo_goto⟩ (
  And.intro ⟨ok_nop, mo_nop⟩ (
  And.intro ⟨ok_nop, mo_nop⟩ (
  And.intro ⟨ok_aload_n dX2_passDay_86 rfl rfl, mo_aload⟩ (
  And.intro ⟨ok_dup dX2_passDay_87 rfl, mo_dup⟩ (
  And.intro ⟨ok_getI dX2_passDay_88 hclX2 inWX2 (by decide) (by decide) wd_90 (fun _ _ _ => rfl) rfl, mo_getI⟩ (
  And.intro ⟨ok_nop, mo_nop⟩ (
  And.intro ⟨ok_nop, mo_nop⟩ (
  And.intro ⟨ok_iconst dX2_passDay_91 rfl ic_1, mo_push⟩ (
  And.intro ⟨ok_iadd dX2_passDay_92 rfl, mo_bin⟩ (
  And.intro ⟨ok_putI dX2_passDay_93 hclX2 inWX2 tyX2_ok nmX2 (by decide) (by decide) wd_90 rfl (tyX2_ok 10 (by decide)) (fun _ _ _ => rfl) rfl, mo_putI⟩ (
  And.intro ⟨ok_nop, mo_nop⟩ (
  And.intro ⟨ok_nop, mo_nop⟩ (
  trivial))))))))))))))))
theorem rX2_passDay_6 : am_allR (fun pc o => am_ok am_tb0 cX2_passDay RX2 4 none false pc o ∧ am_mo o) 96 (am_nth [] tX2_passDay 6) :=
  And.intro ⟨ok_ret dX2_passDay_96 rfl, mo_ret⟩ (
  And.intro ⟨ok_nop, mo_nop⟩ (
  And.intro ⟨ok_nop, mo_nop⟩ (
  And.intro ⟨ok_nop, mo_nop⟩ (
  And.intro ⟨ok_nop, mo_nop⟩ (
  And.intro ⟨ok_nop, mo_nop⟩ (
  And.intro ⟨ok_nop, mo_nop⟩ (
  And.intro ⟨ok_nop, mo_nop⟩ (
  And.intro ⟨ok_nop, mo_nop⟩ (
  And.intro ⟨ok_nop, mo_nop⟩ (
  And.intro ⟨ok_nop, mo_nop⟩ (
  And.intro ⟨ok_nop, mo_nop⟩ (
  And.intro ⟨ok_nop, mo_nop⟩ (
  And.intro ⟨ok_nop, mo_nop⟩ (
  And.intro ⟨ok_nop, mo_nop⟩ (
  And.intro ⟨ok_nop, mo_nop⟩ (
  trivial))))))))))))))))
theorem kX2_passDay : am_M1 am_tb0 cX2_passDay RX2 4 none false tX2_passDay := And.intro rX2_passDay_0 (And.intro rX2_passDay_1 (And.intro rX2_passDay_2 (And.intro rX2_passDay_3 (And.intro rX2_passDay_4 (And.intro rX2_passDay_5 (And.intro rX2_passDay_6 (trivial)))))))
def tX2_filledCount : List (List am_Op) := [[o_push (.int 0) 1, o_istore 1 2, o_push (.int 0) 3, o_istore 2 4, o_iload 2 5, o_aload 0 6, o_getI 2 14 1 9, am_nop, am_nop, o_icmp (fun x y => y ≤ x) 33 12, am_nop, am_nop, o_aload 0 13, o_getR 2 14 0 16, am_nop, am_nop],
  [o_iload 2 17, o_aald 31 18, o_getI 1 5 2 21, am_nop, am_nop, o_if (fun x => ¬ x = 0) 27 24, am_nop, am_nop, o_iinc 1 1 27, am_nop, am_nop, o_iinc 2 1 30, am_nop, am_nop, o_goto 4, am_nop],
  [am_nop, o_iload 1 34, o_iret, am_nop, am_nop, am_nop, am_nop, am_nop, am_nop, am_nop, am_nop, am_nop, am_nop, am_nop, am_nop, am_nop]]
theorem rX2_filledCount_0 : am_allR (fun pc o => am_ok am_tb0 cX2_filledCount RX2 3 (some .int) false pc o ∧ am_mo o) 0 (am_nth [] tX2_filledCount 0) :=
  And.intro ⟨ok_iconst dX2_filledCount_0 rfl ic_0, mo_push⟩ (
  And.intro ⟨ok_istore_n dX2_filledCount_1 rfl (by decide) rfl, mo_istore⟩ (
  And.intro ⟨ok_iconst dX2_filledCount_2 rfl ic_0, mo_push⟩ (
  And.intro ⟨ok_istore_n dX2_filledCount_3 rfl (by decide) rfl, mo_istore⟩ (
  And.intro ⟨ok_iload_n dX2_filledCount_4 rfl rfl, mo_iload⟩ (
  And.intro ⟨ok_aload_n dX2_filledCount_5 rfl rfl, mo_aload⟩ (
  And.intro ⟨ok_getI dX2_filledCount_6 hclX2 inWX2 (by decide) (by decide) wd_69 (fun _ _ _ => rfl) rfl, mo_getI⟩ (
  And.intro ⟨ok_nop, mo_nop⟩ (
  And.intro ⟨ok_nop, mo_nop⟩ (
  And.intro ⟨ok_icmp_ge dX2_filledCount_9 (by decide) rfl, mo_icmp⟩ (
  And.intro ⟨ok_nop, mo_nop⟩ (
  And.intro ⟨ok_nop, mo_nop⟩ (
  And.intro ⟨ok_aload_n dX2_filledCount_12 rfl rfl, mo_aload⟩ (
  And.intro ⟨ok_getR dX2_filledCount_13 hclX2 inWX2 (by decide) (by decide) wd_66 (fun _ _ _ => rfl) rfl, mo_getR⟩ (
  And.intro ⟨ok_nop, mo_nop⟩ (
  And.intro ⟨ok_nop, mo_nop⟩ (
  trivial))))))))))))))))
theorem rX2_filledCount_1 : am_allR (fun pc o => am_ok am_tb0 cX2_filledCount RX2 3 (some .int) false pc o ∧ am_mo o) 16 (am_nth [] tX2_filledCount 1) :=
  And.intro ⟨ok_iload_n dX2_filledCount_16 rfl rfl, mo_iload⟩ (
  And.intro ⟨ok_aald (ci := 1) dX2_filledCount_17 (by decide) rfl rfl, mo_aald⟩ (
  And.intro ⟨ok_getIN dX2_filledCount_18 hclX1 inWX1 (by decide) (by decide) wn_49 (fun _ _ _ => rfl) rfl, mo_getI⟩ (
  And.intro ⟨ok_nop, mo_nop⟩ (
  And.intro ⟨ok_nop, mo_nop⟩ (
  And.intro ⟨ok_if_ne dX2_filledCount_21 (by decide) rfl, mo_if⟩ (
  And.intro ⟨ok_nop, mo_nop⟩ (
  And.intro ⟨ok_nop, mo_nop⟩ (
  And.intro ⟨ok_iinc dX2_filledCount_24 ic_1 (by decide) rfl, mo_iinc⟩ (
  And.intro ⟨ok_nop, mo_nop⟩ (
  And.intro ⟨ok_nop, mo_nop⟩ (
  And.intro ⟨ok_iinc dX2_filledCount_27 ic_1 (by decide) rfl, mo_iinc⟩ (
  And.intro ⟨ok_nop, mo_nop⟩ (
  And.intro ⟨ok_nop, mo_nop⟩ (
  And.intro ⟨ok_goto dX2_filledCount_30 (by decide), mo_goto⟩ (
  And.intro ⟨ok_nop, mo_nop⟩ (
  trivial))))))))))))))))
theorem rX2_filledCount_2 : am_allR (fun pc o => am_ok am_tb0 cX2_filledCount RX2 3 (some .int) false pc o ∧ am_mo o) 32 (am_nth [] tX2_filledCount 2) :=
  And.intro ⟨ok_nop, mo_nop⟩ (
  And.intro ⟨ok_iload_n dX2_filledCount_33 rfl rfl, mo_iload⟩ (
  And.intro ⟨ok_iret dX2_filledCount_34 rfl, mo_iret⟩ (
  And.intro ⟨ok_nop, mo_nop⟩ (
  And.intro ⟨ok_nop, mo_nop⟩ (
  And.intro ⟨ok_nop, mo_nop⟩ (
  And.intro ⟨ok_nop, mo_nop⟩ (
  And.intro ⟨ok_nop, mo_nop⟩ (
  And.intro ⟨ok_nop, mo_nop⟩ (
  And.intro ⟨ok_nop, mo_nop⟩ (
  And.intro ⟨ok_nop, mo_nop⟩ (
  And.intro ⟨ok_nop, mo_nop⟩ (
  And.intro ⟨ok_nop, mo_nop⟩ (
  And.intro ⟨ok_nop, mo_nop⟩ (
  And.intro ⟨ok_nop, mo_nop⟩ (
  And.intro ⟨ok_nop, mo_nop⟩ (
  trivial))))))))))))))))
theorem kX2_filledCount : am_M1 am_tb0 cX2_filledCount RX2 3 (some .int) false tX2_filledCount := And.intro rX2_filledCount_0 (And.intro rX2_filledCount_1 (And.intro rX2_filledCount_2 (trivial)))
def tX2_depthSum : List (List am_Op) := [[o_push (.int 0) 1, o_istore 1 2, o_push (.int 0) 3, o_istore 2 4, o_iload 2 5, o_aload 0 6, o_getI 2 14 1 9, am_nop, am_nop, o_icmp (fun x y => y ≤ x) 30 12, am_nop, am_nop, o_iload 1 13, o_aload 0 14, o_getR 2 14 0 17, am_nop],
  [am_nop, o_iload 2 18, o_aald 31 19, o_getI 1 5 2 22, am_nop, am_nop, o_bin (fun x y => x + y) 23, o_istore 1 24, o_iinc 2 1 27, am_nop, am_nop, o_goto 4, am_nop, am_nop, o_iload 1 31, o_iret]]
theorem rX2_depthSum_0 : am_allR (fun pc o => am_ok am_tb0 cX2_depthSum RX2 3 (some .int) false pc o ∧ am_mo o) 0 (am_nth [] tX2_depthSum 0) :=
  And.intro ⟨ok_iconst dX2_depthSum_0 rfl ic_0, mo_push⟩ (
  And.intro ⟨ok_istore_n dX2_depthSum_1 rfl (by decide) rfl, mo_istore⟩ (
  And.intro ⟨ok_iconst dX2_depthSum_2 rfl ic_0, mo_push⟩ (
  And.intro ⟨ok_istore_n dX2_depthSum_3 rfl (by decide) rfl, mo_istore⟩ (
  And.intro ⟨ok_iload_n dX2_depthSum_4 rfl rfl, mo_iload⟩ (
  And.intro ⟨ok_aload_n dX2_depthSum_5 rfl rfl, mo_aload⟩ (
  And.intro ⟨ok_getI dX2_depthSum_6 hclX2 inWX2 (by decide) (by decide) wd_69 (fun _ _ _ => rfl) rfl, mo_getI⟩ (
  And.intro ⟨ok_nop, mo_nop⟩ (
  And.intro ⟨ok_nop, mo_nop⟩ (
  And.intro ⟨ok_icmp_ge dX2_depthSum_9 (by decide) rfl, mo_icmp⟩ (
  And.intro ⟨ok_nop, mo_nop⟩ (
  And.intro ⟨ok_nop, mo_nop⟩ (
  And.intro ⟨ok_iload_n dX2_depthSum_12 rfl rfl, mo_iload⟩ (
  And.intro ⟨ok_aload_n dX2_depthSum_13 rfl rfl, mo_aload⟩ (
  And.intro ⟨ok_getR dX2_depthSum_14 hclX2 inWX2 (by decide) (by decide) wd_66 (fun _ _ _ => rfl) rfl, mo_getR⟩ (
  And.intro ⟨ok_nop, mo_nop⟩ (
  trivial))))))))))))))))
theorem rX2_depthSum_1 : am_allR (fun pc o => am_ok am_tb0 cX2_depthSum RX2 3 (some .int) false pc o ∧ am_mo o) 16 (am_nth [] tX2_depthSum 1) :=
  And.intro ⟨ok_nop, mo_nop⟩ (
  And.intro ⟨ok_iload_n dX2_depthSum_17 rfl rfl, mo_iload⟩ (
  And.intro ⟨ok_aald (ci := 1) dX2_depthSum_18 (by decide) rfl rfl, mo_aald⟩ (
  And.intro ⟨ok_getIN dX2_depthSum_19 hclX1 inWX1 (by decide) (by decide) wn_49 (fun _ _ _ => rfl) rfl, mo_getI⟩ (
  And.intro ⟨ok_nop, mo_nop⟩ (
  And.intro ⟨ok_nop, mo_nop⟩ (
  And.intro ⟨ok_iadd dX2_depthSum_22 rfl, mo_bin⟩ (
  And.intro ⟨ok_istore_n dX2_depthSum_23 rfl (by decide) rfl, mo_istore⟩ (
  And.intro ⟨ok_iinc dX2_depthSum_24 ic_1 (by decide) rfl, mo_iinc⟩ (
  And.intro ⟨ok_nop, mo_nop⟩ (
  And.intro ⟨ok_nop, mo_nop⟩ (
  And.intro ⟨ok_goto dX2_depthSum_27 (by decide), mo_goto⟩ (
  And.intro ⟨ok_nop, mo_nop⟩ (
  And.intro ⟨ok_nop, mo_nop⟩ (
  And.intro ⟨ok_iload_n dX2_depthSum_30 rfl rfl, mo_iload⟩ (
  And.intro ⟨ok_iret dX2_depthSum_31 rfl, mo_iret⟩ (
  trivial))))))))))))))))
theorem kX2_depthSum : am_M1 am_tb0 cX2_depthSum RX2 3 (some .int) false tX2_depthSum := And.intro rX2_depthSum_0 (And.intro rX2_depthSum_1 (trivial))
def tX2_debtOf : List (List am_Op) := [[o_push (.int 0) 1, o_istore 2 2, o_push (.int 0) 3, o_istore 3 4, o_iload 3 5, o_aload 0 6, o_getI 2 14 1 9, am_nop, am_nop, o_icmp (fun x y => y ≤ x) 43 12, am_nop, am_nop, o_aload 0 13, o_getR 2 14 0 16, am_nop, am_nop],
  [o_iload 3 17, o_aald 31 18, o_getI 1 5 3 21, am_nop, am_nop, o_iload 1 22, o_icmp (fun x y => ¬ x = y) 37 25, am_nop, am_nop, o_iload 2 26, o_aload 0 27, o_getR 2 14 0 30, am_nop, am_nop, o_iload 3 31, o_aald 31 32],
  [o_getI 1 5 2 35, am_nop, am_nop, o_bin (fun x y => x + y) 36, o_istore 2 37, o_iinc 3 1 40, am_nop, am_nop, o_goto 4, am_nop, am_nop, o_iload 2 44, o_iret, am_nop, am_nop, am_nop]]
theorem rX2_debtOf_0 : am_allR (fun pc o => am_ok am_tb0 cX2_debtOf RX2 4 (some .int) false pc o ∧ am_mo o) 0 (am_nth [] tX2_debtOf 0) :=
  And.intro ⟨ok_iconst dX2_debtOf_0 rfl ic_0, mo_push⟩ (
  And.intro ⟨ok_istore_n dX2_debtOf_1 rfl (by decide) rfl, mo_istore⟩ (
  And.intro ⟨ok_iconst dX2_debtOf_2 rfl ic_0, mo_push⟩ (
  And.intro ⟨ok_istore_n dX2_debtOf_3 rfl (by decide) rfl, mo_istore⟩ (
  And.intro ⟨ok_iload_n dX2_debtOf_4 rfl rfl, mo_iload⟩ (
  And.intro ⟨ok_aload_n dX2_debtOf_5 rfl rfl, mo_aload⟩ (
  And.intro ⟨ok_getI dX2_debtOf_6 hclX2 inWX2 (by decide) (by decide) wd_69 (fun _ _ _ => rfl) rfl, mo_getI⟩ (
  And.intro ⟨ok_nop, mo_nop⟩ (
  And.intro ⟨ok_nop, mo_nop⟩ (
  And.intro ⟨ok_icmp_ge dX2_debtOf_9 (by decide) rfl, mo_icmp⟩ (
  And.intro ⟨ok_nop, mo_nop⟩ (
  And.intro ⟨ok_nop, mo_nop⟩ (
  And.intro ⟨ok_aload_n dX2_debtOf_12 rfl rfl, mo_aload⟩ (
  And.intro ⟨ok_getR dX2_debtOf_13 hclX2 inWX2 (by decide) (by decide) wd_66 (fun _ _ _ => rfl) rfl, mo_getR⟩ (
  And.intro ⟨ok_nop, mo_nop⟩ (
  And.intro ⟨ok_nop, mo_nop⟩ (
  trivial))))))))))))))))
theorem rX2_debtOf_1 : am_allR (fun pc o => am_ok am_tb0 cX2_debtOf RX2 4 (some .int) false pc o ∧ am_mo o) 16 (am_nth [] tX2_debtOf 1) :=
  And.intro ⟨ok_iload_n dX2_debtOf_16 rfl rfl, mo_iload⟩ (
  And.intro ⟨ok_aald (ci := 1) dX2_debtOf_17 (by decide) rfl rfl, mo_aald⟩ (
  And.intro ⟨ok_getIN dX2_debtOf_18 hclX1 inWX1 (by decide) (by decide) wn_51 (fun _ _ _ => rfl) rfl, mo_getI⟩ (
  And.intro ⟨ok_nop, mo_nop⟩ (
  And.intro ⟨ok_nop, mo_nop⟩ (
  And.intro ⟨ok_iload_n dX2_debtOf_21 rfl rfl, mo_iload⟩ (
  And.intro ⟨ok_icmp_ne dX2_debtOf_22 (by decide) rfl, mo_icmp⟩ (
  And.intro ⟨ok_nop, mo_nop⟩ (
  And.intro ⟨ok_nop, mo_nop⟩ (
  And.intro ⟨ok_iload_n dX2_debtOf_25 rfl rfl, mo_iload⟩ (
  And.intro ⟨ok_aload_n dX2_debtOf_26 rfl rfl, mo_aload⟩ (
  And.intro ⟨ok_getR dX2_debtOf_27 hclX2 inWX2 (by decide) (by decide) wd_66 (fun _ _ _ => rfl) rfl, mo_getR⟩ (
  And.intro ⟨ok_nop, mo_nop⟩ (
  And.intro ⟨ok_nop, mo_nop⟩ (
  And.intro ⟨ok_iload_n dX2_debtOf_30 rfl rfl, mo_iload⟩ (
  And.intro ⟨ok_aald (ci := 1) dX2_debtOf_31 (by decide) rfl rfl, mo_aald⟩ (
  trivial))))))))))))))))
theorem rX2_debtOf_2 : am_allR (fun pc o => am_ok am_tb0 cX2_debtOf RX2 4 (some .int) false pc o ∧ am_mo o) 32 (am_nth [] tX2_debtOf 2) :=
  And.intro ⟨ok_getIN dX2_debtOf_32 hclX1 inWX1 (by decide) (by decide) wn_49 (fun _ _ _ => rfl) rfl, mo_getI⟩ (
  And.intro ⟨ok_nop, mo_nop⟩ (
  And.intro ⟨ok_nop, mo_nop⟩ (
  And.intro ⟨ok_iadd dX2_debtOf_35 rfl, mo_bin⟩ (
  And.intro ⟨ok_istore_n dX2_debtOf_36 rfl (by decide) rfl, mo_istore⟩ (
  And.intro ⟨ok_iinc dX2_debtOf_37 ic_1 (by decide) rfl, mo_iinc⟩ (
  And.intro ⟨ok_nop, mo_nop⟩ (
  And.intro ⟨ok_nop, mo_nop⟩ (
  And.intro ⟨ok_goto dX2_debtOf_40 (by decide), mo_goto⟩ (
  And.intro ⟨ok_nop, mo_nop⟩ (
  And.intro ⟨ok_nop, mo_nop⟩ (
  And.intro ⟨ok_iload_n dX2_debtOf_43 rfl rfl, mo_iload⟩ (
  And.intro ⟨ok_iret dX2_debtOf_44 rfl, mo_iret⟩ (
  And.intro ⟨ok_nop, mo_nop⟩ (
  And.intro ⟨ok_nop, mo_nop⟩ (
  And.intro ⟨ok_nop, mo_nop⟩ (
  trivial))))))))))))))))
theorem kX2_debtOf : am_M1 am_tb0 cX2_debtOf RX2 4 (some .int) false tX2_debtOf := And.intro rX2_debtOf_0 (And.intro rX2_debtOf_1 (And.intro rX2_debtOf_2 (trivial)))
def tX2_fineOf : List (List am_Op) := [[o_aload 0 1, o_push (.int 2) 2, o_cv 2 14 31 2 1 1 5, am_nop, am_nop, o_astore 2 6, o_aload 2 7, o_null 10 18, am_nop, am_nop, o_aload 0 11, o_iload 1 12, o_cv 2 14 28 4 0 1 15, am_nop, am_nop, o_goto 32],
  [am_nop, am_nop, o_aload 2 19, o_aload 0 20, o_iload 1 21, o_cv 2 14 28 4 0 1 24, am_nop, am_nop, o_aload 0 25, o_getI 2 14 11 28, am_nop, am_nop, o_push (.int 0) 29, o_cv 6 4 58 7 1 3 32, am_nop, am_nop],
  [o_iret, am_nop, am_nop, am_nop, am_nop, am_nop, am_nop, am_nop, am_nop, am_nop, am_nop, am_nop, am_nop, am_nop, am_nop, am_nop]]
theorem rX2_fineOf_0 : am_allR (fun pc o => am_ok am_tb0 cX2_fineOf RX2 3 (some .int) false pc o ∧ am_mo o) 0 (am_nth [] tX2_fineOf 0) :=
  And.intro ⟨ok_aload_n dX2_fineOf_0 rfl rfl, mo_aload⟩ (
  And.intro ⟨ok_iconst dX2_fineOf_1 rfl ic_2, mo_push⟩ (
  And.intro ⟨ok_cv (z := 31) dX2_fineOf_2 hclX2 (by decide) wd_343 wd_344 wd_345 wd_2 wd_346 rfl (by decide) ⟨rfl, hy_X2_textFor⟩ rfl, mo_cv⟩ (
  And.intro ⟨ok_nop, mo_nop⟩ (
  And.intro ⟨ok_nop, mo_nop⟩ (
  And.intro ⟨ok_astore_n dX2_fineOf_5 rfl (by decide) rfl, mo_astore⟩ (
  And.intro ⟨ok_aload_n dX2_fineOf_6 rfl rfl, mo_aload⟩ (
  And.intro ⟨ok_ifnonnull dX2_fineOf_7 (by decide) rfl, mo_null⟩ (
  And.intro ⟨ok_nop, mo_nop⟩ (
  And.intro ⟨ok_nop, mo_nop⟩ (
  And.intro ⟨ok_aload_n dX2_fineOf_10 rfl rfl, mo_aload⟩ (
  And.intro ⟨ok_iload_n dX2_fineOf_11 rfl rfl, mo_iload⟩ (
  And.intro ⟨ok_cv (z := 28) dX2_fineOf_12 hclX2 (by decide) wd_570 wd_530 wd_531 wd_2 wd_532 rfl (by decide) ⟨rfl, hy_X2_debtOf⟩ rfl, mo_cv⟩ (
  And.intro ⟨ok_nop, mo_nop⟩ (
  And.intro ⟨ok_nop, mo_nop⟩ (
  And.intro ⟨ok_goto dX2_fineOf_15 (by decide), mo_goto⟩ (
  trivial))))))))))))))))
theorem rX2_fineOf_1 : am_allR (fun pc o => am_ok am_tb0 cX2_fineOf RX2 3 (some .int) false pc o ∧ am_mo o) 16 (am_nth [] tX2_fineOf 1) :=
  And.intro ⟨ok_nop, mo_nop⟩ (
  And.intro ⟨ok_nop, mo_nop⟩ (
  And.intro ⟨ok_aload_n dX2_fineOf_18 rfl rfl, mo_aload⟩ (
  And.intro ⟨ok_aload_n dX2_fineOf_19 rfl rfl, mo_aload⟩ (
  And.intro ⟨ok_iload_n dX2_fineOf_20 rfl rfl, mo_iload⟩ (
  And.intro ⟨ok_cv (z := 28) dX2_fineOf_21 hclX2 (by decide) wd_570 wd_530 wd_531 wd_2 wd_532 rfl (by decide) ⟨rfl, hy_X2_debtOf⟩ rfl, mo_cv⟩ (
  And.intro ⟨ok_nop, mo_nop⟩ (
  And.intro ⟨ok_nop, mo_nop⟩ (
  And.intro ⟨ok_aload_n dX2_fineOf_24 rfl rfl, mo_aload⟩ (
  And.intro ⟨ok_getI dX2_fineOf_25 hclX2 inWX2 (by decide) (by decide) wd_92 (fun _ _ _ => rfl) rfl, mo_getI⟩ (
  And.intro ⟨ok_nop, mo_nop⟩ (
  And.intro ⟨ok_nop, mo_nop⟩ (
  And.intro ⟨ok_iconst dX2_fineOf_28 rfl ic_0, mo_push⟩ (
  And.intro ⟨ok_cv (z := 58) dX2_fineOf_29 hclX6 (by decide) wd_351 wd_352 wd_353 wd_9 wd_354 rfl (by decide) ⟨rfl, hy_X6_value⟩ rfl, mo_cv⟩ (
  And.intro ⟨ok_nop, mo_nop⟩ (
  And.intro ⟨ok_nop, mo_nop⟩ (
  trivial))))))))))))))))
theorem rX2_fineOf_2 : am_allR (fun pc o => am_ok am_tb0 cX2_fineOf RX2 3 (some .int) false pc o ∧ am_mo o) 32 (am_nth [] tX2_fineOf 2) :=
  And.intro ⟨ok_iret dX2_fineOf_32 rfl, mo_iret⟩ (
  And.intro ⟨ok_nop, mo_nop⟩ (
  And.intro ⟨ok_nop, mo_nop⟩ (
  And.intro ⟨ok_nop, mo_nop⟩ (
  And.intro ⟨ok_nop, mo_nop⟩ (
  And.intro ⟨ok_nop, mo_nop⟩ (
  And.intro ⟨ok_nop, mo_nop⟩ (
  And.intro ⟨ok_nop, mo_nop⟩ (
  And.intro ⟨ok_nop, mo_nop⟩ (
  And.intro ⟨ok_nop, mo_nop⟩ (
  And.intro ⟨ok_nop, mo_nop⟩ (
  And.intro ⟨ok_nop, mo_nop⟩ (
  And.intro ⟨ok_nop, mo_nop⟩ (
  And.intro ⟨ok_nop, mo_nop⟩ (
  And.intro ⟨ok_nop, mo_nop⟩ (
  And.intro ⟨ok_nop, mo_nop⟩ (
  trivial))))))))))))))))
theorem kX2_fineOf : am_M1 am_tb0 cX2_fineOf RX2 3 (some .int) false tX2_fineOf := And.intro rX2_fineOf_0 (And.intro rX2_fineOf_1 (And.intro rX2_fineOf_2 (trivial)))
def tX2_findText : List (List am_Op) := [[o_iload 1 1, o_if (fun x => x < 0) 21 4, am_nop, am_nop, o_iload 1 5, o_aload 0 6, o_getI 2 14 6 9, am_nop, am_nop, o_icmp (fun x y => y ≤ x) 21 12, am_nop, am_nop, o_aload 0 13, o_getR 2 14 5 16, am_nop, am_nop],
  [o_iload 1 17, o_aald 36 18, o_goto 22, am_nop, am_nop, o_push (.ref 0) 22, o_aret, am_nop, am_nop, am_nop, am_nop, am_nop, am_nop, am_nop, am_nop, am_nop]]
theorem rX2_findText_0 : am_allR (fun pc o => am_ok am_tb0 cX2_findText RX2 2 (some (.object "DigFill$Text")) false pc o ∧ am_mo o) 0 (am_nth [] tX2_findText 0) :=
  And.intro ⟨ok_iload_n dX2_findText_0 rfl rfl, mo_iload⟩ (
  And.intro ⟨ok_if_lt dX2_findText_1 (by decide) rfl, mo_if⟩ (
  And.intro ⟨ok_nop, mo_nop⟩ (
  And.intro ⟨ok_nop, mo_nop⟩ (
  And.intro ⟨ok_iload_n dX2_findText_4 rfl rfl, mo_iload⟩ (
  And.intro ⟨ok_aload_n dX2_findText_5 rfl rfl, mo_aload⟩ (
  And.intro ⟨ok_getI dX2_findText_6 hclX2 inWX2 (by decide) (by decide) wd_82 (fun _ _ _ => rfl) rfl, mo_getI⟩ (
  And.intro ⟨ok_nop, mo_nop⟩ (
  And.intro ⟨ok_nop, mo_nop⟩ (
  And.intro ⟨ok_icmp_ge dX2_findText_9 (by decide) rfl, mo_icmp⟩ (
  And.intro ⟨ok_nop, mo_nop⟩ (
  And.intro ⟨ok_nop, mo_nop⟩ (
  And.intro ⟨ok_aload_n dX2_findText_12 rfl rfl, mo_aload⟩ (
  And.intro ⟨ok_getR dX2_findText_13 hclX2 inWX2 (by decide) (by decide) wd_81 (fun _ _ _ => rfl) rfl, mo_getR⟩ (
  And.intro ⟨ok_nop, mo_nop⟩ (
  And.intro ⟨ok_nop, mo_nop⟩ (
  trivial))))))))))))))))
theorem rX2_findText_1 : am_allR (fun pc o => am_ok am_tb0 cX2_findText RX2 2 (some (.object "DigFill$Text")) false pc o ∧ am_mo o) 16 (am_nth [] tX2_findText 1) :=
  And.intro ⟨ok_iload_n dX2_findText_16 rfl rfl, mo_iload⟩ (
  And.intro ⟨ok_aald (ci := 6) dX2_findText_17 (by decide) rfl rfl, mo_aald⟩ (
  And.intro ⟨ok_goto dX2_findText_18 (by decide), mo_goto⟩ (
  And.intro ⟨ok_nop, mo_nop⟩ (
  And.intro ⟨ok_nop, mo_nop⟩ (
  And.intro ⟨ok_null dX2_findText_21 rfl, mo_push⟩ (
  And.intro ⟨ok_aret dX2_findText_22 rfl (Or.inl ⟨_, rfl⟩), mo_aret⟩ (
  And.intro ⟨ok_nop, mo_nop⟩ (
  And.intro ⟨ok_nop, mo_nop⟩ (
  And.intro ⟨ok_nop, mo_nop⟩ (
  And.intro ⟨ok_nop, mo_nop⟩ (
  And.intro ⟨ok_nop, mo_nop⟩ (
  And.intro ⟨ok_nop, mo_nop⟩ (
  And.intro ⟨ok_nop, mo_nop⟩ (
  And.intro ⟨ok_nop, mo_nop⟩ (
  And.intro ⟨ok_nop, mo_nop⟩ (
  trivial))))))))))))))))
theorem kX2_findText : am_M1 am_tb0 cX2_findText RX2 2 (some (.object "DigFill$Text")) false tX2_findText := And.intro rX2_findText_0 (And.intro rX2_findText_1 (trivial))
def tX2_textFor : List (List am_Op) := [[o_aload 0 1, o_aload 0 2, o_getR 2 14 7 5, am_nop, am_nop, o_iload 1 6, o_iald 20 7, o_cv 2 14 30 2 0 1 10, am_nop, am_nop, o_aret]]
theorem rX2_textFor_0 : am_allR (fun pc o => am_ok am_tb0 cX2_textFor RX2 2 (some (.object "DigFill$Text")) false pc o ∧ am_mo o) 0 (am_nth [] tX2_textFor 0) :=
  And.intro ⟨ok_aload_n dX2_textFor_0 rfl rfl, mo_aload⟩ (
  And.intro ⟨ok_aload_n dX2_textFor_1 rfl rfl, mo_aload⟩ (
  And.intro ⟨ok_getR dX2_textFor_2 hclX2 inWX2 (by decide) (by decide) wd_84 (fun _ _ _ => rfl) rfl, mo_getR⟩ (
  And.intro ⟨ok_nop, mo_nop⟩ (
  And.intro ⟨ok_nop, mo_nop⟩ (
  And.intro ⟨ok_iload_n dX2_textFor_5 rfl rfl, mo_iload⟩ (
  And.intro ⟨ok_iald dX2_textFor_6 rfl, mo_iald⟩ (
  And.intro ⟨ok_cv (z := 30) dX2_textFor_7 hclX2 (by decide) wd_347 wd_348 wd_349 wd_2 wd_350 rfl (by decide) ⟨rfl, hy_X2_findText⟩ rfl, mo_cv⟩ (
  And.intro ⟨ok_nop, mo_nop⟩ (
  And.intro ⟨ok_nop, mo_nop⟩ (
  And.intro ⟨ok_aret dX2_textFor_10 rfl (Or.inl ⟨_, rfl⟩), mo_aret⟩ (
  trivial)))))))))))
theorem kX2_textFor : am_M1 am_tb0 cX2_textFor RX2 2 (some (.object "DigFill$Text")) false tX2_textFor := And.intro rX2_textFor_0 (trivial)
def tX2_addText : List (List am_Op) := [[o_aload 0 1, o_getI 2 14 6 4, am_nop, am_nop, o_istore 2 5, o_iload 2 6, o_push (.int 14) 8, am_nop, o_icmp (fun x y => y ≤ x) 26 11, am_nop, am_nop, o_aload 1 12, o_getI 6 4 0 15, am_nop, am_nop, o_if (fun x => x < 0) 26 18],
  [am_nop, am_nop, o_aload 1 19, o_getI 6 4 0 22, am_nop, am_nop, o_push (.int 3) 23, o_icmp (fun x y => x < y) 29 26, am_nop, am_nop, o_push (.int (-1000000003)) 28, am_nop, o_iret, o_aload 0 30, o_getR 2 14 5 33, am_nop],
  [am_nop, o_iload 2 34, o_aload 1 35, o_aast 6 4 36, o_aload 0 37, o_getR 2 14 7 40, am_nop, am_nop, o_aload 1 41, o_getI 6 4 0 44, am_nop, am_nop, o_iload 2 45, o_iast 46, o_aload 0 47, o_iload 2 48],
  [o_push (.int 1) 49, o_bin (fun x y => x + y) 50, o_putI 2 14 6 53, am_nop, am_nop, o_iload 2 54, o_iret, am_nop, am_nop, am_nop, am_nop, am_nop, am_nop, am_nop, am_nop, am_nop]]
theorem rX2_addText_0 : am_allR (fun pc o => am_ok am_tb0 cX2_addText RX2 3 (some .int) false pc o ∧ am_mo o) 0 (am_nth [] tX2_addText 0) :=
  And.intro ⟨ok_aload_n dX2_addText_0 rfl rfl, mo_aload⟩ (
  And.intro ⟨ok_getI dX2_addText_1 hclX2 inWX2 (by decide) (by decide) wd_82 (fun _ _ _ => rfl) rfl, mo_getI⟩ (
  And.intro ⟨ok_nop, mo_nop⟩ (
  And.intro ⟨ok_nop, mo_nop⟩ (
  And.intro ⟨ok_istore_n dX2_addText_4 rfl (by decide) rfl, mo_istore⟩ (
  And.intro ⟨ok_iload_n dX2_addText_5 rfl rfl, mo_iload⟩ (
  And.intro ⟨ok_bipush dX2_addText_6 rfl bi_14, mo_push⟩ (
  And.intro ⟨ok_nop, mo_nop⟩ (
  And.intro ⟨ok_icmp_ge dX2_addText_8 (by decide) rfl, mo_icmp⟩ (
  And.intro ⟨ok_nop, mo_nop⟩ (
  And.intro ⟨ok_nop, mo_nop⟩ (
  And.intro ⟨ok_aload_n dX2_addText_11 rfl rfl, mo_aload⟩ (
  And.intro ⟨ok_getIN dX2_addText_12 hclX6 inWX6 (by decide) (by decide) wn_773 (fun _ _ _ => rfl) rfl, mo_getI⟩ (
  And.intro ⟨ok_nop, mo_nop⟩ (
  And.intro ⟨ok_nop, mo_nop⟩ (
  And.intro ⟨ok_if_lt dX2_addText_15 (by decide) rfl, mo_if⟩ (
  trivial))))))))))))))))
theorem rX2_addText_1 : am_allR (fun pc o => am_ok am_tb0 cX2_addText RX2 3 (some .int) false pc o ∧ am_mo o) 16 (am_nth [] tX2_addText 1) :=
  And.intro ⟨ok_nop, mo_nop⟩ (
  And.intro ⟨ok_nop, mo_nop⟩ (
  And.intro ⟨ok_aload_n dX2_addText_18 rfl rfl, mo_aload⟩ (
  And.intro ⟨ok_getIN dX2_addText_19 hclX6 inWX6 (by decide) (by decide) wn_773 (fun _ _ _ => rfl) rfl, mo_getI⟩ (
  And.intro ⟨ok_nop, mo_nop⟩ (
  And.intro ⟨ok_nop, mo_nop⟩ (
  And.intro ⟨ok_iconst dX2_addText_22 rfl ic_3, mo_push⟩ (
  And.intro ⟨ok_icmp_lt dX2_addText_23 (by decide) rfl, mo_icmp⟩ (
  And.intro ⟨ok_nop, mo_nop⟩ (
  And.intro ⟨ok_nop, mo_nop⟩ (
  And.intro ⟨ok_ldc dX2_addText_26 rfl wd_284, mo_push⟩ (
  And.intro ⟨ok_nop, mo_nop⟩ (
  And.intro ⟨ok_iret dX2_addText_28 rfl, mo_iret⟩ (
  And.intro ⟨ok_aload_n dX2_addText_29 rfl rfl, mo_aload⟩ (
  And.intro ⟨ok_getR dX2_addText_30 hclX2 inWX2 (by decide) (by decide) wd_81 (fun _ _ _ => rfl) rfl, mo_getR⟩ (
  And.intro ⟨ok_nop, mo_nop⟩ (
  trivial))))))))))))))))
theorem rX2_addText_2 : am_allR (fun pc o => am_ok am_tb0 cX2_addText RX2 3 (some .int) false pc o ∧ am_mo o) 32 (am_nth [] tX2_addText 2) :=
  And.intro ⟨ok_nop, mo_nop⟩ (
  And.intro ⟨ok_iload_n dX2_addText_33 rfl rfl, mo_iload⟩ (
  And.intro ⟨ok_aload_n dX2_addText_34 rfl rfl, mo_aload⟩ (
  And.intro ⟨ok_aast dX2_addText_35 (by decide) hclX6 rfl rfl, mo_aast⟩ (
  And.intro ⟨ok_aload_n dX2_addText_36 rfl rfl, mo_aload⟩ (
  And.intro ⟨ok_getR dX2_addText_37 hclX2 inWX2 (by decide) (by decide) wd_84 (fun _ _ _ => rfl) rfl, mo_getR⟩ (
  And.intro ⟨ok_nop, mo_nop⟩ (
  And.intro ⟨ok_nop, mo_nop⟩ (
  And.intro ⟨ok_aload_n dX2_addText_40 rfl rfl, mo_aload⟩ (
  And.intro ⟨ok_getIN dX2_addText_41 hclX6 inWX6 (by decide) (by decide) wn_773 (fun _ _ _ => rfl) rfl, mo_getI⟩ (
  And.intro ⟨ok_nop, mo_nop⟩ (
  And.intro ⟨ok_nop, mo_nop⟩ (
  And.intro ⟨ok_iload_n dX2_addText_44 rfl rfl, mo_iload⟩ (
  And.intro ⟨ok_iast dX2_addText_45 rfl, mo_iast⟩ (
  And.intro ⟨ok_aload_n dX2_addText_46 rfl rfl, mo_aload⟩ (
  And.intro ⟨ok_iload_n dX2_addText_47 rfl rfl, mo_iload⟩ (
  trivial))))))))))))))))
theorem rX2_addText_3 : am_allR (fun pc o => am_ok am_tb0 cX2_addText RX2 3 (some .int) false pc o ∧ am_mo o) 48 (am_nth [] tX2_addText 3) :=
  And.intro ⟨ok_iconst dX2_addText_48 rfl ic_1, mo_push⟩ (
  And.intro ⟨ok_iadd dX2_addText_49 rfl, mo_bin⟩ (
  And.intro ⟨ok_putI dX2_addText_50 hclX2 inWX2 tyX2_ok nmX2 (by decide) (by decide) wd_82 rfl (tyX2_ok 6 (by decide)) (fun _ _ _ => rfl) rfl, mo_putI⟩ (
  And.intro ⟨ok_nop, mo_nop⟩ (
  And.intro ⟨ok_nop, mo_nop⟩ (
  And.intro ⟨ok_iload_n dX2_addText_53 rfl rfl, mo_iload⟩ (
  And.intro ⟨ok_iret dX2_addText_54 rfl, mo_iret⟩ (
  And.intro ⟨ok_nop, mo_nop⟩ (
  And.intro ⟨ok_nop, mo_nop⟩ (
  And.intro ⟨ok_nop, mo_nop⟩ (
  And.intro ⟨ok_nop, mo_nop⟩ (
  And.intro ⟨ok_nop, mo_nop⟩ (
  And.intro ⟨ok_nop, mo_nop⟩ (
  And.intro ⟨ok_nop, mo_nop⟩ (
  And.intro ⟨ok_nop, mo_nop⟩ (
  And.intro ⟨ok_nop, mo_nop⟩ (
  trivial))))))))))))))))
theorem kX2_addText : am_M1 am_tb0 cX2_addText RX2 3 (some .int) false tX2_addText := And.intro rX2_addText_0 (And.intro rX2_addText_1 (And.intro rX2_addText_2 (And.intro rX2_addText_3 (trivial))))
def tX3_init : List (List am_Op) := [[o_aload 0 1, o_oinit 4, am_nop, am_nop, o_aload 0 5, o_push (.int (-1)) 6, o_putI 3 3 0 9, am_nop, am_nop, o_aload 0 10, o_push (.int 0) 11, o_putI 3 3 1 14, am_nop, am_nop, o_aload 0 15, o_push (.int 24) 17],
  [am_nop, o_newa 20 19, am_nop, o_putR 3 3 2 22, am_nop, am_nop, o_ret, am_nop, am_nop, am_nop, am_nop, am_nop, am_nop, am_nop, am_nop, am_nop]]
theorem rX3_init_0 : am_allR (fun pc o => am_ok am_tb0 cX3_init RX3 1 none true pc o ∧ am_mo o) 0 (am_nth [] tX3_init 0) :=
  And.intro ⟨ok_aload_n dX3_init_0 rfl rfl, mo_aload⟩ (
  And.intro ⟨ok_oinit dX3_init_1 wd_197 wd_24 wd_25 rfl, mo_oinit⟩ (
  And.intro ⟨ok_nop, mo_nop⟩ (
  And.intro ⟨ok_nop, mo_nop⟩ (
  And.intro ⟨ok_aload_n dX3_init_4 rfl rfl, mo_aload⟩ (
  And.intro ⟨ok_iconst dX3_init_5 rfl ic_m1, mo_push⟩ (
  And.intro ⟨ok_putI dX3_init_6 hclX3 inWX3 tyX3_ok nmX3 (by decide) (by decide) wd_198 rfl (tyX3_ok 0 (by decide)) (fun _ _ _ => rfl) rfl, mo_putI⟩ (
  And.intro ⟨ok_nop, mo_nop⟩ (
  And.intro ⟨ok_nop, mo_nop⟩ (
  And.intro ⟨ok_aload_n dX3_init_9 rfl rfl, mo_aload⟩ (
  And.intro ⟨ok_iconst dX3_init_10 rfl ic_0, mo_push⟩ (
  And.intro ⟨ok_putI dX3_init_11 hclX3 inWX3 tyX3_ok nmX3 (by decide) (by decide) wd_200 rfl (tyX3_ok 1 (by decide)) (fun _ _ _ => rfl) rfl, mo_putI⟩ (
  And.intro ⟨ok_nop, mo_nop⟩ (
  And.intro ⟨ok_nop, mo_nop⟩ (
  And.intro ⟨ok_aload_n dX3_init_14 rfl rfl, mo_aload⟩ (
  And.intro ⟨ok_bipush dX3_init_15 rfl bi_24, mo_push⟩ (
  trivial))))))))))))))))
theorem rX3_init_1 : am_allR (fun pc o => am_ok am_tb0 cX3_init RX3 1 none true pc o ∧ am_mo o) 16 (am_nth [] tX3_init 1) :=
  And.intro ⟨ok_nop, mo_nop⟩ (
  And.intro ⟨ok_newI dX3_init_17 wd_65 rfl, mo_newa⟩ (
  And.intro ⟨ok_nop, mo_nop⟩ (
  And.intro ⟨ok_putRF dX3_init_19 hclX3 inWX3 tyX3_ok nmX3 (by decide) (by decide) wd_202 rfl rfl rfl (tyX3_ok 2 (by decide)) (Or.inr ⟨_, rfl⟩) (fun _ _ _ => rfl) rfl, mo_putR⟩ (
  And.intro ⟨ok_nop, mo_nop⟩ (
  And.intro ⟨ok_nop, mo_nop⟩ (
  And.intro ⟨ok_ret dX3_init_22 rfl, mo_ret⟩ (
  And.intro ⟨ok_nop, mo_nop⟩ (
  And.intro ⟨ok_nop, mo_nop⟩ (
  And.intro ⟨ok_nop, mo_nop⟩ (
  And.intro ⟨ok_nop, mo_nop⟩ (
  And.intro ⟨ok_nop, mo_nop⟩ (
  And.intro ⟨ok_nop, mo_nop⟩ (
  And.intro ⟨ok_nop, mo_nop⟩ (
  And.intro ⟨ok_nop, mo_nop⟩ (
  And.intro ⟨ok_nop, mo_nop⟩ (
  trivial))))))))))))))))
theorem kX3_init : am_M1 am_tb0 cX3_init RX3 1 none true tX3_init := And.intro rX3_init_0 (And.intro rX3_init_1 (trivial))
def tX3_clear : List (List am_Op) := [[o_aload 0 1, o_iload 1 2, o_putI 3 3 0 5, am_nop, am_nop, o_aload 0 6, o_iload 2 7, o_putI 3 3 1 10, am_nop, am_nop, o_aload 0 11, o_getR 3 3 2 14, am_nop, am_nop, o_push (.int 0) 15, o_cs 217 4 0 2 18],
  [am_nop, am_nop, o_ret, am_nop, am_nop, am_nop, am_nop, am_nop, am_nop, am_nop, am_nop, am_nop, am_nop, am_nop, am_nop, am_nop]]
theorem rX3_clear_0 : am_allR (fun pc o => am_ok am_tb0 cX3_clear RX3 3 none false pc o ∧ am_mo o) 0 (am_nth [] tX3_clear 0) :=
  And.intro ⟨ok_aload_n dX3_clear_0 rfl rfl, mo_aload⟩ (
  And.intro ⟨ok_iload_n dX3_clear_1 rfl rfl, mo_iload⟩ (
  And.intro ⟨ok_putI dX3_clear_2 hclX3 inWX3 tyX3_ok nmX3 (by decide) (by decide) wd_198 rfl (tyX3_ok 0 (by decide)) (fun _ _ _ => rfl) rfl, mo_putI⟩ (
  And.intro ⟨ok_nop, mo_nop⟩ (
  And.intro ⟨ok_nop, mo_nop⟩ (
  And.intro ⟨ok_aload_n dX3_clear_5 rfl rfl, mo_aload⟩ (
  And.intro ⟨ok_iload_n dX3_clear_6 rfl rfl, mo_iload⟩ (
  And.intro ⟨ok_putI dX3_clear_7 hclX3 inWX3 tyX3_ok nmX3 (by decide) (by decide) wd_200 rfl (tyX3_ok 1 (by decide)) (fun _ _ _ => rfl) rfl, mo_putI⟩ (
  And.intro ⟨ok_nop, mo_nop⟩ (
  And.intro ⟨ok_nop, mo_nop⟩ (
  And.intro ⟨ok_aload_n dX3_clear_10 rfl rfl, mo_aload⟩ (
  And.intro ⟨ok_getR dX3_clear_11 hclX3 inWX3 (by decide) (by decide) wd_202 (fun _ _ _ => rfl) rfl, mo_getR⟩ (
  And.intro ⟨ok_nop, mo_nop⟩ (
  And.intro ⟨ok_nop, mo_nop⟩ (
  And.intro ⟨ok_iconst dX3_clear_14 rfl ic_0, mo_push⟩ (
  And.intro ⟨ok_cs (z := 217) dX3_clear_15 wd_810 wd_551 wd_11 wd_552 rfl (by decide) hy_J7_fill_53178 rfl, mo_cs⟩ (
  trivial))))))))))))))))
theorem rX3_clear_1 : am_allR (fun pc o => am_ok am_tb0 cX3_clear RX3 3 none false pc o ∧ am_mo o) 16 (am_nth [] tX3_clear 1) :=
  And.intro ⟨ok_nop, mo_nop⟩ (
  And.intro ⟨ok_nop, mo_nop⟩ (
  And.intro ⟨ok_ret dX3_clear_18 rfl, mo_ret⟩ (
  And.intro ⟨ok_nop, mo_nop⟩ (
  And.intro ⟨ok_nop, mo_nop⟩ (
  And.intro ⟨ok_nop, mo_nop⟩ (
  And.intro ⟨ok_nop, mo_nop⟩ (
  And.intro ⟨ok_nop, mo_nop⟩ (
  And.intro ⟨ok_nop, mo_nop⟩ (
  And.intro ⟨ok_nop, mo_nop⟩ (
  And.intro ⟨ok_nop, mo_nop⟩ (
  And.intro ⟨ok_nop, mo_nop⟩ (
  And.intro ⟨ok_nop, mo_nop⟩ (
  And.intro ⟨ok_nop, mo_nop⟩ (
  And.intro ⟨ok_nop, mo_nop⟩ (
  And.intro ⟨ok_nop, mo_nop⟩ (
  trivial))))))))))))))))
theorem kX3_clear : am_M1 am_tb0 cX3_clear RX3 3 none false tX3_clear := And.intro rX3_clear_0 (And.intro rX3_clear_1 (trivial))
def tX3_become : List (List am_Op) := [[o_aload 0 1, o_aload 1 2, o_getI 3 3 0 5, am_nop, am_nop, o_putI 3 3 0 8, am_nop, am_nop, o_aload 0 9, o_aload 1 10, o_getI 3 3 1 13, am_nop, am_nop, o_putI 3 3 1 16, am_nop, am_nop],
  [o_aload 1 17, o_getR 3 3 2 20, am_nop, am_nop, o_push (.int 0) 21, o_aload 0 22, o_getR 3 3 2 25, am_nop, am_nop, o_push (.int 0) 26, o_push (.int 24) 28, am_nop, o_acopy 31, am_nop, am_nop, o_ret]]
theorem rX3_become_0 : am_allR (fun pc o => am_ok am_tb0 cX3_become RX3 2 none false pc o ∧ am_mo o) 0 (am_nth [] tX3_become 0) :=
  And.intro ⟨ok_aload_n dX3_become_0 rfl rfl, mo_aload⟩ (
  And.intro ⟨ok_aload_n dX3_become_1 rfl rfl, mo_aload⟩ (
  And.intro ⟨ok_getI dX3_become_2 hclX3 inWX3 (by decide) (by decide) wd_198 (fun _ _ _ => rfl) rfl, mo_getI⟩ (
  And.intro ⟨ok_nop, mo_nop⟩ (
  And.intro ⟨ok_nop, mo_nop⟩ (
  And.intro ⟨ok_putI dX3_become_5 hclX3 inWX3 tyX3_ok nmX3 (by decide) (by decide) wd_198 rfl (tyX3_ok 0 (by decide)) (fun _ _ _ => rfl) rfl, mo_putI⟩ (
  And.intro ⟨ok_nop, mo_nop⟩ (
  And.intro ⟨ok_nop, mo_nop⟩ (
  And.intro ⟨ok_aload_n dX3_become_8 rfl rfl, mo_aload⟩ (
  And.intro ⟨ok_aload_n dX3_become_9 rfl rfl, mo_aload⟩ (
  And.intro ⟨ok_getI dX3_become_10 hclX3 inWX3 (by decide) (by decide) wd_200 (fun _ _ _ => rfl) rfl, mo_getI⟩ (
  And.intro ⟨ok_nop, mo_nop⟩ (
  And.intro ⟨ok_nop, mo_nop⟩ (
  And.intro ⟨ok_putI dX3_become_13 hclX3 inWX3 tyX3_ok nmX3 (by decide) (by decide) wd_200 rfl (tyX3_ok 1 (by decide)) (fun _ _ _ => rfl) rfl, mo_putI⟩ (
  And.intro ⟨ok_nop, mo_nop⟩ (
  And.intro ⟨ok_nop, mo_nop⟩ (
  trivial))))))))))))))))
theorem rX3_become_1 : am_allR (fun pc o => am_ok am_tb0 cX3_become RX3 2 none false pc o ∧ am_mo o) 16 (am_nth [] tX3_become 1) :=
  And.intro ⟨ok_aload_n dX3_become_16 rfl rfl, mo_aload⟩ (
  And.intro ⟨ok_getR dX3_become_17 hclX3 inWX3 (by decide) (by decide) wd_202 (fun _ _ _ => rfl) rfl, mo_getR⟩ (
  And.intro ⟨ok_nop, mo_nop⟩ (
  And.intro ⟨ok_nop, mo_nop⟩ (
  And.intro ⟨ok_iconst dX3_become_20 rfl ic_0, mo_push⟩ (
  And.intro ⟨ok_aload_n dX3_become_21 rfl rfl, mo_aload⟩ (
  And.intro ⟨ok_getR dX3_become_22 hclX3 inWX3 (by decide) (by decide) wd_202 (fun _ _ _ => rfl) rfl, mo_getR⟩ (
  And.intro ⟨ok_nop, mo_nop⟩ (
  And.intro ⟨ok_nop, mo_nop⟩ (
  And.intro ⟨ok_iconst dX3_become_25 rfl ic_0, mo_push⟩ (
  And.intro ⟨ok_bipush dX3_become_26 rfl bi_24, mo_push⟩ (
  And.intro ⟨ok_nop, mo_nop⟩ (
  And.intro ⟨ok_acopy dX3_become_28 wd_851 wd_512 wd_511 wd_12 rfl, mo_acopy⟩ (
  And.intro ⟨ok_nop, mo_nop⟩ (
  And.intro ⟨ok_nop, mo_nop⟩ (
  And.intro ⟨ok_ret dX3_become_31 rfl, mo_ret⟩ (
  trivial))))))))))))))))
theorem kX3_become : am_M1 am_tb0 cX3_become RX3 2 none false tX3_become := And.intro rX3_become_0 (And.intro rX3_become_1 (trivial))
def tX3_has : List (List am_Op) := [[o_iload 1 1, o_if (fun x => x < 0) 16 4, am_nop, am_nop, o_iload 1 5, o_aload 0 6, o_getI 3 3 1 9, am_nop, am_nop, o_icmp (fun x y => y ≤ x) 16 12, am_nop, am_nop, o_push (.int 1) 13, o_goto 17, am_nop, am_nop],
  [o_push (.int 0) 17, o_nret .boolean, am_nop, am_nop, am_nop, am_nop, am_nop, am_nop, am_nop, am_nop, am_nop, am_nop, am_nop, am_nop, am_nop, am_nop]]
theorem rX3_has_0 : am_allR (fun pc o => am_ok am_tb0 cX3_has RX3 2 (some .boolean) false pc o ∧ am_mo o) 0 (am_nth [] tX3_has 0) :=
  And.intro ⟨ok_iload_n dX3_has_0 rfl rfl, mo_iload⟩ (
  And.intro ⟨ok_if_lt dX3_has_1 (by decide) rfl, mo_if⟩ (
  And.intro ⟨ok_nop, mo_nop⟩ (
  And.intro ⟨ok_nop, mo_nop⟩ (
  And.intro ⟨ok_iload_n dX3_has_4 rfl rfl, mo_iload⟩ (
  And.intro ⟨ok_aload_n dX3_has_5 rfl rfl, mo_aload⟩ (
  And.intro ⟨ok_getI dX3_has_6 hclX3 inWX3 (by decide) (by decide) wd_200 (fun _ _ _ => rfl) rfl, mo_getI⟩ (
  And.intro ⟨ok_nop, mo_nop⟩ (
  And.intro ⟨ok_nop, mo_nop⟩ (
  And.intro ⟨ok_icmp_ge dX3_has_9 (by decide) rfl, mo_icmp⟩ (
  And.intro ⟨ok_nop, mo_nop⟩ (
  And.intro ⟨ok_nop, mo_nop⟩ (
  And.intro ⟨ok_iconst dX3_has_12 rfl ic_1, mo_push⟩ (
  And.intro ⟨ok_goto dX3_has_13 (by decide), mo_goto⟩ (
  And.intro ⟨ok_nop, mo_nop⟩ (
  And.intro ⟨ok_nop, mo_nop⟩ (
  trivial))))))))))))))))
theorem rX3_has_1 : am_allR (fun pc o => am_ok am_tb0 cX3_has RX3 2 (some .boolean) false pc o ∧ am_mo o) 16 (am_nth [] tX3_has 1) :=
  And.intro ⟨ok_iconst dX3_has_16 rfl ic_0, mo_push⟩ (
  And.intro ⟨ok_nret dX3_has_17 rfl, mo_nret⟩ (
  And.intro ⟨ok_nop, mo_nop⟩ (
  And.intro ⟨ok_nop, mo_nop⟩ (
  And.intro ⟨ok_nop, mo_nop⟩ (
  And.intro ⟨ok_nop, mo_nop⟩ (
  And.intro ⟨ok_nop, mo_nop⟩ (
  And.intro ⟨ok_nop, mo_nop⟩ (
  And.intro ⟨ok_nop, mo_nop⟩ (
  And.intro ⟨ok_nop, mo_nop⟩ (
  And.intro ⟨ok_nop, mo_nop⟩ (
  And.intro ⟨ok_nop, mo_nop⟩ (
  And.intro ⟨ok_nop, mo_nop⟩ (
  And.intro ⟨ok_nop, mo_nop⟩ (
  And.intro ⟨ok_nop, mo_nop⟩ (
  And.intro ⟨ok_nop, mo_nop⟩ (
  trivial))))))))))))))))
theorem kX3_has : am_M1 am_tb0 cX3_has RX3 2 (some .boolean) false tX3_has := And.intro rX3_has_0 (And.intro rX3_has_1 (trivial))
def tX3_hasAll : List (List am_Op) := [[o_iload 1 1, o_if (fun x => x < 0) 30 4, am_nop, am_nop, o_iload 2 5, o_if (fun x => x < 0) 30 8, am_nop, am_nop, o_iload 1 9, o_aload 0 10, o_getI 3 3 1 13, am_nop, am_nop, o_icmp (fun x y => y < x) 30 16, am_nop, am_nop],
  [o_iload 2 17, o_aload 0 18, o_getI 3 3 1 21, am_nop, am_nop, o_iload 1 22, o_bin (fun x y => x - y) 23, o_icmp (fun x y => y < x) 30 26, am_nop, am_nop, o_push (.int 1) 27, o_goto 31, am_nop, am_nop, o_push (.int 0) 31, o_nret .boolean]]
theorem rX3_hasAll_0 : am_allR (fun pc o => am_ok am_tb0 cX3_hasAll RX3 3 (some .boolean) false pc o ∧ am_mo o) 0 (am_nth [] tX3_hasAll 0) :=
  And.intro ⟨ok_iload_n dX3_hasAll_0 rfl rfl, mo_iload⟩ (
  And.intro ⟨ok_if_lt dX3_hasAll_1 (by decide) rfl, mo_if⟩ (
  And.intro ⟨ok_nop, mo_nop⟩ (
  And.intro ⟨ok_nop, mo_nop⟩ (
  And.intro ⟨ok_iload_n dX3_hasAll_4 rfl rfl, mo_iload⟩ (
  And.intro ⟨ok_if_lt dX3_hasAll_5 (by decide) rfl, mo_if⟩ (
  And.intro ⟨ok_nop, mo_nop⟩ (
  And.intro ⟨ok_nop, mo_nop⟩ (
  And.intro ⟨ok_iload_n dX3_hasAll_8 rfl rfl, mo_iload⟩ (
  And.intro ⟨ok_aload_n dX3_hasAll_9 rfl rfl, mo_aload⟩ (
  And.intro ⟨ok_getI dX3_hasAll_10 hclX3 inWX3 (by decide) (by decide) wd_200 (fun _ _ _ => rfl) rfl, mo_getI⟩ (
  And.intro ⟨ok_nop, mo_nop⟩ (
  And.intro ⟨ok_nop, mo_nop⟩ (
  And.intro ⟨ok_icmp_gt dX3_hasAll_13 (by decide) rfl, mo_icmp⟩ (
  And.intro ⟨ok_nop, mo_nop⟩ (
  And.intro ⟨ok_nop, mo_nop⟩ (
  trivial))))))))))))))))
theorem rX3_hasAll_1 : am_allR (fun pc o => am_ok am_tb0 cX3_hasAll RX3 3 (some .boolean) false pc o ∧ am_mo o) 16 (am_nth [] tX3_hasAll 1) :=
  And.intro ⟨ok_iload_n dX3_hasAll_16 rfl rfl, mo_iload⟩ (
  And.intro ⟨ok_aload_n dX3_hasAll_17 rfl rfl, mo_aload⟩ (
  And.intro ⟨ok_getI dX3_hasAll_18 hclX3 inWX3 (by decide) (by decide) wd_200 (fun _ _ _ => rfl) rfl, mo_getI⟩ (
  And.intro ⟨ok_nop, mo_nop⟩ (
  And.intro ⟨ok_nop, mo_nop⟩ (
  And.intro ⟨ok_iload_n dX3_hasAll_21 rfl rfl, mo_iload⟩ (
  And.intro ⟨ok_isub dX3_hasAll_22 rfl, mo_bin⟩ (
  And.intro ⟨ok_icmp_gt dX3_hasAll_23 (by decide) rfl, mo_icmp⟩ (
  And.intro ⟨ok_nop, mo_nop⟩ (
  And.intro ⟨ok_nop, mo_nop⟩ (
  And.intro ⟨ok_iconst dX3_hasAll_26 rfl ic_1, mo_push⟩ (
  And.intro ⟨ok_goto dX3_hasAll_27 (by decide), mo_goto⟩ (
  And.intro ⟨ok_nop, mo_nop⟩ (
  And.intro ⟨ok_nop, mo_nop⟩ (
  And.intro ⟨ok_iconst dX3_hasAll_30 rfl ic_0, mo_push⟩ (
  And.intro ⟨ok_nret dX3_hasAll_31 rfl, mo_nret⟩ (
  trivial))))))))))))))))
theorem kX3_hasAll : am_M1 am_tb0 cX3_hasAll RX3 3 (some .boolean) false tX3_hasAll := And.intro rX3_hasAll_0 (And.intro rX3_hasAll_1 (trivial))
def tX3_isNumber : List (List am_Op) := [[o_aload 0 1, o_iload 1 2, o_cv 3 3 36 2 0 1 5, am_nop, am_nop, o_if (fun x => x = 0) 23 8, am_nop, am_nop, o_aload 0 9, o_getR 3 3 2 12, am_nop, am_nop, o_iload 1 13, o_iald 20 14, o_push (.int (-1000000005)) 16, am_nop],
  [o_icmp (fun x y => x = y) 23 19, am_nop, am_nop, o_push (.int 1) 20, o_goto 24, am_nop, am_nop, o_push (.int 0) 24, o_nret .boolean, am_nop, am_nop, am_nop, am_nop, am_nop, am_nop, am_nop]]
theorem rX3_isNumber_0 : am_allR (fun pc o => am_ok am_tb0 cX3_isNumber RX3 2 (some .boolean) false pc o ∧ am_mo o) 0 (am_nth [] tX3_isNumber 0) :=
  And.intro ⟨ok_aload_n dX3_isNumber_0 rfl rfl, mo_aload⟩ (
  And.intro ⟨ok_iload_n dX3_isNumber_1 rfl rfl, mo_iload⟩ (
  And.intro ⟨ok_cv (z := 36) dX3_isNumber_2 hclX3 (by decide) wd_557 wd_558 wd_559 wd_6 wd_560 rfl (by decide) ⟨rfl, hy_X3_has⟩ rfl, mo_cv⟩ (
  And.intro ⟨ok_nop, mo_nop⟩ (
  And.intro ⟨ok_nop, mo_nop⟩ (
  And.intro ⟨ok_if_eq dX3_isNumber_5 (by decide) rfl, mo_if⟩ (
  And.intro ⟨ok_nop, mo_nop⟩ (
  And.intro ⟨ok_nop, mo_nop⟩ (
  And.intro ⟨ok_aload_n dX3_isNumber_8 rfl rfl, mo_aload⟩ (
  And.intro ⟨ok_getR dX3_isNumber_9 hclX3 inWX3 (by decide) (by decide) wd_202 (fun _ _ _ => rfl) rfl, mo_getR⟩ (
  And.intro ⟨ok_nop, mo_nop⟩ (
  And.intro ⟨ok_nop, mo_nop⟩ (
  And.intro ⟨ok_iload_n dX3_isNumber_12 rfl rfl, mo_iload⟩ (
  And.intro ⟨ok_iald dX3_isNumber_13 rfl, mo_iald⟩ (
  And.intro ⟨ok_ldc dX3_isNumber_14 rfl wd_561, mo_push⟩ (
  And.intro ⟨ok_nop, mo_nop⟩ (
  trivial))))))))))))))))
theorem rX3_isNumber_1 : am_allR (fun pc o => am_ok am_tb0 cX3_isNumber RX3 2 (some .boolean) false pc o ∧ am_mo o) 16 (am_nth [] tX3_isNumber 1) :=
  And.intro ⟨ok_icmp_eq dX3_isNumber_16 (by decide) rfl, mo_icmp⟩ (
  And.intro ⟨ok_nop, mo_nop⟩ (
  And.intro ⟨ok_nop, mo_nop⟩ (
  And.intro ⟨ok_iconst dX3_isNumber_19 rfl ic_1, mo_push⟩ (
  And.intro ⟨ok_goto dX3_isNumber_20 (by decide), mo_goto⟩ (
  And.intro ⟨ok_nop, mo_nop⟩ (
  And.intro ⟨ok_nop, mo_nop⟩ (
  And.intro ⟨ok_iconst dX3_isNumber_23 rfl ic_0, mo_push⟩ (
  And.intro ⟨ok_nret dX3_isNumber_24 rfl, mo_nret⟩ (
  And.intro ⟨ok_nop, mo_nop⟩ (
  And.intro ⟨ok_nop, mo_nop⟩ (
  And.intro ⟨ok_nop, mo_nop⟩ (
  And.intro ⟨ok_nop, mo_nop⟩ (
  And.intro ⟨ok_nop, mo_nop⟩ (
  And.intro ⟨ok_nop, mo_nop⟩ (
  And.intro ⟨ok_nop, mo_nop⟩ (
  trivial))))))))))))))))
theorem kX3_isNumber : am_M1 am_tb0 cX3_isNumber RX3 2 (some .boolean) false tX3_isNumber := And.intro rX3_isNumber_0 (And.intro rX3_isNumber_1 (trivial))
def tX4_init : List (List am_Op) := [[o_aload 0 1, o_oinit 4, am_nop, am_nop, o_aload 0 5, o_push (.int 0) 6, o_putI 4 4 0 9, am_nop, am_nop, o_aload 0 10, o_push (.int 0) 11, o_putI 4 4 1 14, am_nop, am_nop, o_aload 0 15, o_new 1 5 18],
  [am_nop, am_nop, o_dup 19, o_cv 1 5 6 1 0 0 22, am_nop, am_nop, o_putR 4 4 2 25, am_nop, am_nop, o_aload 0 26, o_new 3 3 29, am_nop, am_nop, o_dup 30, o_cv 3 3 33 1 0 0 33, am_nop],
  [am_nop, o_putR 4 4 3 36, am_nop, am_nop, o_ret, am_nop, am_nop, am_nop, am_nop, am_nop, am_nop, am_nop, am_nop, am_nop, am_nop, am_nop]]
theorem rX4_init_0 : am_allR (fun pc o => am_ok am_tb0 cX4_init RX4 1 none true pc o ∧ am_mo o) 0 (am_nth [] tX4_init 0) :=
  And.intro ⟨ok_aload_n dX4_init_0 rfl rfl, mo_aload⟩ (
  And.intro ⟨ok_oinit dX4_init_1 wd_215 wd_24 wd_25 rfl, mo_oinit⟩ (
  And.intro ⟨ok_nop, mo_nop⟩ (
  And.intro ⟨ok_nop, mo_nop⟩ (
  And.intro ⟨ok_aload_n dX4_init_4 rfl rfl, mo_aload⟩ (
  And.intro ⟨ok_iconst dX4_init_5 rfl ic_0, mo_push⟩ (
  And.intro ⟨ok_putI dX4_init_6 hclX4 inWX4 tyX4_ok nmX4 (by decide) (by decide) wd_220 rfl (tyX4_ok 0 (by decide)) (fun _ _ _ => rfl) rfl, mo_putI⟩ (
  And.intro ⟨ok_nop, mo_nop⟩ (
  And.intro ⟨ok_nop, mo_nop⟩ (
  And.intro ⟨ok_aload_n dX4_init_9 rfl rfl, mo_aload⟩ (
  And.intro ⟨ok_iconst dX4_init_10 rfl ic_0, mo_push⟩ (
  And.intro ⟨ok_putI dX4_init_11 hclX4 inWX4 tyX4_ok nmX4 (by decide) (by decide) wd_222 rfl (tyX4_ok 1 (by decide)) (fun _ _ _ => rfl) rfl, mo_putI⟩ (
  And.intro ⟨ok_nop, mo_nop⟩ (
  And.intro ⟨ok_nop, mo_nop⟩ (
  And.intro ⟨ok_aload_n dX4_init_14 rfl rfl, mo_aload⟩ (
  And.intro ⟨ok_new dX4_init_15 hclX1 inWX1 tyX1_ok (by decide) hdfX1 wd_216 wd_36 wd_3 rfl, mo_new⟩ (
  trivial))))))))))))))))
theorem rX4_init_1 : am_allR (fun pc o => am_ok am_tb0 cX4_init RX4 1 none true pc o ∧ am_mo o) 16 (am_nth [] tX4_init 1) :=
  And.intro ⟨ok_nop, mo_nop⟩ (
  And.intro ⟨ok_nop, mo_nop⟩ (
  And.intro ⟨ok_dup dX4_init_18 rfl, mo_dup⟩ (
  And.intro ⟨ok_ciN (z := 6) dX4_init_19 (by decide) wn_217 wd_38 wd_3 wd_39 rfl (by decide) rfl rfl hy_X1_init rfl, mo_cv⟩ (
  And.intro ⟨ok_nop, mo_nop⟩ (
  And.intro ⟨ok_nop, mo_nop⟩ (
  And.intro ⟨ok_putRF dX4_init_22 hclX4 inWX4 tyX4_ok nmX4 (by decide) (by decide) wd_224 rfl rfl rfl (tyX4_ok 2 (by decide)) (Or.inl ⟨_, rfl⟩) (fun _ _ _ => rfl) rfl, mo_putR⟩ (
  And.intro ⟨ok_nop, mo_nop⟩ (
  And.intro ⟨ok_nop, mo_nop⟩ (
  And.intro ⟨ok_aload_n dX4_init_25 rfl rfl, mo_aload⟩ (
  And.intro ⟨ok_new dX4_init_26 hclX3 inWX3 tyX3_ok (by decide) hdfX3 wd_218 wd_193 wd_6 rfl, mo_new⟩ (
  And.intro ⟨ok_nop, mo_nop⟩ (
  And.intro ⟨ok_nop, mo_nop⟩ (
  And.intro ⟨ok_dup dX4_init_29 rfl, mo_dup⟩ (
  And.intro ⟨ok_ciN (z := 33) dX4_init_30 (by decide) wn_219 wd_195 wd_6 wd_196 rfl (by decide) rfl rfl hy_X3_init rfl, mo_cv⟩ (
  And.intro ⟨ok_nop, mo_nop⟩ (
  trivial))))))))))))))))
theorem rX4_init_2 : am_allR (fun pc o => am_ok am_tb0 cX4_init RX4 1 none true pc o ∧ am_mo o) 32 (am_nth [] tX4_init 2) :=
  And.intro ⟨ok_nop, mo_nop⟩ (
  And.intro ⟨ok_putRF dX4_init_33 hclX4 inWX4 tyX4_ok nmX4 (by decide) (by decide) wd_226 rfl rfl rfl (tyX4_ok 3 (by decide)) (Or.inl ⟨_, rfl⟩) (fun _ _ _ => rfl) rfl, mo_putR⟩ (
  And.intro ⟨ok_nop, mo_nop⟩ (
  And.intro ⟨ok_nop, mo_nop⟩ (
  And.intro ⟨ok_ret dX4_init_36 rfl, mo_ret⟩ (
  And.intro ⟨ok_nop, mo_nop⟩ (
  And.intro ⟨ok_nop, mo_nop⟩ (
  And.intro ⟨ok_nop, mo_nop⟩ (
  And.intro ⟨ok_nop, mo_nop⟩ (
  And.intro ⟨ok_nop, mo_nop⟩ (
  And.intro ⟨ok_nop, mo_nop⟩ (
  And.intro ⟨ok_nop, mo_nop⟩ (
  And.intro ⟨ok_nop, mo_nop⟩ (
  And.intro ⟨ok_nop, mo_nop⟩ (
  And.intro ⟨ok_nop, mo_nop⟩ (
  And.intro ⟨ok_nop, mo_nop⟩ (
  trivial))))))))))))))))
theorem kX4_init : am_M1 am_tb0 cX4_init RX4 1 none true tX4_init := And.intro rX4_init_0 (And.intro rX4_init_1 (And.intro rX4_init_2 (trivial)))
def tJ0_length_8abf5 : List (List am_Op) := [[o_aload 0 1, o_strV 4, am_nop, am_nop, o_alen 52 5, o_aload 0 6, o_cv 40 0 209 1 0 0 9, am_nop, am_nop, o_bin (fun x y => x >>> (y &&& 31)) 10, o_iret]]
theorem rJ0_length_8abf5_0 : am_allR (fun pc o => am_ok am_tb0 cJ0_length_8abf5 RJ0 1 (some .int) false pc o ∧ am_mo o) 0 (am_nth [] tJ0_length_8abf5 0) :=
  And.intro ⟨ok_aload_n dJ0_length_8abf5_0 rfl rfl, mo_aload⟩ (
  And.intro ⟨ok_strV dJ0_length_8abf5_1 wd_1375 rfl, mo_strV⟩ (
  And.intro ⟨ok_nop, mo_nop⟩ (
  And.intro ⟨ok_nop, mo_nop⟩ (
  And.intro ⟨ok_alenFB dJ0_length_8abf5_4 rfl, mo_alen⟩ (
  And.intro ⟨ok_aload_n dJ0_length_8abf5_5 rfl rfl, mo_aload⟩ (
  And.intro ⟨ok_cvS (z := 209) dJ0_length_8abf5_6 wd_611 wd_612 wd_613 wd_13 wd_614 rfl (by decide) ⟨rfl, hy_J0_coder_7d493⟩ rfl, mo_cv⟩ (
  And.intro ⟨ok_nop, mo_nop⟩ (
  And.intro ⟨ok_nop, mo_nop⟩ (
  And.intro ⟨ok_ishr dJ0_length_8abf5_9 rfl, mo_bin⟩ (
  And.intro ⟨ok_iret dJ0_length_8abf5_10 rfl, mo_iret⟩ (
  trivial)))))))))))
theorem kJ0_length_8abf5 : am_M1 am_tb0 cJ0_length_8abf5 RJ0 1 (some .int) false tJ0_length_8abf5 := And.intro rJ0_length_8abf5_0 (trivial)
def tJ0_charAt_5068e : List (List am_Op) := [[o_aload 0 1, o_cv 40 0 210 1 0 0 4, am_nop, am_nop, o_if (fun x => x = 0) 16 7, am_nop, am_nop, o_aload 0 8, o_strV 11, am_nop, am_nop, o_iload 1 12, o_cs 212 2 2 2 15, am_nop, am_nop, o_nret .char],
  [o_aload 0 17, o_strV 20, am_nop, am_nop, o_iload 1 21, am_nop, am_nop, am_nop, am_nop, am_nop, am_nop, am_nop, am_nop, am_nop, am_nop, am_nop]]
theorem rJ0_charAt_5068e_0 : am_allR (fun pc o => am_ok am_tb0 cJ0_charAt_5068e RJ0 2 (some .char) false pc o ∧ am_mo o) 0 (am_nth [] tJ0_charAt_5068e 0) :=
  And.intro ⟨ok_aload_n dJ0_charAt_5068e_0 rfl rfl, mo_aload⟩ (
  And.intro ⟨ok_cvS (z := 210) dJ0_charAt_5068e_1 wd_621 wd_622 wd_623 wd_13 wd_624 rfl (by decide) ⟨rfl, hy_J0_isLatin1_aae02⟩ rfl, mo_cv⟩ (
  And.intro ⟨ok_nop, mo_nop⟩ (
  And.intro ⟨ok_nop, mo_nop⟩ (
  And.intro ⟨ok_if_eq dJ0_charAt_5068e_4 (by decide) rfl, mo_if⟩ (
  And.intro ⟨ok_nop, mo_nop⟩ (
  And.intro ⟨ok_nop, mo_nop⟩ (
  And.intro ⟨ok_aload_n dJ0_charAt_5068e_7 rfl rfl, mo_aload⟩ (
  And.intro ⟨ok_strV dJ0_charAt_5068e_8 wd_1375 rfl, mo_strV⟩ (
  And.intro ⟨ok_nop, mo_nop⟩ (
  And.intro ⟨ok_nop, mo_nop⟩ (
  And.intro ⟨ok_iload_n dJ0_charAt_5068e_11 rfl rfl, mo_iload⟩ (
  And.intro ⟨ok_cs (z := 212) dJ0_charAt_5068e_12 wd_625 wd_626 wd_14 wd_627 rfl (by decide) hy_J1_charAt_3b067 rfl, mo_cs⟩ (
  And.intro ⟨ok_nop, mo_nop⟩ (
  And.intro ⟨ok_nop, mo_nop⟩ (
  And.intro ⟨ok_nret dJ0_charAt_5068e_15 rfl, mo_nret⟩ (
  trivial))))))))))))))))
theorem rJ0_charAt_5068e_1 : am_allR (fun pc o => am_ok am_tb0 cJ0_charAt_5068e RJ0 2 (some .char) false pc o ∧ am_mo o) 16 (am_nth [] tJ0_charAt_5068e 1) :=
  And.intro ⟨ok_aload_n dJ0_charAt_5068e_16 rfl rfl, mo_aload⟩ (
  And.intro ⟨ok_strV dJ0_charAt_5068e_17 wd_1375 rfl, mo_strV⟩ (
  And.intro ⟨ok_nop, mo_nop⟩ (
  And.intro ⟨ok_nop, mo_nop⟩ (
  And.intro ⟨ok_iload_n dJ0_charAt_5068e_20 rfl rfl, mo_iload⟩ (
  And.intro ⟨ok_nop, mo_nop⟩ (
  And.intro ⟨ok_nop, mo_nop⟩ (
  And.intro ⟨ok_nop, mo_nop⟩ (
  And.intro ⟨ok_nop, mo_nop⟩ (
  And.intro ⟨ok_nop, mo_nop⟩ (
  And.intro ⟨ok_nop, mo_nop⟩ (
  And.intro ⟨ok_nop, mo_nop⟩ (
  And.intro ⟨ok_nop, mo_nop⟩ (
  And.intro ⟨ok_nop, mo_nop⟩ (
  And.intro ⟨ok_nop, mo_nop⟩ (
  And.intro ⟨ok_nop, mo_nop⟩ (
  trivial))))))))))))))))
theorem kJ0_charAt_5068e : am_M1 am_tb0 cJ0_charAt_5068e RJ0 2 (some .char) false tJ0_charAt_5068e := And.intro rJ0_charAt_5068e_0 (And.intro rJ0_charAt_5068e_1 (trivial))
def tJ0_indexOf_0f7a4 : List (List am_Op) := [[o_aload 0 1, o_iload 1 2, o_push (.int 0) 3, o_cv 40 0 208 3 2 2 6, am_nop, am_nop, o_iret]]
theorem rJ0_indexOf_0f7a4_0 : am_allR (fun pc o => am_ok am_tb0 cJ0_indexOf_0f7a4 RJ0 2 (some .int) false pc o ∧ am_mo o) 0 (am_nth [] tJ0_indexOf_0f7a4 0) :=
  And.intro ⟨ok_aload_n dJ0_indexOf_0f7a4_0 rfl rfl, mo_aload⟩ (
  And.intro ⟨ok_iload_n dJ0_indexOf_0f7a4_1 rfl rfl, mo_iload⟩ (
  And.intro ⟨ok_iconst dJ0_indexOf_0f7a4_2 rfl ic_0, mo_push⟩ (
  And.intro ⟨ok_cvS (z := 208) dJ0_indexOf_0f7a4_3 wd_691 wd_692 wd_693 wd_13 wd_694 rfl (by decide) ⟨rfl, hy_J0_indexOf_7cf53⟩ rfl, mo_cv⟩ (
  And.intro ⟨ok_nop, mo_nop⟩ (
  And.intro ⟨ok_nop, mo_nop⟩ (
  And.intro ⟨ok_iret dJ0_indexOf_0f7a4_6 rfl, mo_iret⟩ (
  trivial)))))))
theorem kJ0_indexOf_0f7a4 : am_M1 am_tb0 cJ0_indexOf_0f7a4 RJ0 2 (some .int) false tJ0_indexOf_0f7a4 := And.intro rJ0_indexOf_0f7a4_0 (trivial)
def tJ0_indexOf_7cf53 : List (List am_Op) := [[o_aload 0 1, o_cv 40 0 210 1 0 0 4, am_nop, am_nop, o_if (fun x => x = 0) 23 7, am_nop, am_nop, o_aload 0 8, o_strV 11, am_nop, am_nop, o_iload 1 12, o_iload 2 13, o_aload 0 14, o_cv 40 0 205 1 1 0 17, am_nop],
  [am_nop, o_cs 214 4 1 4 20, am_nop, am_nop, o_goto 36, am_nop, am_nop, o_aload 0 24, o_strV 27, am_nop, am_nop, o_iload 1 28, o_iload 2 29, o_aload 0 30, o_cv 40 0 205 1 1 0 33, am_nop],
  [am_nop, am_nop, am_nop, am_nop, o_iret, am_nop, am_nop, am_nop, am_nop, am_nop, am_nop, am_nop, am_nop, am_nop, am_nop, am_nop]]
theorem rJ0_indexOf_7cf53_0 : am_allR (fun pc o => am_ok am_tb0 cJ0_indexOf_7cf53 RJ0 3 (some .int) false pc o ∧ am_mo o) 0 (am_nth [] tJ0_indexOf_7cf53 0) :=
  And.intro ⟨ok_aload_n dJ0_indexOf_7cf53_0 rfl rfl, mo_aload⟩ (
  And.intro ⟨ok_cvS (z := 210) dJ0_indexOf_7cf53_1 wd_621 wd_622 wd_623 wd_13 wd_624 rfl (by decide) ⟨rfl, hy_J0_isLatin1_aae02⟩ rfl, mo_cv⟩ (
  And.intro ⟨ok_nop, mo_nop⟩ (
  And.intro ⟨ok_nop, mo_nop⟩ (
  And.intro ⟨ok_if_eq dJ0_indexOf_7cf53_4 (by decide) rfl, mo_if⟩ (
  And.intro ⟨ok_nop, mo_nop⟩ (
  And.intro ⟨ok_nop, mo_nop⟩ (
  And.intro ⟨ok_aload_n dJ0_indexOf_7cf53_7 rfl rfl, mo_aload⟩ (
  And.intro ⟨ok_strV dJ0_indexOf_7cf53_8 wd_1375 rfl, mo_strV⟩ (
  And.intro ⟨ok_nop, mo_nop⟩ (
  And.intro ⟨ok_nop, mo_nop⟩ (
  And.intro ⟨ok_iload_n dJ0_indexOf_7cf53_11 rfl rfl, mo_iload⟩ (
  And.intro ⟨ok_iload_n dJ0_indexOf_7cf53_12 rfl rfl, mo_iload⟩ (
  And.intro ⟨ok_aload_n dJ0_indexOf_7cf53_13 rfl rfl, mo_aload⟩ (
  And.intro ⟨ok_cvS (z := 205) dJ0_indexOf_7cf53_14 wd_695 wd_608 wd_609 wd_13 wd_610 rfl (by decide) ⟨rfl, hy_J0_length_8abf5⟩ rfl, mo_cv⟩ (
  And.intro ⟨ok_nop, mo_nop⟩ (
  trivial))))))))))))))))
theorem rJ0_indexOf_7cf53_1 : am_allR (fun pc o => am_ok am_tb0 cJ0_indexOf_7cf53 RJ0 3 (some .int) false pc o ∧ am_mo o) 16 (am_nth [] tJ0_indexOf_7cf53 1) :=
  And.intro ⟨ok_nop, mo_nop⟩ (
  And.intro ⟨ok_cs (z := 214) dJ0_indexOf_7cf53_17 wd_696 wd_697 wd_14 wd_698 rfl (by decide) hy_J1_indexOf_4cfef rfl, mo_cs⟩ (
  And.intro ⟨ok_nop, mo_nop⟩ (
  And.intro ⟨ok_nop, mo_nop⟩ (
  And.intro ⟨ok_goto dJ0_indexOf_7cf53_20 (by decide), mo_goto⟩ (
  And.intro ⟨ok_nop, mo_nop⟩ (
  And.intro ⟨ok_nop, mo_nop⟩ (
  And.intro ⟨ok_aload_n dJ0_indexOf_7cf53_23 rfl rfl, mo_aload⟩ (
  And.intro ⟨ok_strV dJ0_indexOf_7cf53_24 wd_1375 rfl, mo_strV⟩ (
  And.intro ⟨ok_nop, mo_nop⟩ (
  And.intro ⟨ok_nop, mo_nop⟩ (
  And.intro ⟨ok_iload_n dJ0_indexOf_7cf53_27 rfl rfl, mo_iload⟩ (
  And.intro ⟨ok_iload_n dJ0_indexOf_7cf53_28 rfl rfl, mo_iload⟩ (
  And.intro ⟨ok_aload_n dJ0_indexOf_7cf53_29 rfl rfl, mo_aload⟩ (
  And.intro ⟨ok_cvS (z := 205) dJ0_indexOf_7cf53_30 wd_695 wd_608 wd_609 wd_13 wd_610 rfl (by decide) ⟨rfl, hy_J0_length_8abf5⟩ rfl, mo_cv⟩ (
  And.intro ⟨ok_nop, mo_nop⟩ (
  trivial))))))))))))))))
theorem rJ0_indexOf_7cf53_2 : am_allR (fun pc o => am_ok am_tb0 cJ0_indexOf_7cf53 RJ0 3 (some .int) false pc o ∧ am_mo o) 32 (am_nth [] tJ0_indexOf_7cf53 2) :=
  And.intro ⟨ok_nop, mo_nop⟩ (
  And.intro ⟨ok_nop, mo_nop⟩ (
  And.intro ⟨ok_nop, mo_nop⟩ (
  And.intro ⟨ok_nop, mo_nop⟩ (
  And.intro ⟨ok_iret dJ0_indexOf_7cf53_36 rfl, mo_iret⟩ (
  And.intro ⟨ok_nop, mo_nop⟩ (
  And.intro ⟨ok_nop, mo_nop⟩ (
  And.intro ⟨ok_nop, mo_nop⟩ (
  And.intro ⟨ok_nop, mo_nop⟩ (
  And.intro ⟨ok_nop, mo_nop⟩ (
  And.intro ⟨ok_nop, mo_nop⟩ (
  And.intro ⟨ok_nop, mo_nop⟩ (
  And.intro ⟨ok_nop, mo_nop⟩ (
  And.intro ⟨ok_nop, mo_nop⟩ (
  And.intro ⟨ok_nop, mo_nop⟩ (
  And.intro ⟨ok_nop, mo_nop⟩ (
  trivial))))))))))))))))
theorem kJ0_indexOf_7cf53 : am_M1 am_tb0 cJ0_indexOf_7cf53 RJ0 3 (some .int) false tJ0_indexOf_7cf53 := And.intro rJ0_indexOf_7cf53_0 (And.intro rJ0_indexOf_7cf53_1 (And.intro rJ0_indexOf_7cf53_2 (trivial)))
def tJ0_coder_7d493 : List (List am_Op) := [[o_push (.int 1) 3, am_nop, am_nop, o_if (fun x => x = 0) 13 6, am_nop, am_nop, o_aload 0 7, o_strC 10, am_nop, am_nop, o_goto 14, am_nop, am_nop, o_push (.int 1) 14, o_nret .byte]]
theorem rJ0_coder_7d493_0 : am_allR (fun pc o => am_ok am_tb0 cJ0_coder_7d493 RJ0 1 (some .byte) false pc o ∧ am_mo o) 0 (am_nth [] tJ0_coder_7d493 0) :=
  And.intro ⟨ok_compact dJ0_coder_7d493_0 wd_615 rfl, mo_push⟩ (
  And.intro ⟨ok_nop, mo_nop⟩ (
  And.intro ⟨ok_nop, mo_nop⟩ (
  And.intro ⟨ok_if_eq dJ0_coder_7d493_3 (by decide) rfl, mo_if⟩ (
  And.intro ⟨ok_nop, mo_nop⟩ (
  And.intro ⟨ok_nop, mo_nop⟩ (
  And.intro ⟨ok_aload_n dJ0_coder_7d493_6 rfl rfl, mo_aload⟩ (
  And.intro ⟨ok_strC dJ0_coder_7d493_7 wd_1376 rfl, mo_strC⟩ (
  And.intro ⟨ok_nop, mo_nop⟩ (
  And.intro ⟨ok_nop, mo_nop⟩ (
  And.intro ⟨ok_goto dJ0_coder_7d493_10 (by decide), mo_goto⟩ (
  And.intro ⟨ok_nop, mo_nop⟩ (
  And.intro ⟨ok_nop, mo_nop⟩ (
  And.intro ⟨ok_iconst dJ0_coder_7d493_13 rfl ic_1, mo_push⟩ (
  And.intro ⟨ok_nret dJ0_coder_7d493_14 rfl, mo_nret⟩ (
  trivial)))))))))))))))
theorem kJ0_coder_7d493 : am_M1 am_tb0 cJ0_coder_7d493 RJ0 1 (some .byte) false tJ0_coder_7d493 := And.intro rJ0_coder_7d493_0 (trivial)
def tJ0_isLatin1_aae02 : List (List am_Op) := [[o_push (.int 1) 3, am_nop, am_nop, o_if (fun x => x = 0) 17 6, am_nop, am_nop, o_aload 0 7, o_strC 10, am_nop, am_nop, o_if (fun x => ¬ x = 0) 17 13, am_nop, am_nop, o_push (.int 1) 14, o_goto 18, am_nop],
  [am_nop, o_push (.int 0) 18, o_nret .boolean, am_nop, am_nop, am_nop, am_nop, am_nop, am_nop, am_nop, am_nop, am_nop, am_nop, am_nop, am_nop, am_nop]]
theorem rJ0_isLatin1_aae02_0 : am_allR (fun pc o => am_ok am_tb0 cJ0_isLatin1_aae02 RJ0 1 (some .boolean) false pc o ∧ am_mo o) 0 (am_nth [] tJ0_isLatin1_aae02 0) :=
  And.intro ⟨ok_compact dJ0_isLatin1_aae02_0 wd_615 rfl, mo_push⟩ (
  And.intro ⟨ok_nop, mo_nop⟩ (
  And.intro ⟨ok_nop, mo_nop⟩ (
  And.intro ⟨ok_if_eq dJ0_isLatin1_aae02_3 (by decide) rfl, mo_if⟩ (
  And.intro ⟨ok_nop, mo_nop⟩ (
  And.intro ⟨ok_nop, mo_nop⟩ (
  And.intro ⟨ok_aload_n dJ0_isLatin1_aae02_6 rfl rfl, mo_aload⟩ (
  And.intro ⟨ok_strC dJ0_isLatin1_aae02_7 wd_1376 rfl, mo_strC⟩ (
  And.intro ⟨ok_nop, mo_nop⟩ (
  And.intro ⟨ok_nop, mo_nop⟩ (
  And.intro ⟨ok_if_ne dJ0_isLatin1_aae02_10 (by decide) rfl, mo_if⟩ (
  And.intro ⟨ok_nop, mo_nop⟩ (
  And.intro ⟨ok_nop, mo_nop⟩ (
  And.intro ⟨ok_iconst dJ0_isLatin1_aae02_13 rfl ic_1, mo_push⟩ (
  And.intro ⟨ok_goto dJ0_isLatin1_aae02_14 (by decide), mo_goto⟩ (
  And.intro ⟨ok_nop, mo_nop⟩ (
  trivial))))))))))))))))
theorem rJ0_isLatin1_aae02_1 : am_allR (fun pc o => am_ok am_tb0 cJ0_isLatin1_aae02 RJ0 1 (some .boolean) false pc o ∧ am_mo o) 16 (am_nth [] tJ0_isLatin1_aae02 1) :=
  And.intro ⟨ok_nop, mo_nop⟩ (
  And.intro ⟨ok_iconst dJ0_isLatin1_aae02_17 rfl ic_0, mo_push⟩ (
  And.intro ⟨ok_nret dJ0_isLatin1_aae02_18 rfl, mo_nret⟩ (
  And.intro ⟨ok_nop, mo_nop⟩ (
  And.intro ⟨ok_nop, mo_nop⟩ (
  And.intro ⟨ok_nop, mo_nop⟩ (
  And.intro ⟨ok_nop, mo_nop⟩ (
  And.intro ⟨ok_nop, mo_nop⟩ (
  And.intro ⟨ok_nop, mo_nop⟩ (
  And.intro ⟨ok_nop, mo_nop⟩ (
  And.intro ⟨ok_nop, mo_nop⟩ (
  And.intro ⟨ok_nop, mo_nop⟩ (
  And.intro ⟨ok_nop, mo_nop⟩ (
  And.intro ⟨ok_nop, mo_nop⟩ (
  And.intro ⟨ok_nop, mo_nop⟩ (
  And.intro ⟨ok_nop, mo_nop⟩ (
  trivial))))))))))))))))
theorem kJ0_isLatin1_aae02 : am_M1 am_tb0 cJ0_isLatin1_aae02 RJ0 1 (some .boolean) false tJ0_isLatin1_aae02 := And.intro rJ0_isLatin1_aae02_0 (And.intro rJ0_isLatin1_aae02_1 (trivial))
def tJ0_checkIndex_df160 : List (List am_Op) := [[o_iload 0 1, o_iload 1 2, o_push (.retAddr 0) 5, am_nop, am_nop, o_cs 219 3 0 3 8, am_nop, am_nop, o_pop 9, o_ret]]
theorem rJ0_checkIndex_df160_0 : am_allR (fun pc o => am_ok am_tb0 cJ0_checkIndex_df160 RJ0 2 none false pc o ∧ am_mo o) 0 (am_nth [] tJ0_checkIndex_df160 0) :=
  And.intro ⟨ok_iload_n dJ0_checkIndex_df160_0 rfl rfl, mo_iload⟩ (
  And.intro ⟨ok_iload_n dJ0_checkIndex_df160_1 rfl rfl, mo_iload⟩ (
  And.intro ⟨ok_sioobe dJ0_checkIndex_df160_2 wd_631 rfl, mo_push⟩ (
  And.intro ⟨ok_nop, mo_nop⟩ (
  And.intro ⟨ok_nop, mo_nop⟩ (
  And.intro ⟨ok_cs (z := 219) dJ0_checkIndex_df160_5 wd_633 wd_634 wd_15 wd_635 rfl (by decide) hy_J3_checkIndex_8e157 rfl, mo_cs⟩ (
  And.intro ⟨ok_nop, mo_nop⟩ (
  And.intro ⟨ok_nop, mo_nop⟩ (
  And.intro ⟨ok_pop dJ0_checkIndex_df160_8 rfl, mo_pop⟩ (
  And.intro ⟨ok_ret dJ0_checkIndex_df160_9 rfl, mo_ret⟩ (
  trivial))))))))))
theorem kJ0_checkIndex_df160 : am_M1 am_tb0 cJ0_checkIndex_df160 RJ0 2 none false tJ0_checkIndex_df160 := And.intro rJ0_checkIndex_df160_0 (trivial)
def tJ1_charAt_3b067 : List (List am_Op) := [[o_iload 1 1, o_aload 0 2, o_alen 52 3, o_cs 211 2 1 2 6, am_nop, am_nop, o_aload 0 7, o_iload 1 8, o_iald 52 9, o_push (.int 255) 12, am_nop, am_nop, o_bin (fun x y => x &&& y) 13, o_un (fun x => (x.toUInt32 % 65536).toInt32) 14, o_nret .char]]
theorem rJ1_charAt_3b067_0 : am_allR (fun pc o => am_ok am_tb0 cJ1_charAt_3b067 RJ1 2 (some .char) false pc o ∧ am_mo o) 0 (am_nth [] tJ1_charAt_3b067 0) :=
  And.intro ⟨ok_iload_n dJ1_charAt_3b067_0 rfl rfl, mo_iload⟩ (
  And.intro ⟨ok_aload_n dJ1_charAt_3b067_1 rfl rfl, mo_aload⟩ (
  And.intro ⟨ok_alenFB dJ1_charAt_3b067_2 rfl, mo_alen⟩ (
  And.intro ⟨ok_cs (z := 211) dJ1_charAt_3b067_3 wd_628 wd_629 wd_13 wd_630 rfl (by decide) hy_J0_checkIndex_df160 rfl, mo_cs⟩ (
  And.intro ⟨ok_nop, mo_nop⟩ (
  And.intro ⟨ok_nop, mo_nop⟩ (
  And.intro ⟨ok_aload_n dJ1_charAt_3b067_6 rfl rfl, mo_aload⟩ (
  And.intro ⟨ok_iload_n dJ1_charAt_3b067_7 rfl rfl, mo_iload⟩ (
  And.intro ⟨ok_baldF dJ1_charAt_3b067_8 rfl, mo_iald⟩ (
  And.intro ⟨ok_sipush dJ1_charAt_3b067_9 rfl si_255, mo_push⟩ (
  And.intro ⟨ok_nop, mo_nop⟩ (
  And.intro ⟨ok_nop, mo_nop⟩ (
  And.intro ⟨ok_iand dJ1_charAt_3b067_12 rfl, mo_bin⟩ (
  And.intro ⟨ok_i2c dJ1_charAt_3b067_13 rfl, mo_un⟩ (
  And.intro ⟨ok_nret dJ1_charAt_3b067_14 rfl, mo_nret⟩ (
  trivial)))))))))))))))
theorem kJ1_charAt_3b067 : am_M1 am_tb0 cJ1_charAt_3b067 RJ1 2 (some .char) false tJ1_charAt_3b067 := And.intro rJ1_charAt_3b067_0 (trivial)
def tJ1_canEncode_9a6ad : List (List am_Op) := [[o_iload 0 1, o_if (fun x => x < 0) 15 4, am_nop, am_nop, o_iload 0 5, o_push (.int 255) 8, am_nop, am_nop, o_icmp (fun x y => y < x) 15 11, am_nop, am_nop, o_push (.int 1) 12, o_goto 16, am_nop, am_nop, o_push (.int 0) 16],
  [o_nret .boolean, am_nop, am_nop, am_nop, am_nop, am_nop, am_nop, am_nop, am_nop, am_nop, am_nop, am_nop, am_nop, am_nop, am_nop, am_nop]]
theorem rJ1_canEncode_9a6ad_0 : am_allR (fun pc o => am_ok am_tb0 cJ1_canEncode_9a6ad RJ1 1 (some .boolean) false pc o ∧ am_mo o) 0 (am_nth [] tJ1_canEncode_9a6ad 0) :=
  And.intro ⟨ok_iload_n dJ1_canEncode_9a6ad_0 rfl rfl, mo_iload⟩ (
  And.intro ⟨ok_if_lt dJ1_canEncode_9a6ad_1 (by decide) rfl, mo_if⟩ (
  And.intro ⟨ok_nop, mo_nop⟩ (
  And.intro ⟨ok_nop, mo_nop⟩ (
  And.intro ⟨ok_iload_n dJ1_canEncode_9a6ad_4 rfl rfl, mo_iload⟩ (
  And.intro ⟨ok_sipush dJ1_canEncode_9a6ad_5 rfl si_255, mo_push⟩ (
  And.intro ⟨ok_nop, mo_nop⟩ (
  And.intro ⟨ok_nop, mo_nop⟩ (
  And.intro ⟨ok_icmp_gt dJ1_canEncode_9a6ad_8 (by decide) rfl, mo_icmp⟩ (
  And.intro ⟨ok_nop, mo_nop⟩ (
  And.intro ⟨ok_nop, mo_nop⟩ (
  And.intro ⟨ok_iconst dJ1_canEncode_9a6ad_11 rfl ic_1, mo_push⟩ (
  And.intro ⟨ok_goto dJ1_canEncode_9a6ad_12 (by decide), mo_goto⟩ (
  And.intro ⟨ok_nop, mo_nop⟩ (
  And.intro ⟨ok_nop, mo_nop⟩ (
  And.intro ⟨ok_iconst dJ1_canEncode_9a6ad_15 rfl ic_0, mo_push⟩ (
  trivial))))))))))))))))
theorem rJ1_canEncode_9a6ad_1 : am_allR (fun pc o => am_ok am_tb0 cJ1_canEncode_9a6ad RJ1 1 (some .boolean) false pc o ∧ am_mo o) 16 (am_nth [] tJ1_canEncode_9a6ad 1) :=
  And.intro ⟨ok_nret dJ1_canEncode_9a6ad_16 rfl, mo_nret⟩ (
  And.intro ⟨ok_nop, mo_nop⟩ (
  And.intro ⟨ok_nop, mo_nop⟩ (
  And.intro ⟨ok_nop, mo_nop⟩ (
  And.intro ⟨ok_nop, mo_nop⟩ (
  And.intro ⟨ok_nop, mo_nop⟩ (
  And.intro ⟨ok_nop, mo_nop⟩ (
  And.intro ⟨ok_nop, mo_nop⟩ (
  And.intro ⟨ok_nop, mo_nop⟩ (
  And.intro ⟨ok_nop, mo_nop⟩ (
  And.intro ⟨ok_nop, mo_nop⟩ (
  And.intro ⟨ok_nop, mo_nop⟩ (
  And.intro ⟨ok_nop, mo_nop⟩ (
  And.intro ⟨ok_nop, mo_nop⟩ (
  And.intro ⟨ok_nop, mo_nop⟩ (
  And.intro ⟨ok_nop, mo_nop⟩ (
  trivial))))))))))))))))
theorem kJ1_canEncode_9a6ad : am_M1 am_tb0 cJ1_canEncode_9a6ad RJ1 1 (some .boolean) false tJ1_canEncode_9a6ad := And.intro rJ1_canEncode_9a6ad_0 (And.intro rJ1_canEncode_9a6ad_1 (trivial))
def tJ1_indexOf_4cfef : List (List am_Op) := [[o_iload 1 1, o_cs 213 1 0 1 4, am_nop, am_nop, o_if (fun x => ¬ x = 0) 9 7, am_nop, am_nop, o_push (.int (-1)) 8, o_iret, o_iload 2 10, o_push (.int 0) 11, o_mbin (fun x y => if x < y then y else x) 14, am_nop, am_nop, o_istore 2 15, o_iload 3 16],
  [o_aload 0 17, o_alen 52 18, o_mbin (fun x y => if y < x then y else x) 21, am_nop, am_nop, o_istore 3 22, o_iload 2 23, o_iload 3 24, o_icmp (fun x y => x < y) 29 27, am_nop, am_nop, o_push (.int (-1)) 28, o_iret, o_aload 0 30, o_iload 1 31, o_iload 2 32],
  [o_iload 3 33, o_cs 215 6 0 4 36, am_nop, am_nop, o_iret, am_nop, am_nop, am_nop, am_nop, am_nop, am_nop, am_nop, am_nop, am_nop, am_nop, am_nop]]
theorem rJ1_indexOf_4cfef_0 : am_allR (fun pc o => am_ok am_tb0 cJ1_indexOf_4cfef RJ1 4 (some .int) false pc o ∧ am_mo o) 0 (am_nth [] tJ1_indexOf_4cfef 0) :=
  And.intro ⟨ok_iload_n dJ1_indexOf_4cfef_0 rfl rfl, mo_iload⟩ (
  And.intro ⟨ok_cs (z := 213) dJ1_indexOf_4cfef_1 wd_699 wd_700 wd_14 wd_701 rfl (by decide) hy_J1_canEncode_9a6ad rfl, mo_cs⟩ (
  And.intro ⟨ok_nop, mo_nop⟩ (
  And.intro ⟨ok_nop, mo_nop⟩ (
  And.intro ⟨ok_if_ne dJ1_indexOf_4cfef_4 (by decide) rfl, mo_if⟩ (
  And.intro ⟨ok_nop, mo_nop⟩ (
  And.intro ⟨ok_nop, mo_nop⟩ (
  And.intro ⟨ok_iconst dJ1_indexOf_4cfef_7 rfl ic_m1, mo_push⟩ (
  And.intro ⟨ok_iret dJ1_indexOf_4cfef_8 rfl, mo_iret⟩ (
  And.intro ⟨ok_iload_n dJ1_indexOf_4cfef_9 rfl rfl, mo_iload⟩ (
  And.intro ⟨ok_iconst dJ1_indexOf_4cfef_10 rfl ic_0, mo_push⟩ (
  And.intro ⟨ok_mmax dJ1_indexOf_4cfef_11 wd_702 wd_368 wd_10 wm_mmax rfl, mo_mbin⟩ (
  And.intro ⟨ok_nop, mo_nop⟩ (
  And.intro ⟨ok_nop, mo_nop⟩ (
  And.intro ⟨ok_istore_n dJ1_indexOf_4cfef_14 rfl (by decide) rfl, mo_istore⟩ (
  And.intro ⟨ok_iload_n dJ1_indexOf_4cfef_15 rfl rfl, mo_iload⟩ (
  trivial))))))))))))))))
theorem rJ1_indexOf_4cfef_1 : am_allR (fun pc o => am_ok am_tb0 cJ1_indexOf_4cfef RJ1 4 (some .int) false pc o ∧ am_mo o) 16 (am_nth [] tJ1_indexOf_4cfef 1) :=
  And.intro ⟨ok_aload_n dJ1_indexOf_4cfef_16 rfl rfl, mo_aload⟩ (
  And.intro ⟨ok_alenFB dJ1_indexOf_4cfef_17 rfl, mo_alen⟩ (
  And.intro ⟨ok_mmin dJ1_indexOf_4cfef_18 wd_703 wd_365 wd_10 wm_mmin rfl, mo_mbin⟩ (
  And.intro ⟨ok_nop, mo_nop⟩ (
  And.intro ⟨ok_nop, mo_nop⟩ (
  And.intro ⟨ok_istore_n dJ1_indexOf_4cfef_21 rfl (by decide) rfl, mo_istore⟩ (
  And.intro ⟨ok_iload_n dJ1_indexOf_4cfef_22 rfl rfl, mo_iload⟩ (
  And.intro ⟨ok_iload_n dJ1_indexOf_4cfef_23 rfl rfl, mo_iload⟩ (
  And.intro ⟨ok_icmp_lt dJ1_indexOf_4cfef_24 (by decide) rfl, mo_icmp⟩ (
  And.intro ⟨ok_nop, mo_nop⟩ (
  And.intro ⟨ok_nop, mo_nop⟩ (
  And.intro ⟨ok_iconst dJ1_indexOf_4cfef_27 rfl ic_m1, mo_push⟩ (
  And.intro ⟨ok_iret dJ1_indexOf_4cfef_28 rfl, mo_iret⟩ (
  And.intro ⟨ok_aload_n dJ1_indexOf_4cfef_29 rfl rfl, mo_aload⟩ (
  And.intro ⟨ok_iload_n dJ1_indexOf_4cfef_30 rfl rfl, mo_iload⟩ (
  And.intro ⟨ok_iload_n dJ1_indexOf_4cfef_31 rfl rfl, mo_iload⟩ (
  trivial))))))))))))))))
theorem rJ1_indexOf_4cfef_2 : am_allR (fun pc o => am_ok am_tb0 cJ1_indexOf_4cfef RJ1 4 (some .int) false pc o ∧ am_mo o) 32 (am_nth [] tJ1_indexOf_4cfef 2) :=
  And.intro ⟨ok_iload_n dJ1_indexOf_4cfef_32 rfl rfl, mo_iload⟩ (
  And.intro ⟨ok_cs (z := 215) dJ1_indexOf_4cfef_33 wd_704 wd_705 wd_14 wd_706 rfl (by decide) hy_J1_indexOfChar_4cfef rfl, mo_cs⟩ (
  And.intro ⟨ok_nop, mo_nop⟩ (
  And.intro ⟨ok_nop, mo_nop⟩ (
  And.intro ⟨ok_iret dJ1_indexOf_4cfef_36 rfl, mo_iret⟩ (
  And.intro ⟨ok_nop, mo_nop⟩ (
  And.intro ⟨ok_nop, mo_nop⟩ (
  And.intro ⟨ok_nop, mo_nop⟩ (
  And.intro ⟨ok_nop, mo_nop⟩ (
  And.intro ⟨ok_nop, mo_nop⟩ (
  And.intro ⟨ok_nop, mo_nop⟩ (
  And.intro ⟨ok_nop, mo_nop⟩ (
  And.intro ⟨ok_nop, mo_nop⟩ (
  And.intro ⟨ok_nop, mo_nop⟩ (
  And.intro ⟨ok_nop, mo_nop⟩ (
  And.intro ⟨ok_nop, mo_nop⟩ (
  trivial))))))))))))))))
theorem kJ1_indexOf_4cfef : am_M1 am_tb0 cJ1_indexOf_4cfef RJ1 4 (some .int) false tJ1_indexOf_4cfef := And.intro rJ1_indexOf_4cfef_0 (And.intro rJ1_indexOf_4cfef_1 (And.intro rJ1_indexOf_4cfef_2 (trivial)))
def tJ1_indexOfChar_4cfef : List (List am_Op) := [[o_iload 1 1, o_un (fun x => x.toInt8.toInt32) 2, o_istore 4 4, am_nop, o_iload 2 5, o_istore 5 7, am_nop, o_iload 5 9, am_nop, o_iload 3 10, o_icmp (fun x y => y ≤ x) 31 13, am_nop, am_nop, o_aload 0 14, o_iload 5 16, am_nop],
  [o_iald 52 17, o_iload 4 19, am_nop, o_icmp (fun x y => ¬ x = y) 25 22, am_nop, am_nop, o_iload 5 24, am_nop, o_iret, o_iinc 5 1 28, am_nop, am_nop, o_goto 7, am_nop, am_nop, o_push (.int (-1)) 32],
  [o_iret, am_nop, am_nop, am_nop, am_nop, am_nop, am_nop, am_nop, am_nop, am_nop, am_nop, am_nop, am_nop, am_nop, am_nop, am_nop]]
theorem rJ1_indexOfChar_4cfef_0 : am_allR (fun pc o => am_ok am_tb0 cJ1_indexOfChar_4cfef RJ1 6 (some .int) false pc o ∧ am_mo o) 0 (am_nth [] tJ1_indexOfChar_4cfef 0) :=
  And.intro ⟨ok_iload_n dJ1_indexOfChar_4cfef_0 rfl rfl, mo_iload⟩ (
  And.intro ⟨ok_i2b dJ1_indexOfChar_4cfef_1 rfl, mo_un⟩ (
  And.intro ⟨ok_istore dJ1_indexOfChar_4cfef_2 (by decide) rfl, mo_istore⟩ (
  And.intro ⟨ok_nop, mo_nop⟩ (
  And.intro ⟨ok_iload_n dJ1_indexOfChar_4cfef_4 rfl rfl, mo_iload⟩ (
  And.intro ⟨ok_istore dJ1_indexOfChar_4cfef_5 (by decide) rfl, mo_istore⟩ (
  And.intro ⟨ok_nop, mo_nop⟩ (
  And.intro ⟨ok_iload dJ1_indexOfChar_4cfef_7 rfl, mo_iload⟩ (
  And.intro ⟨ok_nop, mo_nop⟩ (
  And.intro ⟨ok_iload_n dJ1_indexOfChar_4cfef_9 rfl rfl, mo_iload⟩ (
  And.intro ⟨ok_icmp_ge dJ1_indexOfChar_4cfef_10 (by decide) rfl, mo_icmp⟩ (
  And.intro ⟨ok_nop, mo_nop⟩ (
  And.intro ⟨ok_nop, mo_nop⟩ (
  And.intro ⟨ok_aload_n dJ1_indexOfChar_4cfef_13 rfl rfl, mo_aload⟩ (
  And.intro ⟨ok_iload dJ1_indexOfChar_4cfef_14 rfl, mo_iload⟩ (
  And.intro ⟨ok_nop, mo_nop⟩ (
  trivial))))))))))))))))
theorem rJ1_indexOfChar_4cfef_1 : am_allR (fun pc o => am_ok am_tb0 cJ1_indexOfChar_4cfef RJ1 6 (some .int) false pc o ∧ am_mo o) 16 (am_nth [] tJ1_indexOfChar_4cfef 1) :=
  And.intro ⟨ok_baldF dJ1_indexOfChar_4cfef_16 rfl, mo_iald⟩ (
  And.intro ⟨ok_iload dJ1_indexOfChar_4cfef_17 rfl, mo_iload⟩ (
  And.intro ⟨ok_nop, mo_nop⟩ (
  And.intro ⟨ok_icmp_ne dJ1_indexOfChar_4cfef_19 (by decide) rfl, mo_icmp⟩ (
  And.intro ⟨ok_nop, mo_nop⟩ (
  And.intro ⟨ok_nop, mo_nop⟩ (
  And.intro ⟨ok_iload dJ1_indexOfChar_4cfef_22 rfl, mo_iload⟩ (
  And.intro ⟨ok_nop, mo_nop⟩ (
  And.intro ⟨ok_iret dJ1_indexOfChar_4cfef_24 rfl, mo_iret⟩ (
  And.intro ⟨ok_iinc dJ1_indexOfChar_4cfef_25 ic_1 (by decide) rfl, mo_iinc⟩ (
  And.intro ⟨ok_nop, mo_nop⟩ (
  And.intro ⟨ok_nop, mo_nop⟩ (
  And.intro ⟨ok_goto dJ1_indexOfChar_4cfef_28 (by decide), mo_goto⟩ (
  And.intro ⟨ok_nop, mo_nop⟩ (
  And.intro ⟨ok_nop, mo_nop⟩ (
  And.intro ⟨ok_iconst dJ1_indexOfChar_4cfef_31 rfl ic_m1, mo_push⟩ (
  trivial))))))))))))))))
theorem rJ1_indexOfChar_4cfef_2 : am_allR (fun pc o => am_ok am_tb0 cJ1_indexOfChar_4cfef RJ1 6 (some .int) false pc o ∧ am_mo o) 32 (am_nth [] tJ1_indexOfChar_4cfef 2) :=
  And.intro ⟨ok_iret dJ1_indexOfChar_4cfef_32 rfl, mo_iret⟩ (
  And.intro ⟨ok_nop, mo_nop⟩ (
  And.intro ⟨ok_nop, mo_nop⟩ (
  And.intro ⟨ok_nop, mo_nop⟩ (
  And.intro ⟨ok_nop, mo_nop⟩ (
  And.intro ⟨ok_nop, mo_nop⟩ (
  And.intro ⟨ok_nop, mo_nop⟩ (
  And.intro ⟨ok_nop, mo_nop⟩ (
  And.intro ⟨ok_nop, mo_nop⟩ (
  And.intro ⟨ok_nop, mo_nop⟩ (
  And.intro ⟨ok_nop, mo_nop⟩ (
  And.intro ⟨ok_nop, mo_nop⟩ (
  And.intro ⟨ok_nop, mo_nop⟩ (
  And.intro ⟨ok_nop, mo_nop⟩ (
  And.intro ⟨ok_nop, mo_nop⟩ (
  And.intro ⟨ok_nop, mo_nop⟩ (
  trivial))))))))))))))))
theorem kJ1_indexOfChar_4cfef : am_M1 am_tb0 cJ1_indexOfChar_4cfef RJ1 6 (some .int) false tJ1_indexOfChar_4cfef := And.intro rJ1_indexOfChar_4cfef_0 (And.intro rJ1_indexOfChar_4cfef_1 (And.intro rJ1_indexOfChar_4cfef_2 (trivial)))
def tJ7_fill_d0a16 : List (List am_Op) := [[o_push (.int 0) 1, o_istore 3 2, o_aload 0 3, o_alen 24 4, o_istore 4 6, am_nop, o_iload 3 7, o_iload 4 9, am_nop, o_icmp (fun x y => y ≤ x) 22 12, am_nop, am_nop, o_aload 0 13, o_iload 3 14, o_lload 1 15, o_last 16],
  [o_iinc 3 1 19, am_nop, am_nop, o_goto 6, am_nop, am_nop, o_ret, am_nop, am_nop, am_nop, am_nop, am_nop, am_nop, am_nop, am_nop, am_nop]]
theorem rJ7_fill_d0a16_0 : am_allR (fun pc o => am_ok am_tb0 cJ7_fill_d0a16 RJ7 5 none false pc o ∧ am_mo o) 0 (am_nth [] tJ7_fill_d0a16 0) :=
  And.intro ⟨ok_iconst dJ7_fill_d0a16_0 rfl ic_0, mo_push⟩ (
  And.intro ⟨ok_istore_n dJ7_fill_d0a16_1 rfl (by decide) rfl, mo_istore⟩ (
  And.intro ⟨ok_aload_n dJ7_fill_d0a16_2 rfl rfl, mo_aload⟩ (
  And.intro ⟨ok_alenJ dJ7_fill_d0a16_3 rfl, mo_alen⟩ (
  And.intro ⟨ok_istore dJ7_fill_d0a16_4 (by decide) rfl, mo_istore⟩ (
  And.intro ⟨ok_nop, mo_nop⟩ (
  And.intro ⟨ok_iload_n dJ7_fill_d0a16_6 rfl rfl, mo_iload⟩ (
  And.intro ⟨ok_iload dJ7_fill_d0a16_7 rfl, mo_iload⟩ (
  And.intro ⟨ok_nop, mo_nop⟩ (
  And.intro ⟨ok_icmp_ge dJ7_fill_d0a16_9 (by decide) rfl, mo_icmp⟩ (
  And.intro ⟨ok_nop, mo_nop⟩ (
  And.intro ⟨ok_nop, mo_nop⟩ (
  And.intro ⟨ok_aload_n dJ7_fill_d0a16_12 rfl rfl, mo_aload⟩ (
  And.intro ⟨ok_iload_n dJ7_fill_d0a16_13 rfl rfl, mo_iload⟩ (
  And.intro ⟨ok_lload_n dJ7_fill_d0a16_14 rfl rfl, mo_lload⟩ (
  And.intro ⟨ok_last dJ7_fill_d0a16_15 rfl, mo_last⟩ (
  trivial))))))))))))))))
theorem rJ7_fill_d0a16_1 : am_allR (fun pc o => am_ok am_tb0 cJ7_fill_d0a16 RJ7 5 none false pc o ∧ am_mo o) 16 (am_nth [] tJ7_fill_d0a16 1) :=
  And.intro ⟨ok_iinc dJ7_fill_d0a16_16 ic_1 (by decide) rfl, mo_iinc⟩ (
  And.intro ⟨ok_nop, mo_nop⟩ (
  And.intro ⟨ok_nop, mo_nop⟩ (
  And.intro ⟨ok_goto dJ7_fill_d0a16_19 (by decide), mo_goto⟩ (
  And.intro ⟨ok_nop, mo_nop⟩ (
  And.intro ⟨ok_nop, mo_nop⟩ (
  And.intro ⟨ok_ret dJ7_fill_d0a16_22 rfl, mo_ret⟩ (
  And.intro ⟨ok_nop, mo_nop⟩ (
  And.intro ⟨ok_nop, mo_nop⟩ (
  And.intro ⟨ok_nop, mo_nop⟩ (
  And.intro ⟨ok_nop, mo_nop⟩ (
  And.intro ⟨ok_nop, mo_nop⟩ (
  And.intro ⟨ok_nop, mo_nop⟩ (
  And.intro ⟨ok_nop, mo_nop⟩ (
  And.intro ⟨ok_nop, mo_nop⟩ (
  And.intro ⟨ok_nop, mo_nop⟩ (
  trivial))))))))))))))))
theorem kJ7_fill_d0a16 : am_M1 am_tb0 cJ7_fill_d0a16 RJ7 5 none false tJ7_fill_d0a16 := And.intro rJ7_fill_d0a16_0 (And.intro rJ7_fill_d0a16_1 (trivial))
def tJ7_fill_53178 : List (List am_Op) := [[o_push (.int 0) 1, o_istore 2 2, o_aload 0 3, o_alen 20 4, o_istore 3 5, o_iload 2 6, o_iload 3 7, o_icmp (fun x y => y ≤ x) 20 10, am_nop, am_nop, o_aload 0 11, o_iload 2 12, o_iload 1 13, o_iast 14, o_iinc 2 1 17, am_nop],
  [am_nop, o_goto 5, am_nop, am_nop, o_ret, am_nop, am_nop, am_nop, am_nop, am_nop, am_nop, am_nop, am_nop, am_nop, am_nop, am_nop]]
theorem rJ7_fill_53178_0 : am_allR (fun pc o => am_ok am_tb0 cJ7_fill_53178 RJ7 4 none false pc o ∧ am_mo o) 0 (am_nth [] tJ7_fill_53178 0) :=
  And.intro ⟨ok_iconst dJ7_fill_53178_0 rfl ic_0, mo_push⟩ (
  And.intro ⟨ok_istore_n dJ7_fill_53178_1 rfl (by decide) rfl, mo_istore⟩ (
  And.intro ⟨ok_aload_n dJ7_fill_53178_2 rfl rfl, mo_aload⟩ (
  And.intro ⟨ok_alenI dJ7_fill_53178_3 rfl, mo_alen⟩ (
  And.intro ⟨ok_istore_n dJ7_fill_53178_4 rfl (by decide) rfl, mo_istore⟩ (
  And.intro ⟨ok_iload_n dJ7_fill_53178_5 rfl rfl, mo_iload⟩ (
  And.intro ⟨ok_iload_n dJ7_fill_53178_6 rfl rfl, mo_iload⟩ (
  And.intro ⟨ok_icmp_ge dJ7_fill_53178_7 (by decide) rfl, mo_icmp⟩ (
  And.intro ⟨ok_nop, mo_nop⟩ (
  And.intro ⟨ok_nop, mo_nop⟩ (
  And.intro ⟨ok_aload_n dJ7_fill_53178_10 rfl rfl, mo_aload⟩ (
  And.intro ⟨ok_iload_n dJ7_fill_53178_11 rfl rfl, mo_iload⟩ (
  And.intro ⟨ok_iload_n dJ7_fill_53178_12 rfl rfl, mo_iload⟩ (
  And.intro ⟨ok_iast dJ7_fill_53178_13 rfl, mo_iast⟩ (
  And.intro ⟨ok_iinc dJ7_fill_53178_14 ic_1 (by decide) rfl, mo_iinc⟩ (
  And.intro ⟨ok_nop, mo_nop⟩ (
  trivial))))))))))))))))
theorem rJ7_fill_53178_1 : am_allR (fun pc o => am_ok am_tb0 cJ7_fill_53178 RJ7 4 none false pc o ∧ am_mo o) 16 (am_nth [] tJ7_fill_53178 1) :=
  And.intro ⟨ok_nop, mo_nop⟩ (
  And.intro ⟨ok_goto dJ7_fill_53178_17 (by decide), mo_goto⟩ (
  And.intro ⟨ok_nop, mo_nop⟩ (
  And.intro ⟨ok_nop, mo_nop⟩ (
  And.intro ⟨ok_ret dJ7_fill_53178_20 rfl, mo_ret⟩ (
  And.intro ⟨ok_nop, mo_nop⟩ (
  And.intro ⟨ok_nop, mo_nop⟩ (
  And.intro ⟨ok_nop, mo_nop⟩ (
  And.intro ⟨ok_nop, mo_nop⟩ (
  And.intro ⟨ok_nop, mo_nop⟩ (
  And.intro ⟨ok_nop, mo_nop⟩ (
  And.intro ⟨ok_nop, mo_nop⟩ (
  And.intro ⟨ok_nop, mo_nop⟩ (
  And.intro ⟨ok_nop, mo_nop⟩ (
  And.intro ⟨ok_nop, mo_nop⟩ (
  And.intro ⟨ok_nop, mo_nop⟩ (
  trivial))))))))))))))))
theorem kJ7_fill_53178 : am_M1 am_tb0 cJ7_fill_53178 RJ7 4 none false tJ7_fill_53178 := And.intro rJ7_fill_53178_0 (And.intro rJ7_fill_53178_1 (trivial))
def tJ7_copyOf_59c91 : List (List am_Op) := [[o_iload 1 1, o_aload 0 2, o_alen 20 3, o_icmp (fun x y => ¬ x = y) 14 6, am_nop, am_nop, o_aload 0 7, am_nop, am_nop, am_nop, am_nop, am_nop, am_nop, am_nop, o_iload 1 15, o_newa 20 17],
  [am_nop, o_astore 2 18, o_aload 0 19, o_push (.int 0) 20, o_aload 2 21, o_push (.int 0) 22, o_aload 0 23, o_alen 20 24, o_iload 1 25, o_mbin (fun x y => if y < x then y else x) 28, am_nop, am_nop, o_acopy 31, am_nop, am_nop, o_aload 2 32],
  [o_aret, am_nop, am_nop, am_nop, am_nop, am_nop, am_nop, am_nop, am_nop, am_nop, am_nop, am_nop, am_nop, am_nop, am_nop, am_nop]]
theorem rJ7_copyOf_59c91_0 : am_allR (fun pc o => am_ok am_tb0 cJ7_copyOf_59c91 RJ7 3 (some (.array .int)) false pc o ∧ am_mo o) 0 (am_nth [] tJ7_copyOf_59c91 0) :=
  And.intro ⟨ok_iload_n dJ7_copyOf_59c91_0 rfl rfl, mo_iload⟩ (
  And.intro ⟨ok_aload_n dJ7_copyOf_59c91_1 rfl rfl, mo_aload⟩ (
  And.intro ⟨ok_alenI dJ7_copyOf_59c91_2 rfl, mo_alen⟩ (
  And.intro ⟨ok_icmp_ne dJ7_copyOf_59c91_3 (by decide) rfl, mo_icmp⟩ (
  And.intro ⟨ok_nop, mo_nop⟩ (
  And.intro ⟨ok_nop, mo_nop⟩ (
  And.intro ⟨ok_aload_n dJ7_copyOf_59c91_6 rfl rfl, mo_aload⟩ (
  And.intro ⟨ok_nop, mo_nop⟩ (
  And.intro ⟨ok_nop, mo_nop⟩ (
  And.intro ⟨ok_nop, mo_nop⟩ (
  And.intro ⟨ok_nop, mo_nop⟩ (
  And.intro ⟨ok_nop, mo_nop⟩ (
  And.intro ⟨ok_nop, mo_nop⟩ (
  And.intro ⟨ok_nop, mo_nop⟩ (
  And.intro ⟨ok_iload_n dJ7_copyOf_59c91_14 rfl rfl, mo_iload⟩ (
  And.intro ⟨ok_newI dJ7_copyOf_59c91_15 wd_65 rfl, mo_newa⟩ (
  trivial))))))))))))))))
theorem rJ7_copyOf_59c91_1 : am_allR (fun pc o => am_ok am_tb0 cJ7_copyOf_59c91 RJ7 3 (some (.array .int)) false pc o ∧ am_mo o) 16 (am_nth [] tJ7_copyOf_59c91 1) :=
  And.intro ⟨ok_nop, mo_nop⟩ (
  And.intro ⟨ok_astore_n dJ7_copyOf_59c91_17 rfl (by decide) rfl, mo_astore⟩ (
  And.intro ⟨ok_aload_n dJ7_copyOf_59c91_18 rfl rfl, mo_aload⟩ (
  And.intro ⟨ok_iconst dJ7_copyOf_59c91_19 rfl ic_0, mo_push⟩ (
  And.intro ⟨ok_aload_n dJ7_copyOf_59c91_20 rfl rfl, mo_aload⟩ (
  And.intro ⟨ok_iconst dJ7_copyOf_59c91_21 rfl ic_0, mo_push⟩ (
  And.intro ⟨ok_aload_n dJ7_copyOf_59c91_22 rfl rfl, mo_aload⟩ (
  And.intro ⟨ok_alenI dJ7_copyOf_59c91_23 rfl, mo_alen⟩ (
  And.intro ⟨ok_iload_n dJ7_copyOf_59c91_24 rfl rfl, mo_iload⟩ (
  And.intro ⟨ok_mmin dJ7_copyOf_59c91_25 wd_766 wd_365 wd_10 wm_mmin rfl, mo_mbin⟩ (
  And.intro ⟨ok_nop, mo_nop⟩ (
  And.intro ⟨ok_nop, mo_nop⟩ (
  And.intro ⟨ok_acopy dJ7_copyOf_59c91_28 wd_767 wd_512 wd_511 wd_12 rfl, mo_acopy⟩ (
  And.intro ⟨ok_nop, mo_nop⟩ (
  And.intro ⟨ok_nop, mo_nop⟩ (
  And.intro ⟨ok_aload_n dJ7_copyOf_59c91_31 rfl rfl, mo_aload⟩ (
  trivial))))))))))))))))
theorem rJ7_copyOf_59c91_2 : am_allR (fun pc o => am_ok am_tb0 cJ7_copyOf_59c91 RJ7 3 (some (.array .int)) false pc o ∧ am_mo o) 32 (am_nth [] tJ7_copyOf_59c91 2) :=
  And.intro ⟨ok_aret dJ7_copyOf_59c91_32 rfl (Or.inr ⟨_, rfl⟩), mo_aret⟩ (
  And.intro ⟨ok_nop, mo_nop⟩ (
  And.intro ⟨ok_nop, mo_nop⟩ (
  And.intro ⟨ok_nop, mo_nop⟩ (
  And.intro ⟨ok_nop, mo_nop⟩ (
  And.intro ⟨ok_nop, mo_nop⟩ (
  And.intro ⟨ok_nop, mo_nop⟩ (
  And.intro ⟨ok_nop, mo_nop⟩ (
  And.intro ⟨ok_nop, mo_nop⟩ (
  And.intro ⟨ok_nop, mo_nop⟩ (
  And.intro ⟨ok_nop, mo_nop⟩ (
  And.intro ⟨ok_nop, mo_nop⟩ (
  And.intro ⟨ok_nop, mo_nop⟩ (
  And.intro ⟨ok_nop, mo_nop⟩ (
  And.intro ⟨ok_nop, mo_nop⟩ (
  And.intro ⟨ok_nop, mo_nop⟩ (
  trivial))))))))))))))))
theorem kJ7_copyOf_59c91 : am_M1 am_tb0 cJ7_copyOf_59c91 RJ7 3 (some (.array .int)) false tJ7_copyOf_59c91 := And.intro rJ7_copyOf_59c91_0 (And.intro rJ7_copyOf_59c91_1 (And.intro rJ7_copyOf_59c91_2 (trivial)))
def tJ3_checkIndex_8e157 : List (List am_Op) := [[o_iload 0 1, o_if (fun x => x < 0) 9 4, am_nop, am_nop, o_iload 0 5, o_iload 1 6, o_icmp (fun x y => x < y) 16 9, am_nop, am_nop, o_aload 2 10, o_iload 0 11, o_iload 1 12, am_nop, am_nop, am_nop, am_nop],
  [o_iload 0 17, o_iret, am_nop, am_nop, am_nop, am_nop, am_nop, am_nop, am_nop, am_nop, am_nop, am_nop, am_nop, am_nop, am_nop, am_nop]]
theorem rJ3_checkIndex_8e157_0 : am_allR (fun pc o => am_ok am_tb0 cJ3_checkIndex_8e157 RJ3 3 (some .int) false pc o ∧ am_mo o) 0 (am_nth [] tJ3_checkIndex_8e157 0) :=
  And.intro ⟨ok_iload_n dJ3_checkIndex_8e157_0 rfl rfl, mo_iload⟩ (
  And.intro ⟨ok_if_lt dJ3_checkIndex_8e157_1 (by decide) rfl, mo_if⟩ (
  And.intro ⟨ok_nop, mo_nop⟩ (
  And.intro ⟨ok_nop, mo_nop⟩ (
  And.intro ⟨ok_iload_n dJ3_checkIndex_8e157_4 rfl rfl, mo_iload⟩ (
  And.intro ⟨ok_iload_n dJ3_checkIndex_8e157_5 rfl rfl, mo_iload⟩ (
  And.intro ⟨ok_icmp_lt dJ3_checkIndex_8e157_6 (by decide) rfl, mo_icmp⟩ (
  And.intro ⟨ok_nop, mo_nop⟩ (
  And.intro ⟨ok_nop, mo_nop⟩ (
  And.intro ⟨ok_aload_n dJ3_checkIndex_8e157_9 rfl rfl, mo_aload⟩ (
  And.intro ⟨ok_iload_n dJ3_checkIndex_8e157_10 rfl rfl, mo_iload⟩ (
  And.intro ⟨ok_iload_n dJ3_checkIndex_8e157_11 rfl rfl, mo_iload⟩ (
  And.intro ⟨ok_nop, mo_nop⟩ (
  And.intro ⟨ok_nop, mo_nop⟩ (
  And.intro ⟨ok_nop, mo_nop⟩ (
  And.intro ⟨ok_nop, mo_nop⟩ (
  trivial))))))))))))))))
theorem rJ3_checkIndex_8e157_1 : am_allR (fun pc o => am_ok am_tb0 cJ3_checkIndex_8e157 RJ3 3 (some .int) false pc o ∧ am_mo o) 16 (am_nth [] tJ3_checkIndex_8e157 1) :=
  And.intro ⟨ok_iload_n dJ3_checkIndex_8e157_16 rfl rfl, mo_iload⟩ (
  And.intro ⟨ok_iret dJ3_checkIndex_8e157_17 rfl, mo_iret⟩ (
  And.intro ⟨ok_nop, mo_nop⟩ (
  And.intro ⟨ok_nop, mo_nop⟩ (
  And.intro ⟨ok_nop, mo_nop⟩ (
  And.intro ⟨ok_nop, mo_nop⟩ (
  And.intro ⟨ok_nop, mo_nop⟩ (
  And.intro ⟨ok_nop, mo_nop⟩ (
  And.intro ⟨ok_nop, mo_nop⟩ (
  And.intro ⟨ok_nop, mo_nop⟩ (
  And.intro ⟨ok_nop, mo_nop⟩ (
  And.intro ⟨ok_nop, mo_nop⟩ (
  And.intro ⟨ok_nop, mo_nop⟩ (
  And.intro ⟨ok_nop, mo_nop⟩ (
  And.intro ⟨ok_nop, mo_nop⟩ (
  And.intro ⟨ok_nop, mo_nop⟩ (
  trivial))))))))))))))))
theorem kJ3_checkIndex_8e157 : am_M1 am_tb0 cJ3_checkIndex_8e157 RJ3 3 (some .int) false tJ3_checkIndex_8e157 := And.intro rJ3_checkIndex_8e157_0 (And.intro rJ3_checkIndex_8e157_1 (trivial))
end AM14A
