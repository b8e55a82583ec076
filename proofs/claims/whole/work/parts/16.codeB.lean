section AM14B
def tX5_init : List (List am_Op) := [[o_aload 0 1, o_oinit 4, am_nop, am_nop, o_aload 0 5, o_push (.int 96) 7, am_nop, o_newa 20 9, am_nop, o_putR 5 11 0 12, am_nop, am_nop, o_aload 0 13, o_push (.int 0) 14, o_putI 5 11 1 17, am_nop],
  [am_nop, o_aload 0 18, o_push (.int 0) 19, o_putI 5 11 2 22, am_nop, am_nop, o_aload 0 23, o_push (.int 0) 24, o_putI 5 11 3 27, am_nop, am_nop, o_aload 0 28, o_push (.int (-1)) 29, o_putI 5 11 4 32, am_nop, am_nop],
  [o_aload 0 33, o_push (.int 0) 34, o_putI 5 11 5 37, am_nop, am_nop, o_aload 0 38, o_push (.int 0) 39, o_putI 5 11 6 42, am_nop, am_nop, o_aload 0 43, o_push (.int 0) 44, o_putI 5 11 7 47, am_nop, am_nop, o_aload 0 48],
  [o_push (.int 0) 49, o_putI 5 11 8 52, am_nop, am_nop, o_aload 0 53, o_push (.int 96) 55, am_nop, o_newa 20 57, am_nop, o_putR 5 11 9 60, am_nop, am_nop, o_aload 0 61, o_push (.int 0) 62, o_putI 5 11 10 65, am_nop],
  [am_nop, o_ret, am_nop, am_nop, am_nop, am_nop, am_nop, am_nop, am_nop, am_nop, am_nop, am_nop, am_nop, am_nop, am_nop, am_nop]]
theorem rX5_init_0 : am_allR (fun pc o => am_ok am_tb0 cX5_init RX5 1 none true pc o ∧ am_mo o) 0 (am_nth [] tX5_init 0) :=
  And.intro ⟨ok_aload_n dX5_init_0 rfl rfl, mo_aload⟩ (
  And.intro ⟨ok_oinit dX5_init_1 wd_152 wd_24 wd_25 rfl, mo_oinit⟩ (
  And.intro ⟨ok_nop, mo_nop⟩ (
  And.intro ⟨ok_nop, mo_nop⟩ (
  And.intro ⟨ok_aload_n dX5_init_4 rfl rfl, mo_aload⟩ (
  And.intro ⟨ok_bipush dX5_init_5 rfl bi_96, mo_push⟩ (
  And.intro ⟨ok_nop, mo_nop⟩ (
  And.intro ⟨ok_newI dX5_init_7 wd_65 rfl, mo_newa⟩ (
  And.intro ⟨ok_nop, mo_nop⟩ (
  And.intro ⟨ok_putRF dX5_init_9 hclX5 inWX5 tyX5_ok nmX5 (by decide) (by decide) wd_153 rfl rfl rfl (tyX5_ok 0 (by decide)) (Or.inr ⟨_, rfl⟩) (fun _ _ _ => rfl) rfl, mo_putR⟩ (
  And.intro ⟨ok_nop, mo_nop⟩ (
  And.intro ⟨ok_nop, mo_nop⟩ (
  And.intro ⟨ok_aload_n dX5_init_12 rfl rfl, mo_aload⟩ (
  And.intro ⟨ok_iconst dX5_init_13 rfl ic_0, mo_push⟩ (
  And.intro ⟨ok_putI dX5_init_14 hclX5 inWX5 tyX5_ok nmX5 (by decide) (by decide) wd_154 rfl (tyX5_ok 1 (by decide)) (fun _ _ _ => rfl) rfl, mo_putI⟩ (
  And.intro ⟨ok_nop, mo_nop⟩ (
  trivial))))))))))))))))
theorem rX5_init_1 : am_allR (fun pc o => am_ok am_tb0 cX5_init RX5 1 none true pc o ∧ am_mo o) 16 (am_nth [] tX5_init 1) :=
  And.intro ⟨ok_nop, mo_nop⟩ (
  And.intro ⟨ok_aload_n dX5_init_17 rfl rfl, mo_aload⟩ (
  And.intro ⟨ok_iconst dX5_init_18 rfl ic_0, mo_push⟩ (
  And.intro ⟨ok_putI dX5_init_19 hclX5 inWX5 tyX5_ok nmX5 (by decide) (by decide) wd_156 rfl (tyX5_ok 2 (by decide)) (fun _ _ _ => rfl) rfl, mo_putI⟩ (
  And.intro ⟨ok_nop, mo_nop⟩ (
  And.intro ⟨ok_nop, mo_nop⟩ (
  And.intro ⟨ok_aload_n dX5_init_22 rfl rfl, mo_aload⟩ (
  And.intro ⟨ok_iconst dX5_init_23 rfl ic_0, mo_push⟩ (
  And.intro ⟨ok_putI dX5_init_24 hclX5 inWX5 tyX5_ok nmX5 (by decide) (by decide) wd_158 rfl (tyX5_ok 3 (by decide)) (fun _ _ _ => rfl) rfl, mo_putI⟩ (
  And.intro ⟨ok_nop, mo_nop⟩ (
  And.intro ⟨ok_nop, mo_nop⟩ (
  And.intro ⟨ok_aload_n dX5_init_27 rfl rfl, mo_aload⟩ (
  And.intro ⟨ok_iconst dX5_init_28 rfl ic_m1, mo_push⟩ (
  And.intro ⟨ok_putI dX5_init_29 hclX5 inWX5 tyX5_ok nmX5 (by decide) (by decide) wd_159 rfl (tyX5_ok 4 (by decide)) (fun _ _ _ => rfl) rfl, mo_putI⟩ (
  And.intro ⟨ok_nop, mo_nop⟩ (
  And.intro ⟨ok_nop, mo_nop⟩ (
  trivial))))))))))))))))
theorem rX5_init_2 : am_allR (fun pc o => am_ok am_tb0 cX5_init RX5 1 none true pc o ∧ am_mo o) 32 (am_nth [] tX5_init 2) :=
  And.intro ⟨ok_aload_n dX5_init_32 rfl rfl, mo_aload⟩ (
  And.intro ⟨ok_iconst dX5_init_33 rfl ic_0, mo_push⟩ (
  And.intro ⟨ok_putI dX5_init_34 hclX5 inWX5 tyX5_ok nmX5 (by decide) (by decide) wd_160 rfl (tyX5_ok 5 (by decide)) (fun _ _ _ => rfl) rfl, mo_putI⟩ (
  And.intro ⟨ok_nop, mo_nop⟩ (
  And.intro ⟨ok_nop, mo_nop⟩ (
  And.intro ⟨ok_aload_n dX5_init_37 rfl rfl, mo_aload⟩ (
  And.intro ⟨ok_iconst dX5_init_38 rfl ic_0, mo_push⟩ (
  And.intro ⟨ok_putI dX5_init_39 hclX5 inWX5 tyX5_ok nmX5 (by decide) (by decide) wd_161 rfl (tyX5_ok 6 (by decide)) (fun _ _ _ => rfl) rfl, mo_putI⟩ (
  And.intro ⟨ok_nop, mo_nop⟩ (
  And.intro ⟨ok_nop, mo_nop⟩ (
  And.intro ⟨ok_aload_n dX5_init_42 rfl rfl, mo_aload⟩ (
  And.intro ⟨ok_iconst dX5_init_43 rfl ic_0, mo_push⟩ (
  And.intro ⟨ok_putI dX5_init_44 hclX5 inWX5 tyX5_ok nmX5 (by decide) (by decide) wd_162 rfl (tyX5_ok 7 (by decide)) (fun _ _ _ => rfl) rfl, mo_putI⟩ (
  And.intro ⟨ok_nop, mo_nop⟩ (
  And.intro ⟨ok_nop, mo_nop⟩ (
  And.intro ⟨ok_aload_n dX5_init_47 rfl rfl, mo_aload⟩ (
  trivial))))))))))))))))
theorem rX5_init_3 : am_allR (fun pc o => am_ok am_tb0 cX5_init RX5 1 none true pc o ∧ am_mo o) 48 (am_nth [] tX5_init 3) :=
  And.intro ⟨ok_iconst dX5_init_48 rfl ic_0, mo_push⟩ (
  And.intro ⟨ok_putI dX5_init_49 hclX5 inWX5 tyX5_ok nmX5 (by decide) (by decide) wd_163 rfl (tyX5_ok 8 (by decide)) (fun _ _ _ => rfl) rfl, mo_putI⟩ (
  And.intro ⟨ok_nop, mo_nop⟩ (
  And.intro ⟨ok_nop, mo_nop⟩ (
  And.intro ⟨ok_aload_n dX5_init_52 rfl rfl, mo_aload⟩ (
  And.intro ⟨ok_bipush dX5_init_53 rfl bi_96, mo_push⟩ (
  And.intro ⟨ok_nop, mo_nop⟩ (
  And.intro ⟨ok_newI dX5_init_55 wd_65 rfl, mo_newa⟩ (
  And.intro ⟨ok_nop, mo_nop⟩ (
  And.intro ⟨ok_putRF dX5_init_57 hclX5 inWX5 tyX5_ok nmX5 (by decide) (by decide) wd_164 rfl rfl rfl (tyX5_ok 9 (by decide)) (Or.inr ⟨_, rfl⟩) (fun _ _ _ => rfl) rfl, mo_putR⟩ (
  And.intro ⟨ok_nop, mo_nop⟩ (
  And.intro ⟨ok_nop, mo_nop⟩ (
  And.intro ⟨ok_aload_n dX5_init_60 rfl rfl, mo_aload⟩ (
  And.intro ⟨ok_iconst dX5_init_61 rfl ic_0, mo_push⟩ (
  And.intro ⟨ok_putI dX5_init_62 hclX5 inWX5 tyX5_ok nmX5 (by decide) (by decide) wd_165 rfl (tyX5_ok 10 (by decide)) (fun _ _ _ => rfl) rfl, mo_putI⟩ (
  And.intro ⟨ok_nop, mo_nop⟩ (
  trivial))))))))))))))))
theorem rX5_init_4 : am_allR (fun pc o => am_ok am_tb0 cX5_init RX5 1 none true pc o ∧ am_mo o) 64 (am_nth [] tX5_init 4) :=
  And.intro ⟨ok_nop, mo_nop⟩ (
  And.intro ⟨ok_ret dX5_init_65 rfl, mo_ret⟩ (
  And.intro ⟨ok_nop, mo_nop⟩ (
  And.intro ⟨ok_nop, mo_nop⟩ (
  And.intro ⟨ok_nop, mo_nop⟩ (
  And.intro ⟨ok_nop, mo_nop⟩ (
  And.intro ⟨ok_nop, mo_nop⟩ (
  And.intro ⟨ok_nop, mo_nop⟩ (
  And.intro ⟨ok_nop, mo_nop⟩ (
  And.intro ⟨ok_nop, mo_nop⟩ (
  And.intro ⟨ok_nop, mo_nop⟩ (
  And.intro ⟨ok_nop, mo_nop⟩ (
  And.intro ⟨ok_nop, mo_nop⟩ (
  And.intro ⟨ok_nop, mo_nop⟩ (
  And.intro ⟨ok_nop, mo_nop⟩ (
  And.intro ⟨ok_nop, mo_nop⟩ (
  trivial))))))))))))))))
theorem kX5_init : am_M1 am_tb0 cX5_init RX5 1 none true tX5_init := And.intro rX5_init_0 (And.intro rX5_init_1 (And.intro rX5_init_2 (And.intro rX5_init_3 (And.intro rX5_init_4 (trivial)))))
def tX5_putBytes : List (List am_Op) := [[o_push (.int 24) 2, am_nop, o_istore 2 3, o_iload 2 4, o_if (fun x => x < 0) 48 7, am_nop, am_nop, o_aload 0 8, o_getI 5 11 1 11, am_nop, am_nop, o_push (.int 96) 13, am_nop, o_icmp (fun x y => y ≤ x) 48 16, am_nop, am_nop],
  [o_aload 0 17, o_getR 5 11 0 20, am_nop, am_nop, o_aload 0 21, o_getI 5 11 1 24, am_nop, am_nop, o_iload 1 25, o_iload 2 26, o_bin (fun x y => (x.toUInt32 >>> (y.toUInt32 &&& Int32.toUInt32 31)).toInt32) 27, o_push (.int 255) 30, am_nop, am_nop, o_bin (fun x y => x &&& y) 31, o_iast 32],
  [o_aload 0 33, o_dup 34, o_getI 5 11 1 37, am_nop, am_nop, o_push (.int 1) 38, o_bin (fun x y => x + y) 39, o_putI 5 11 1 42, am_nop, am_nop, o_iinc 2 (-8) 45, am_nop, am_nop, o_goto 3, am_nop, am_nop],
  [o_ret, am_nop, am_nop, am_nop, am_nop, am_nop, am_nop, am_nop, am_nop, am_nop, am_nop, am_nop, am_nop, am_nop, am_nop, am_nop]]
theorem rX5_putBytes_0 : am_allR (fun pc o => am_ok am_tb0 cX5_putBytes RX5 3 none false pc o ∧ am_mo o) 0 (am_nth [] tX5_putBytes 0) :=
  And.intro ⟨ok_bipush dX5_putBytes_0 rfl bi_24, mo_push⟩ (
  And.intro ⟨ok_nop, mo_nop⟩ (
  And.intro ⟨ok_istore_n dX5_putBytes_2 rfl (by decide) rfl, mo_istore⟩ (
  And.intro ⟨ok_iload_n dX5_putBytes_3 rfl rfl, mo_iload⟩ (
  And.intro ⟨ok_if_lt dX5_putBytes_4 (by decide) rfl, mo_if⟩ (
  And.intro ⟨ok_nop, mo_nop⟩ (
  And.intro ⟨ok_nop, mo_nop⟩ (
  And.intro ⟨ok_aload_n dX5_putBytes_7 rfl rfl, mo_aload⟩ (
  And.intro ⟨ok_getI dX5_putBytes_8 hclX5 inWX5 (by decide) (by decide) wd_154 (fun _ _ _ => rfl) rfl, mo_getI⟩ (
  And.intro ⟨ok_nop, mo_nop⟩ (
  And.intro ⟨ok_nop, mo_nop⟩ (
  And.intro ⟨ok_bipush dX5_putBytes_11 rfl bi_96, mo_push⟩ (
  And.intro ⟨ok_nop, mo_nop⟩ (
  And.intro ⟨ok_icmp_ge dX5_putBytes_13 (by decide) rfl, mo_icmp⟩ (
  And.intro ⟨ok_nop, mo_nop⟩ (
  And.intro ⟨ok_nop, mo_nop⟩ (
  trivial))))))))))))))))
theorem rX5_putBytes_1 : am_allR (fun pc o => am_ok am_tb0 cX5_putBytes RX5 3 none false pc o ∧ am_mo o) 16 (am_nth [] tX5_putBytes 1) :=
  And.intro ⟨ok_aload_n dX5_putBytes_16 rfl rfl, mo_aload⟩ (
  And.intro ⟨ok_getR dX5_putBytes_17 hclX5 inWX5 (by decide) (by decide) wd_153 (fun _ _ _ => rfl) rfl, mo_getR⟩ (
  And.intro ⟨ok_nop, mo_nop⟩ (
  And.intro ⟨ok_nop, mo_nop⟩ (
  And.intro ⟨ok_aload_n dX5_putBytes_20 rfl rfl, mo_aload⟩ (
  And.intro ⟨ok_getI dX5_putBytes_21 hclX5 inWX5 (by decide) (by decide) wd_154 (fun _ _ _ => rfl) rfl, mo_getI⟩ (
  And.intro ⟨ok_nop, mo_nop⟩ (
  And.intro ⟨ok_nop, mo_nop⟩ (
  And.intro ⟨ok_iload_n dX5_putBytes_24 rfl rfl, mo_iload⟩ (
  And.intro ⟨ok_iload_n dX5_putBytes_25 rfl rfl, mo_iload⟩ (
  And.intro ⟨ok_iushr dX5_putBytes_26 rfl, mo_bin⟩ (
  And.intro ⟨ok_sipush dX5_putBytes_27 rfl si_255, mo_push⟩ (
  And.intro ⟨ok_nop, mo_nop⟩ (
  And.intro ⟨ok_nop, mo_nop⟩ (
  And.intro ⟨ok_iand dX5_putBytes_30 rfl, mo_bin⟩ (
  And.intro ⟨ok_iast dX5_putBytes_31 rfl, mo_iast⟩ (
  trivial))))))))))))))))
theorem rX5_putBytes_2 : am_allR (fun pc o => am_ok am_tb0 cX5_putBytes RX5 3 none false pc o ∧ am_mo o) 32 (am_nth [] tX5_putBytes 2) :=
  And.intro ⟨ok_aload_n dX5_putBytes_32 rfl rfl, mo_aload⟩ (
  And.intro ⟨ok_dup dX5_putBytes_33 rfl, mo_dup⟩ (
  And.intro ⟨ok_getI dX5_putBytes_34 hclX5 inWX5 (by decide) (by decide) wd_154 (fun _ _ _ => rfl) rfl, mo_getI⟩ (
  And.intro ⟨ok_nop, mo_nop⟩ (
  And.intro ⟨ok_nop, mo_nop⟩ (
  And.intro ⟨ok_iconst dX5_putBytes_37 rfl ic_1, mo_push⟩ (
  And.intro ⟨ok_iadd dX5_putBytes_38 rfl, mo_bin⟩ (
  And.intro ⟨ok_putI dX5_putBytes_39 hclX5 inWX5 tyX5_ok nmX5 (by decide) (by decide) wd_154 rfl (tyX5_ok 1 (by decide)) (fun _ _ _ => rfl) rfl, mo_putI⟩ (
  And.intro ⟨ok_nop, mo_nop⟩ (
  And.intro ⟨ok_nop, mo_nop⟩ (
  And.intro ⟨ok_iinc dX5_putBytes_42 ic_m8 (by decide) rfl, mo_iinc⟩ (
  And.intro ⟨ok_nop, mo_nop⟩ (
  And.intro ⟨ok_nop, mo_nop⟩ (
  And.intro ⟨ok_goto dX5_putBytes_45 (by decide), mo_goto⟩ (
  And.intro ⟨ok_nop, mo_nop⟩ (
  And.intro ⟨ok_nop, mo_nop⟩ (
  trivial))))))))))))))))
theorem rX5_putBytes_3 : am_allR (fun pc o => am_ok am_tb0 cX5_putBytes RX5 3 none false pc o ∧ am_mo o) 48 (am_nth [] tX5_putBytes 3) :=
  And.intro ⟨ok_ret dX5_putBytes_48 rfl, mo_ret⟩ (
  And.intro ⟨ok_nop, mo_nop⟩ (
  And.intro ⟨ok_nop, mo_nop⟩ (
  And.intro ⟨ok_nop, mo_nop⟩ (
  And.intro ⟨ok_nop, mo_nop⟩ (
  And.intro ⟨ok_nop, mo_nop⟩ (
  And.intro ⟨ok_nop, mo_nop⟩ (
  And.intro ⟨ok_nop, mo_nop⟩ (
  And.intro ⟨ok_nop, mo_nop⟩ (
  And.intro ⟨ok_nop, mo_nop⟩ (
  And.intro ⟨ok_nop, mo_nop⟩ (
  And.intro ⟨ok_nop, mo_nop⟩ (
  And.intro ⟨ok_nop, mo_nop⟩ (
  And.intro ⟨ok_nop, mo_nop⟩ (
  And.intro ⟨ok_nop, mo_nop⟩ (
  And.intro ⟨ok_nop, mo_nop⟩ (
  trivial))))))))))))))))
theorem kX5_putBytes : am_M1 am_tb0 cX5_putBytes RX5 3 none false tX5_putBytes := And.intro rX5_putBytes_0 (And.intro rX5_putBytes_1 (And.intro rX5_putBytes_2 (And.intro rX5_putBytes_3 (trivial))))
def tX5_read : List (List am_Op) := [[o_aload 0 1, o_push (.int 0) 2, o_putI 5 11 3 5, am_nop, am_nop, o_aload 0 6, o_push (.int (-1)) 7, o_putI 5 11 4 10, am_nop, am_nop, o_aload 0 11, o_push (.int 0) 12, o_putI 5 11 6 15, am_nop, am_nop, o_aload 0 16],
  [o_push (.int 0) 17, o_putI 5 11 7 20, am_nop, am_nop, o_aload 0 21, o_push (.int 0) 22, o_putI 5 11 8 25, am_nop, am_nop, o_aload 0 26, o_push (.int 0) 27, o_putI 5 11 10 30, am_nop, am_nop, o_aload 0 31, o_cv 5 11 43 3 1 0 34],
  [am_nop, am_nop, o_aload 0 35, o_aload 0 36, o_cv 5 11 45 1 5 0 39, am_nop, am_nop, o_putI 5 11 5 42, am_nop, am_nop, o_aload 0 43, o_getI 5 11 5 46, am_nop, am_nop, o_if (fun x => 0 ≤ x) 51 49, am_nop],
  [am_nop, o_push (.ref 0) 50, o_aret, o_aload 0 52, o_cv 5 11 43 3 1 0 55, am_nop, am_nop, o_aload 0 56, o_push (.int 0) 57, o_cv 5 11 47 4 200 1 60, am_nop, am_nop, o_if (fun x => x = 0) 71 63, am_nop, am_nop, o_aload 0 64],
  [o_getI 5 11 4 67, am_nop, am_nop, o_push (.int (-1)) 68, o_icmp (fun x y => x = y) 73 71, am_nop, am_nop, o_push (.ref 0) 72, o_aret, o_new 6 4 76, am_nop, am_nop, o_dup 77, o_aload 0 78, o_getI 5 11 5 81, am_nop],
  [am_nop, o_aload 0 82, o_getI 5 11 6 85, am_nop, am_nop, o_aload 0 86, o_getR 5 11 9 89, am_nop, am_nop, o_aload 0 90, o_getI 5 11 10 93, am_nop, am_nop, o_cs 218 3 0 2 96, am_nop, am_nop],
  [o_cv 6 4 57 4 0 3 99, am_nop, am_nop, o_aret, am_nop, am_nop, am_nop, am_nop, am_nop, am_nop, am_nop, am_nop, am_nop, am_nop, am_nop, am_nop]]
theorem rX5_read_0 : am_allR (fun pc o => am_ok am_tb0 cX5_read RX5 1 (some (.object "DigFill$Text")) false pc o ∧ am_mo o) 0 (am_nth [] tX5_read 0) :=
  And.intro ⟨ok_aload_n dX5_read_0 rfl rfl, mo_aload⟩ (
  And.intro ⟨ok_iconst dX5_read_1 rfl ic_0, mo_push⟩ (
  And.intro ⟨ok_putI dX5_read_2 hclX5 inWX5 tyX5_ok nmX5 (by decide) (by decide) wd_158 rfl (tyX5_ok 3 (by decide)) (fun _ _ _ => rfl) rfl, mo_putI⟩ (
  And.intro ⟨ok_nop, mo_nop⟩ (
  And.intro ⟨ok_nop, mo_nop⟩ (
  And.intro ⟨ok_aload_n dX5_read_5 rfl rfl, mo_aload⟩ (
  And.intro ⟨ok_iconst dX5_read_6 rfl ic_m1, mo_push⟩ (
  And.intro ⟨ok_putI dX5_read_7 hclX5 inWX5 tyX5_ok nmX5 (by decide) (by decide) wd_159 rfl (tyX5_ok 4 (by decide)) (fun _ _ _ => rfl) rfl, mo_putI⟩ (
  And.intro ⟨ok_nop, mo_nop⟩ (
  And.intro ⟨ok_nop, mo_nop⟩ (
  And.intro ⟨ok_aload_n dX5_read_10 rfl rfl, mo_aload⟩ (
  And.intro ⟨ok_iconst dX5_read_11 rfl ic_0, mo_push⟩ (
  And.intro ⟨ok_putI dX5_read_12 hclX5 inWX5 tyX5_ok nmX5 (by decide) (by decide) wd_161 rfl (tyX5_ok 6 (by decide)) (fun _ _ _ => rfl) rfl, mo_putI⟩ (
  And.intro ⟨ok_nop, mo_nop⟩ (
  And.intro ⟨ok_nop, mo_nop⟩ (
  And.intro ⟨ok_aload_n dX5_read_15 rfl rfl, mo_aload⟩ (
  trivial))))))))))))))))
theorem rX5_read_1 : am_allR (fun pc o => am_ok am_tb0 cX5_read RX5 1 (some (.object "DigFill$Text")) false pc o ∧ am_mo o) 16 (am_nth [] tX5_read 1) :=
  And.intro ⟨ok_iconst dX5_read_16 rfl ic_0, mo_push⟩ (
  And.intro ⟨ok_putI dX5_read_17 hclX5 inWX5 tyX5_ok nmX5 (by decide) (by decide) wd_162 rfl (tyX5_ok 7 (by decide)) (fun _ _ _ => rfl) rfl, mo_putI⟩ (
  And.intro ⟨ok_nop, mo_nop⟩ (
  And.intro ⟨ok_nop, mo_nop⟩ (
  And.intro ⟨ok_aload_n dX5_read_20 rfl rfl, mo_aload⟩ (
  And.intro ⟨ok_iconst dX5_read_21 rfl ic_0, mo_push⟩ (
  And.intro ⟨ok_putI dX5_read_22 hclX5 inWX5 tyX5_ok nmX5 (by decide) (by decide) wd_163 rfl (tyX5_ok 8 (by decide)) (fun _ _ _ => rfl) rfl, mo_putI⟩ (
  And.intro ⟨ok_nop, mo_nop⟩ (
  And.intro ⟨ok_nop, mo_nop⟩ (
  And.intro ⟨ok_aload_n dX5_read_25 rfl rfl, mo_aload⟩ (
  And.intro ⟨ok_iconst dX5_read_26 rfl ic_0, mo_push⟩ (
  And.intro ⟨ok_putI dX5_read_27 hclX5 inWX5 tyX5_ok nmX5 (by decide) (by decide) wd_165 rfl (tyX5_ok 10 (by decide)) (fun _ _ _ => rfl) rfl, mo_putI⟩ (
  And.intro ⟨ok_nop, mo_nop⟩ (
  And.intro ⟨ok_nop, mo_nop⟩ (
  And.intro ⟨ok_aload_n dX5_read_30 rfl rfl, mo_aload⟩ (
  And.intro ⟨ok_cv (z := 43) dX5_read_31 hclX5 (by decide) wd_591 wd_593 wp_4 wd_5 wd_594 rfl (by decide) ⟨rfl, hy_X5_step⟩ rfl, mo_cv⟩ (
  trivial))))))))))))))))
theorem rX5_read_2 : am_allR (fun pc o => am_ok am_tb0 cX5_read RX5 1 (some (.object "DigFill$Text")) false pc o ∧ am_mo o) 32 (am_nth [] tX5_read 2) :=
  And.intro ⟨ok_nop, mo_nop⟩ (
  And.intro ⟨ok_nop, mo_nop⟩ (
  And.intro ⟨ok_aload_n dX5_read_34 rfl rfl, mo_aload⟩ (
  And.intro ⟨ok_aload_n dX5_read_35 rfl rfl, mo_aload⟩ (
  And.intro ⟨ok_cv (z := 45) dX5_read_36 hclX5 (by decide) wd_598 wd_600 wp_5 wd_5 wd_601 rfl (by decide) ⟨rfl, hy_X5_keyHere⟩ rfl, mo_cv⟩ (
  And.intro ⟨ok_nop, mo_nop⟩ (
  And.intro ⟨ok_nop, mo_nop⟩ (
  And.intro ⟨ok_putI dX5_read_39 hclX5 inWX5 tyX5_ok nmX5 (by decide) (by decide) wd_160 rfl (tyX5_ok 5 (by decide)) (fun _ _ _ => rfl) rfl, mo_putI⟩ (
  And.intro ⟨ok_nop, mo_nop⟩ (
  And.intro ⟨ok_nop, mo_nop⟩ (
  And.intro ⟨ok_aload_n dX5_read_42 rfl rfl, mo_aload⟩ (
  And.intro ⟨ok_getI dX5_read_43 hclX5 inWX5 (by decide) (by decide) wd_160 (fun _ _ _ => rfl) rfl, mo_getI⟩ (
  And.intro ⟨ok_nop, mo_nop⟩ (
  And.intro ⟨ok_nop, mo_nop⟩ (
  And.intro ⟨ok_if_ge dX5_read_46 (by decide) rfl, mo_if⟩ (
  And.intro ⟨ok_nop, mo_nop⟩ (
  trivial))))))))))))))))
theorem rX5_read_3 : am_allR (fun pc o => am_ok am_tb0 cX5_read RX5 1 (some (.object "DigFill$Text")) false pc o ∧ am_mo o) 48 (am_nth [] tX5_read 3) :=
  And.intro ⟨ok_nop, mo_nop⟩ (
  And.intro ⟨ok_null dX5_read_49 rfl, mo_push⟩ (
  And.intro ⟨ok_aret dX5_read_50 rfl (Or.inl ⟨_, rfl⟩), mo_aret⟩ (
  And.intro ⟨ok_aload_n dX5_read_51 rfl rfl, mo_aload⟩ (
  And.intro ⟨ok_cv (z := 43) dX5_read_52 hclX5 (by decide) wd_591 wd_593 wp_4 wd_5 wd_594 rfl (by decide) ⟨rfl, hy_X5_step⟩ rfl, mo_cv⟩ (
  And.intro ⟨ok_nop, mo_nop⟩ (
  And.intro ⟨ok_nop, mo_nop⟩ (
  And.intro ⟨ok_aload_n dX5_read_55 rfl rfl, mo_aload⟩ (
  And.intro ⟨ok_iconst dX5_read_56 rfl ic_0, mo_push⟩ (
  And.intro ⟨ok_cv (z := 47) dX5_read_57 hclX5 (by decide) wd_657 wd_659 wp_7 wd_5 wd_660 rfl (by decide) ⟨rfl, hy_X5_joinedBy⟩ rfl, mo_cv⟩ (
  And.intro ⟨ok_nop, mo_nop⟩ (
  And.intro ⟨ok_nop, mo_nop⟩ (
  And.intro ⟨ok_if_eq dX5_read_60 (by decide) rfl, mo_if⟩ (
  And.intro ⟨ok_nop, mo_nop⟩ (
  And.intro ⟨ok_nop, mo_nop⟩ (
  And.intro ⟨ok_aload_n dX5_read_63 rfl rfl, mo_aload⟩ (
  trivial))))))))))))))))
theorem rX5_read_4 : am_allR (fun pc o => am_ok am_tb0 cX5_read RX5 1 (some (.object "DigFill$Text")) false pc o ∧ am_mo o) 64 (am_nth [] tX5_read 4) :=
  And.intro ⟨ok_getI dX5_read_64 hclX5 inWX5 (by decide) (by decide) wd_159 (fun _ _ _ => rfl) rfl, mo_getI⟩ (
  And.intro ⟨ok_nop, mo_nop⟩ (
  And.intro ⟨ok_nop, mo_nop⟩ (
  And.intro ⟨ok_iconst dX5_read_67 rfl ic_m1, mo_push⟩ (
  And.intro ⟨ok_icmp_eq dX5_read_68 (by decide) rfl, mo_icmp⟩ (
  And.intro ⟨ok_nop, mo_nop⟩ (
  And.intro ⟨ok_nop, mo_nop⟩ (
  And.intro ⟨ok_null dX5_read_71 rfl, mo_push⟩ (
  And.intro ⟨ok_aret dX5_read_72 rfl (Or.inl ⟨_, rfl⟩), mo_aret⟩ (
  And.intro ⟨ok_new dX5_read_73 hclX6 inWX6 tyX6_ok (by decide) hdfX6 wd_754 wd_755 wd_9 rfl, mo_new⟩ (
  And.intro ⟨ok_nop, mo_nop⟩ (
  And.intro ⟨ok_nop, mo_nop⟩ (
  And.intro ⟨ok_dup dX5_read_76 rfl, mo_dup⟩ (
  And.intro ⟨ok_aload_n dX5_read_77 rfl rfl, mo_aload⟩ (
  And.intro ⟨ok_getI dX5_read_78 hclX5 inWX5 (by decide) (by decide) wd_160 (fun _ _ _ => rfl) rfl, mo_getI⟩ (
  And.intro ⟨ok_nop, mo_nop⟩ (
  trivial))))))))))))))))
theorem rX5_read_5 : am_allR (fun pc o => am_ok am_tb0 cX5_read RX5 1 (some (.object "DigFill$Text")) false pc o ∧ am_mo o) 80 (am_nth [] tX5_read 5) :=
  And.intro ⟨ok_nop, mo_nop⟩ (
  And.intro ⟨ok_aload_n dX5_read_81 rfl rfl, mo_aload⟩ (
  And.intro ⟨ok_getI dX5_read_82 hclX5 inWX5 (by decide) (by decide) wd_161 (fun _ _ _ => rfl) rfl, mo_getI⟩ (
  And.intro ⟨ok_nop, mo_nop⟩ (
  And.intro ⟨ok_nop, mo_nop⟩ (
  And.intro ⟨ok_aload_n dX5_read_85 rfl rfl, mo_aload⟩ (
  And.intro ⟨ok_getR dX5_read_86 hclX5 inWX5 (by decide) (by decide) wd_164 (fun _ _ _ => rfl) rfl, mo_getR⟩ (
  And.intro ⟨ok_nop, mo_nop⟩ (
  And.intro ⟨ok_nop, mo_nop⟩ (
  And.intro ⟨ok_aload_n dX5_read_89 rfl rfl, mo_aload⟩ (
  And.intro ⟨ok_getI dX5_read_90 hclX5 inWX5 (by decide) (by decide) wd_165 (fun _ _ _ => rfl) rfl, mo_getI⟩ (
  And.intro ⟨ok_nop, mo_nop⟩ (
  And.intro ⟨ok_nop, mo_nop⟩ (
  And.intro ⟨ok_cs (z := 218) dX5_read_93 wd_756 wd_757 wd_11 wd_758 rfl (by decide) hy_J7_copyOf_59c91 rfl, mo_cs⟩ (
  And.intro ⟨ok_nop, mo_nop⟩ (
  And.intro ⟨ok_nop, mo_nop⟩ (
  trivial))))))))))))))))
theorem rX5_read_6 : am_allR (fun pc o => am_ok am_tb0 cX5_read RX5 1 (some (.object "DigFill$Text")) false pc o ∧ am_mo o) 96 (am_nth [] tX5_read 6) :=
  And.intro ⟨ok_ci (z := 57) dX5_read_96 (by decide) wd_768 wd_769 wd_9 wd_770 rfl (by decide) rfl rfl hy_X6_init rfl, mo_cv⟩ (
  And.intro ⟨ok_nop, mo_nop⟩ (
  And.intro ⟨ok_nop, mo_nop⟩ (
  And.intro ⟨ok_aret dX5_read_99 rfl (Or.inl ⟨_, rfl⟩), mo_aret⟩ (
  And.intro ⟨ok_nop, mo_nop⟩ (
  And.intro ⟨ok_nop, mo_nop⟩ (
  And.intro ⟨ok_nop, mo_nop⟩ (
  And.intro ⟨ok_nop, mo_nop⟩ (
  And.intro ⟨ok_nop, mo_nop⟩ (
  And.intro ⟨ok_nop, mo_nop⟩ (
  And.intro ⟨ok_nop, mo_nop⟩ (
  And.intro ⟨ok_nop, mo_nop⟩ (
  And.intro ⟨ok_nop, mo_nop⟩ (
  And.intro ⟨ok_nop, mo_nop⟩ (
  And.intro ⟨ok_nop, mo_nop⟩ (
  And.intro ⟨ok_nop, mo_nop⟩ (
  trivial))))))))))))))))
theorem kX5_read : am_M1 am_tb0 cX5_read RX5 1 (some (.object "DigFill$Text")) false tX5_read := And.intro rX5_read_0 (And.intro rX5_read_1 (And.intro rX5_read_2 (And.intro rX5_read_3 (And.intro rX5_read_4 (And.intro rX5_read_5 (And.intro rX5_read_6 (trivial)))))))
def tX5_step : List (List am_Op) := [[o_aload 0 1, o_getI 5 11 4 4, am_nop, am_nop, o_push (.int 256) 7, am_nop, am_nop, o_icmp (fun x y => x = y) 20 10, am_nop, am_nop, o_aload 0 11, o_getI 5 11 4 14, am_nop, am_nop, o_push (.int 257) 17, am_nop],
  [am_nop, o_icmp (fun x y => ¬ x = y) 24 20, am_nop, am_nop, o_push (.int 1) 21, o_goto 25, am_nop, am_nop, o_push (.int 0) 25, o_istore 1 26, o_aload 0 27, o_getI 5 11 3 30, am_nop, am_nop, o_istore 2 31, o_aload 0 32],
  [o_aload 0 33, o_getI 5 11 3 36, am_nop, am_nop, o_putI 5 11 2 39, am_nop, am_nop, o_aload 0 40, o_getI 5 11 2 43, am_nop, am_nop, o_aload 0 44, o_getI 5 11 1 47, am_nop, am_nop, o_icmp (fun x y => y ≤ x) 77 50],
  [am_nop, am_nop, o_aload 0 51, o_getR 5 11 0 54, am_nop, am_nop, o_aload 0 55, o_getI 5 11 2 58, am_nop, am_nop, o_iald 20 59, o_push (.int 32) 61, am_nop, o_icmp (fun x y => ¬ x = y) 77 64, am_nop, am_nop],
  [o_aload 0 65, o_dup 66, o_getI 5 11 2 69, am_nop, am_nop, o_push (.int 1) 70, o_bin (fun x y => x + y) 71, o_putI 5 11 2 74, am_nop, am_nop, o_goto 39, am_nop, am_nop, o_aload 0 78, o_aload 0 79, o_getI 5 11 2 82],
  [am_nop, am_nop, o_putI 5 11 3 85, am_nop, am_nop, o_aload 0 86, o_getI 5 11 2 89, am_nop, am_nop, o_aload 0 90, o_getI 5 11 1 93, am_nop, am_nop, o_icmp (fun x y => x < y) 102 96, am_nop, am_nop],
  [o_aload 0 97, o_push (.int (-1)) 98, o_putI 5 11 4 101, am_nop, am_nop, o_ret, o_aload 0 103, o_aload 0 104, o_getR 5 11 0 107, am_nop, am_nop, o_aload 0 108, o_getI 5 11 2 111, am_nop, am_nop, o_iald 20 112],
  [o_cs 44 1 0 1 115, am_nop, am_nop, o_putI 5 11 4 118, am_nop, am_nop, o_aload 0 119, o_aload 0 120, o_getI 5 11 2 123, am_nop, am_nop, o_push (.int 1) 124, o_bin (fun x y => x + y) 125, o_putI 5 11 3 128, am_nop, am_nop],
  [o_aload 0 129, o_getI 5 11 4 132, am_nop, am_nop, o_push (.int 256) 135, am_nop, am_nop, o_icmp (fun x y => x = y) 149 138, am_nop, am_nop, o_aload 0 139, o_getI 5 11 4 142, am_nop, am_nop, o_push (.int 257) 145, am_nop],
  [am_nop, o_icmp (fun x y => x = y) 149 148, am_nop, am_nop, o_ret, o_aload 0 150, o_getI 5 11 3 153, am_nop, am_nop, o_aload 0 154, o_getI 5 11 1 157, am_nop, am_nop, o_icmp (fun x y => y ≤ x) 192 160, am_nop, am_nop],
  [o_aload 0 161, o_getR 5 11 0 164, am_nop, am_nop, o_aload 0 165, o_getI 5 11 3 168, am_nop, am_nop, o_iald 20 169, o_cs 44 1 0 1 172, am_nop, am_nop, o_aload 0 173, o_getI 5 11 4 176, am_nop, am_nop],
  [o_icmp (fun x y => ¬ x = y) 192 179, am_nop, am_nop, o_aload 0 180, o_dup 181, o_getI 5 11 3 184, am_nop, am_nop, o_push (.int 1) 185, o_bin (fun x y => x + y) 186, o_putI 5 11 3 189, am_nop, am_nop, o_goto 149, am_nop, am_nop],
  [o_iload 1 193, o_if (fun x => x = 0) 211 196, am_nop, am_nop, o_aload 0 197, o_getI 5 11 2 200, am_nop, am_nop, o_iload 2 201, o_icmp (fun x y => ¬ x = y) 211 204, am_nop, am_nop, o_aload 0 205, o_push (.int 258) 208, am_nop, am_nop],
  [o_putI 5 11 4 211, am_nop, am_nop, o_ret, am_nop, am_nop, am_nop, am_nop, am_nop, am_nop, am_nop, am_nop, am_nop, am_nop, am_nop, am_nop]]
theorem rX5_step_0 : am_allR (fun pc o => am_ok am_tb0 cX5_step RX5 3 none false pc o ∧ am_mo o) 0 (am_nth [] tX5_step 0) :=
  And.intro ⟨ok_aload_n dX5_step_0 rfl rfl, mo_aload⟩ (
  And.intro ⟨ok_getI dX5_step_1 hclX5 inWX5 (by decide) (by decide) wd_159 (fun _ _ _ => rfl) rfl, mo_getI⟩ (
  And.intro ⟨ok_nop, mo_nop⟩ (
  And.intro ⟨ok_nop, mo_nop⟩ (
  And.intro ⟨ok_sipush dX5_step_4 rfl si_256, mo_push⟩ (
  And.intro ⟨ok_nop, mo_nop⟩ (
  And.intro ⟨ok_nop, mo_nop⟩ (
  And.intro ⟨ok_icmp_eq dX5_step_7 (by decide) rfl, mo_icmp⟩ (
  And.intro ⟨ok_nop, mo_nop⟩ (
  And.intro ⟨ok_nop, mo_nop⟩ (
  And.intro ⟨ok_aload_n dX5_step_10 rfl rfl, mo_aload⟩ (
  And.intro ⟨ok_getI dX5_step_11 hclX5 inWX5 (by decide) (by decide) wd_159 (fun _ _ _ => rfl) rfl, mo_getI⟩ (
  And.intro ⟨ok_nop, mo_nop⟩ (
  And.intro ⟨ok_nop, mo_nop⟩ (
  And.intro ⟨ok_sipush dX5_step_14 rfl si_257, mo_push⟩ (
  And.intro ⟨ok_nop, mo_nop⟩ (
  trivial))))))))))))))))
theorem rX5_step_1 : am_allR (fun pc o => am_ok am_tb0 cX5_step RX5 3 none false pc o ∧ am_mo o) 16 (am_nth [] tX5_step 1) :=
  And.intro ⟨ok_nop, mo_nop⟩ (
  And.intro ⟨ok_icmp_ne dX5_step_17 (by decide) rfl, mo_icmp⟩ (
  And.intro ⟨ok_nop, mo_nop⟩ (
  And.intro ⟨ok_nop, mo_nop⟩ (
  And.intro ⟨ok_iconst dX5_step_20 rfl ic_1, mo_push⟩ (
  And.intro ⟨ok_goto dX5_step_21 (by decide), mo_goto⟩ (
  And.intro ⟨ok_nop, mo_nop⟩ (
  And.intro ⟨ok_nop, mo_nop⟩ (
  And.intro ⟨ok_iconst dX5_step_24 rfl ic_0, mo_push⟩ (
  And.intro ⟨ok_istore_n dX5_step_25 rfl (by decide) rfl, mo_istore⟩ (
  And.intro ⟨ok_aload_n dX5_step_26 rfl rfl, mo_aload⟩ (
  And.intro ⟨ok_getI dX5_step_27 hclX5 inWX5 (by decide) (by decide) wd_158 (fun _ _ _ => rfl) rfl, mo_getI⟩ (
  And.intro ⟨ok_nop, mo_nop⟩ (
  And.intro ⟨ok_nop, mo_nop⟩ (
  And.intro ⟨ok_istore_n dX5_step_30 rfl (by decide) rfl, mo_istore⟩ (
  And.intro ⟨ok_aload_n dX5_step_31 rfl rfl, mo_aload⟩ (
  trivial))))))))))))))))
theorem rX5_step_2 : am_allR (fun pc o => am_ok am_tb0 cX5_step RX5 3 none false pc o ∧ am_mo o) 32 (am_nth [] tX5_step 2) :=
  And.intro ⟨ok_aload_n dX5_step_32 rfl rfl, mo_aload⟩ (
  And.intro ⟨ok_getI dX5_step_33 hclX5 inWX5 (by decide) (by decide) wd_158 (fun _ _ _ => rfl) rfl, mo_getI⟩ (
  And.intro ⟨ok_nop, mo_nop⟩ (
  And.intro ⟨ok_nop, mo_nop⟩ (
  And.intro ⟨ok_putI dX5_step_36 hclX5 inWX5 tyX5_ok nmX5 (by decide) (by decide) wd_156 rfl (tyX5_ok 2 (by decide)) (fun _ _ _ => rfl) rfl, mo_putI⟩ (
  And.intro ⟨ok_nop, mo_nop⟩ (
  And.intro ⟨ok_nop, mo_nop⟩ (
  And.intro ⟨ok_aload_n dX5_step_39 rfl rfl, mo_aload⟩ (
  And.intro ⟨ok_getI dX5_step_40 hclX5 inWX5 (by decide) (by decide) wd_156 (fun _ _ _ => rfl) rfl, mo_getI⟩ (
  And.intro ⟨ok_nop, mo_nop⟩ (
  And.intro ⟨ok_nop, mo_nop⟩ (
  And.intro ⟨ok_aload_n dX5_step_43 rfl rfl, mo_aload⟩ (
  And.intro ⟨ok_getI dX5_step_44 hclX5 inWX5 (by decide) (by decide) wd_154 (fun _ _ _ => rfl) rfl, mo_getI⟩ (
  And.intro ⟨ok_nop, mo_nop⟩ (
  And.intro ⟨ok_nop, mo_nop⟩ (
  And.intro ⟨ok_icmp_ge dX5_step_47 (by decide) rfl, mo_icmp⟩ (
  trivial))))))))))))))))
theorem rX5_step_3 : am_allR (fun pc o => am_ok am_tb0 cX5_step RX5 3 none false pc o ∧ am_mo o) 48 (am_nth [] tX5_step 3) :=
  And.intro ⟨ok_nop, mo_nop⟩ (
  And.intro ⟨ok_nop, mo_nop⟩ (
  And.intro ⟨ok_aload_n dX5_step_50 rfl rfl, mo_aload⟩ (
  And.intro ⟨ok_getR dX5_step_51 hclX5 inWX5 (by decide) (by decide) wd_153 (fun _ _ _ => rfl) rfl, mo_getR⟩ (
  And.intro ⟨ok_nop, mo_nop⟩ (
  And.intro ⟨ok_nop, mo_nop⟩ (
  And.intro ⟨ok_aload_n dX5_step_54 rfl rfl, mo_aload⟩ (
  And.intro ⟨ok_getI dX5_step_55 hclX5 inWX5 (by decide) (by decide) wd_156 (fun _ _ _ => rfl) rfl, mo_getI⟩ (
  And.intro ⟨ok_nop, mo_nop⟩ (
  And.intro ⟨ok_nop, mo_nop⟩ (
  And.intro ⟨ok_iald dX5_step_58 rfl, mo_iald⟩ (
  And.intro ⟨ok_bipush dX5_step_59 rfl bi_32, mo_push⟩ (
  And.intro ⟨ok_nop, mo_nop⟩ (
  And.intro ⟨ok_icmp_ne dX5_step_61 (by decide) rfl, mo_icmp⟩ (
  And.intro ⟨ok_nop, mo_nop⟩ (
  And.intro ⟨ok_nop, mo_nop⟩ (
  trivial))))))))))))))))
theorem rX5_step_4 : am_allR (fun pc o => am_ok am_tb0 cX5_step RX5 3 none false pc o ∧ am_mo o) 64 (am_nth [] tX5_step 4) :=
  And.intro ⟨ok_aload_n dX5_step_64 rfl rfl, mo_aload⟩ (
  And.intro ⟨ok_dup dX5_step_65 rfl, mo_dup⟩ (
  And.intro ⟨ok_getI dX5_step_66 hclX5 inWX5 (by decide) (by decide) wd_156 (fun _ _ _ => rfl) rfl, mo_getI⟩ (
  And.intro ⟨ok_nop, mo_nop⟩ (
  And.intro ⟨ok_nop, mo_nop⟩ (
  And.intro ⟨ok_iconst dX5_step_69 rfl ic_1, mo_push⟩ (
  And.intro ⟨ok_iadd dX5_step_70 rfl, mo_bin⟩ (
  And.intro ⟨ok_putI dX5_step_71 hclX5 inWX5 tyX5_ok nmX5 (by decide) (by decide) wd_156 rfl (tyX5_ok 2 (by decide)) (fun _ _ _ => rfl) rfl, mo_putI⟩ (
  And.intro ⟨ok_nop, mo_nop⟩ (
  And.intro ⟨ok_nop, mo_nop⟩ (
  And.intro ⟨ok_goto dX5_step_74 (by decide), mo_goto⟩ (
  And.intro ⟨ok_nop, mo_nop⟩ (
  And.intro ⟨ok_nop, mo_nop⟩ (
  And.intro ⟨ok_aload_n dX5_step_77 rfl rfl, mo_aload⟩ (
  And.intro ⟨ok_aload_n dX5_step_78 rfl rfl, mo_aload⟩ (
  And.intro ⟨ok_getI dX5_step_79 hclX5 inWX5 (by decide) (by decide) wd_156 (fun _ _ _ => rfl) rfl, mo_getI⟩ (
  trivial))))))))))))))))
theorem rX5_step_5 : am_allR (fun pc o => am_ok am_tb0 cX5_step RX5 3 none false pc o ∧ am_mo o) 80 (am_nth [] tX5_step 5) :=
  And.intro ⟨ok_nop, mo_nop⟩ (
  And.intro ⟨ok_nop, mo_nop⟩ (
  And.intro ⟨ok_putI dX5_step_82 hclX5 inWX5 tyX5_ok nmX5 (by decide) (by decide) wd_158 rfl (tyX5_ok 3 (by decide)) (fun _ _ _ => rfl) rfl, mo_putI⟩ (
  And.intro ⟨ok_nop, mo_nop⟩ (
  And.intro ⟨ok_nop, mo_nop⟩ (
  And.intro ⟨ok_aload_n dX5_step_85 rfl rfl, mo_aload⟩ (
  And.intro ⟨ok_getI dX5_step_86 hclX5 inWX5 (by decide) (by decide) wd_156 (fun _ _ _ => rfl) rfl, mo_getI⟩ (
  And.intro ⟨ok_nop, mo_nop⟩ (
  And.intro ⟨ok_nop, mo_nop⟩ (
  And.intro ⟨ok_aload_n dX5_step_89 rfl rfl, mo_aload⟩ (
  And.intro ⟨ok_getI dX5_step_90 hclX5 inWX5 (by decide) (by decide) wd_154 (fun _ _ _ => rfl) rfl, mo_getI⟩ (
  And.intro ⟨ok_nop, mo_nop⟩ (
  And.intro ⟨ok_nop, mo_nop⟩ (
  And.intro ⟨ok_icmp_lt dX5_step_93 (by decide) rfl, mo_icmp⟩ (
  And.intro ⟨ok_nop, mo_nop⟩ (
  And.intro ⟨ok_nop, mo_nop⟩ (
  trivial))))))))))))))))
theorem rX5_step_6 : am_allR (fun pc o => am_ok am_tb0 cX5_step RX5 3 none false pc o ∧ am_mo o) 96 (am_nth [] tX5_step 6) :=
  And.intro ⟨ok_aload_n dX5_step_96 rfl rfl, mo_aload⟩ (
  And.intro ⟨ok_iconst dX5_step_97 rfl ic_m1, mo_push⟩ (
  And.intro ⟨ok_putI dX5_step_98 hclX5 inWX5 tyX5_ok nmX5 (by decide) (by decide) wd_159 rfl (tyX5_ok 4 (by decide)) (fun _ _ _ => rfl) rfl, mo_putI⟩ (
  And.intro ⟨ok_nop, mo_nop⟩ (
  And.intro ⟨ok_nop, mo_nop⟩ (
  And.intro ⟨ok_ret dX5_step_101 rfl, mo_ret⟩ (
  And.intro ⟨ok_aload_n dX5_step_102 rfl rfl, mo_aload⟩ (
  And.intro ⟨ok_aload_n dX5_step_103 rfl rfl, mo_aload⟩ (
  And.intro ⟨ok_getR dX5_step_104 hclX5 inWX5 (by decide) (by decide) wd_153 (fun _ _ _ => rfl) rfl, mo_getR⟩ (
  And.intro ⟨ok_nop, mo_nop⟩ (
  And.intro ⟨ok_nop, mo_nop⟩ (
  And.intro ⟨ok_aload_n dX5_step_107 rfl rfl, mo_aload⟩ (
  And.intro ⟨ok_getI dX5_step_108 hclX5 inWX5 (by decide) (by decide) wd_156 (fun _ _ _ => rfl) rfl, mo_getI⟩ (
  And.intro ⟨ok_nop, mo_nop⟩ (
  And.intro ⟨ok_nop, mo_nop⟩ (
  And.intro ⟨ok_iald dX5_step_111 rfl, mo_iald⟩ (
  trivial))))))))))))))))
theorem rX5_step_7 : am_allR (fun pc o => am_ok am_tb0 cX5_step RX5 3 none false pc o ∧ am_mo o) 112 (am_nth [] tX5_step 7) :=
  And.intro ⟨ok_cs (z := 44) dX5_step_112 wd_595 wd_596 wd_5 wd_597 rfl (by decide) hy_X5_sortOf rfl, mo_cs⟩ (
  And.intro ⟨ok_nop, mo_nop⟩ (
  And.intro ⟨ok_nop, mo_nop⟩ (
  And.intro ⟨ok_putI dX5_step_115 hclX5 inWX5 tyX5_ok nmX5 (by decide) (by decide) wd_159 rfl (tyX5_ok 4 (by decide)) (fun _ _ _ => rfl) rfl, mo_putI⟩ (
  And.intro ⟨ok_nop, mo_nop⟩ (
  And.intro ⟨ok_nop, mo_nop⟩ (
  And.intro ⟨ok_aload_n dX5_step_118 rfl rfl, mo_aload⟩ (
  And.intro ⟨ok_aload_n dX5_step_119 rfl rfl, mo_aload⟩ (
  And.intro ⟨ok_getI dX5_step_120 hclX5 inWX5 (by decide) (by decide) wd_156 (fun _ _ _ => rfl) rfl, mo_getI⟩ (
  And.intro ⟨ok_nop, mo_nop⟩ (
  And.intro ⟨ok_nop, mo_nop⟩ (
  And.intro ⟨ok_iconst dX5_step_123 rfl ic_1, mo_push⟩ (
  And.intro ⟨ok_iadd dX5_step_124 rfl, mo_bin⟩ (
  And.intro ⟨ok_putI dX5_step_125 hclX5 inWX5 tyX5_ok nmX5 (by decide) (by decide) wd_158 rfl (tyX5_ok 3 (by decide)) (fun _ _ _ => rfl) rfl, mo_putI⟩ (
  And.intro ⟨ok_nop, mo_nop⟩ (
  And.intro ⟨ok_nop, mo_nop⟩ (
  trivial))))))))))))))))
theorem rX5_step_8 : am_allR (fun pc o => am_ok am_tb0 cX5_step RX5 3 none false pc o ∧ am_mo o) 128 (am_nth [] tX5_step 8) :=
  And.intro ⟨ok_aload_n dX5_step_128 rfl rfl, mo_aload⟩ (
  And.intro ⟨ok_getI dX5_step_129 hclX5 inWX5 (by decide) (by decide) wd_159 (fun _ _ _ => rfl) rfl, mo_getI⟩ (
  And.intro ⟨ok_nop, mo_nop⟩ (
  And.intro ⟨ok_nop, mo_nop⟩ (
  And.intro ⟨ok_sipush dX5_step_132 rfl si_256, mo_push⟩ (
  And.intro ⟨ok_nop, mo_nop⟩ (
  And.intro ⟨ok_nop, mo_nop⟩ (
  And.intro ⟨ok_icmp_eq dX5_step_135 (by decide) rfl, mo_icmp⟩ (
  And.intro ⟨ok_nop, mo_nop⟩ (
  And.intro ⟨ok_nop, mo_nop⟩ (
  And.intro ⟨ok_aload_n dX5_step_138 rfl rfl, mo_aload⟩ (
  And.intro ⟨ok_getI dX5_step_139 hclX5 inWX5 (by decide) (by decide) wd_159 (fun _ _ _ => rfl) rfl, mo_getI⟩ (
  And.intro ⟨ok_nop, mo_nop⟩ (
  And.intro ⟨ok_nop, mo_nop⟩ (
  And.intro ⟨ok_sipush dX5_step_142 rfl si_257, mo_push⟩ (
  And.intro ⟨ok_nop, mo_nop⟩ (
  trivial))))))))))))))))
theorem rX5_step_9 : am_allR (fun pc o => am_ok am_tb0 cX5_step RX5 3 none false pc o ∧ am_mo o) 144 (am_nth [] tX5_step 9) :=
  And.intro ⟨ok_nop, mo_nop⟩ (
  And.intro ⟨ok_icmp_eq dX5_step_145 (by decide) rfl, mo_icmp⟩ (
  And.intro ⟨ok_nop, mo_nop⟩ (
  And.intro ⟨ok_nop, mo_nop⟩ (
  And.intro ⟨ok_ret dX5_step_148 rfl, mo_ret⟩ (
  And.intro ⟨ok_aload_n dX5_step_149 rfl rfl, mo_aload⟩ (
  And.intro ⟨ok_getI dX5_step_150 hclX5 inWX5 (by decide) (by decide) wd_158 (fun _ _ _ => rfl) rfl, mo_getI⟩ (
  And.intro ⟨ok_nop, mo_nop⟩ (
  And.intro ⟨ok_nop, mo_nop⟩ (
  And.intro ⟨ok_aload_n dX5_step_153 rfl rfl, mo_aload⟩ (
  And.intro ⟨ok_getI dX5_step_154 hclX5 inWX5 (by decide) (by decide) wd_154 (fun _ _ _ => rfl) rfl, mo_getI⟩ (
  And.intro ⟨ok_nop, mo_nop⟩ (
  And.intro ⟨ok_nop, mo_nop⟩ (
  And.intro ⟨ok_icmp_ge dX5_step_157 (by decide) rfl, mo_icmp⟩ (
  And.intro ⟨ok_nop, mo_nop⟩ (
  And.intro ⟨ok_nop, mo_nop⟩ (
  trivial))))))))))))))))
theorem rX5_step_10 : am_allR (fun pc o => am_ok am_tb0 cX5_step RX5 3 none false pc o ∧ am_mo o) 160 (am_nth [] tX5_step 10) :=
  And.intro ⟨ok_aload_n dX5_step_160 rfl rfl, mo_aload⟩ (
  And.intro ⟨ok_getR dX5_step_161 hclX5 inWX5 (by decide) (by decide) wd_153 (fun _ _ _ => rfl) rfl, mo_getR⟩ (
  And.intro ⟨ok_nop, mo_nop⟩ (
  And.intro ⟨ok_nop, mo_nop⟩ (
  And.intro ⟨ok_aload_n dX5_step_164 rfl rfl, mo_aload⟩ (
  And.intro ⟨ok_getI dX5_step_165 hclX5 inWX5 (by decide) (by decide) wd_158 (fun _ _ _ => rfl) rfl, mo_getI⟩ (
  And.intro ⟨ok_nop, mo_nop⟩ (
  And.intro ⟨ok_nop, mo_nop⟩ (
  And.intro ⟨ok_iald dX5_step_168 rfl, mo_iald⟩ (
  And.intro ⟨ok_cs (z := 44) dX5_step_169 wd_595 wd_596 wd_5 wd_597 rfl (by decide) hy_X5_sortOf rfl, mo_cs⟩ (
  And.intro ⟨ok_nop, mo_nop⟩ (
  And.intro ⟨ok_nop, mo_nop⟩ (
  And.intro ⟨ok_aload_n dX5_step_172 rfl rfl, mo_aload⟩ (
  And.intro ⟨ok_getI dX5_step_173 hclX5 inWX5 (by decide) (by decide) wd_159 (fun _ _ _ => rfl) rfl, mo_getI⟩ (
  And.intro ⟨ok_nop, mo_nop⟩ (
  And.intro ⟨ok_nop, mo_nop⟩ (
  trivial))))))))))))))))
theorem rX5_step_11 : am_allR (fun pc o => am_ok am_tb0 cX5_step RX5 3 none false pc o ∧ am_mo o) 176 (am_nth [] tX5_step 11) :=
  And.intro ⟨ok_icmp_ne dX5_step_176 (by decide) rfl, mo_icmp⟩ (
  And.intro ⟨ok_nop, mo_nop⟩ (
  And.intro ⟨ok_nop, mo_nop⟩ (
  And.intro ⟨ok_aload_n dX5_step_179 rfl rfl, mo_aload⟩ (
  And.intro ⟨ok_dup dX5_step_180 rfl, mo_dup⟩ (
  And.intro ⟨ok_getI dX5_step_181 hclX5 inWX5 (by decide) (by decide) wd_158 (fun _ _ _ => rfl) rfl, mo_getI⟩ (
  And.intro ⟨ok_nop, mo_nop⟩ (
  And.intro ⟨ok_nop, mo_nop⟩ (
  And.intro ⟨ok_iconst dX5_step_184 rfl ic_1, mo_push⟩ (
  And.intro ⟨ok_iadd dX5_step_185 rfl, mo_bin⟩ (
  And.intro ⟨ok_putI dX5_step_186 hclX5 inWX5 tyX5_ok nmX5 (by decide) (by decide) wd_158 rfl (tyX5_ok 3 (by decide)) (fun _ _ _ => rfl) rfl, mo_putI⟩ (
  And.intro ⟨ok_nop, mo_nop⟩ (
  And.intro ⟨ok_nop, mo_nop⟩ (
  And.intro ⟨ok_goto dX5_step_189 (by decide), mo_goto⟩ (
  And.intro ⟨ok_nop, mo_nop⟩ (
  And.intro ⟨ok_nop, mo_nop⟩ (
  trivial))))))))))))))))
theorem rX5_step_12 : am_allR (fun pc o => am_ok am_tb0 cX5_step RX5 3 none false pc o ∧ am_mo o) 192 (am_nth [] tX5_step 12) :=
  And.intro ⟨ok_iload_n dX5_step_192 rfl rfl, mo_iload⟩ (
  And.intro ⟨ok_if_eq dX5_step_193 (by decide) rfl, mo_if⟩ (
  And.intro ⟨ok_nop, mo_nop⟩ (
  And.intro ⟨ok_nop, mo_nop⟩ (
  And.intro ⟨ok_aload_n dX5_step_196 rfl rfl, mo_aload⟩ (
  And.intro ⟨ok_getI dX5_step_197 hclX5 inWX5 (by decide) (by decide) wd_156 (fun _ _ _ => rfl) rfl, mo_getI⟩ (
  And.intro ⟨ok_nop, mo_nop⟩ (
  And.intro ⟨ok_nop, mo_nop⟩ (
  And.intro ⟨ok_iload_n dX5_step_200 rfl rfl, mo_iload⟩ (
  And.intro ⟨ok_icmp_ne dX5_step_201 (by decide) rfl, mo_icmp⟩ (
  And.intro ⟨ok_nop, mo_nop⟩ (
  And.intro ⟨ok_nop, mo_nop⟩ (
  And.intro ⟨ok_aload_n dX5_step_204 rfl rfl, mo_aload⟩ (
  And.intro ⟨ok_sipush dX5_step_205 rfl si_258, mo_push⟩ (
  And.intro ⟨ok_nop, mo_nop⟩ (
  And.intro ⟨ok_nop, mo_nop⟩ (
  trivial))))))))))))))))
theorem rX5_step_13 : am_allR (fun pc o => am_ok am_tb0 cX5_step RX5 3 none false pc o ∧ am_mo o) 208 (am_nth [] tX5_step 13) :=
  And.intro ⟨ok_putI dX5_step_208 hclX5 inWX5 tyX5_ok nmX5 (by decide) (by decide) wd_159 rfl (tyX5_ok 4 (by decide)) (fun _ _ _ => rfl) rfl, mo_putI⟩ (
  And.intro ⟨ok_nop, mo_nop⟩ (
  And.intro ⟨ok_nop, mo_nop⟩ (
  And.intro ⟨ok_ret dX5_step_211 rfl, mo_ret⟩ (
  And.intro ⟨ok_nop, mo_nop⟩ (
  And.intro ⟨ok_nop, mo_nop⟩ (
  And.intro ⟨ok_nop, mo_nop⟩ (
  And.intro ⟨ok_nop, mo_nop⟩ (
  And.intro ⟨ok_nop, mo_nop⟩ (
  And.intro ⟨ok_nop, mo_nop⟩ (
  And.intro ⟨ok_nop, mo_nop⟩ (
  And.intro ⟨ok_nop, mo_nop⟩ (
  And.intro ⟨ok_nop, mo_nop⟩ (
  And.intro ⟨ok_nop, mo_nop⟩ (
  And.intro ⟨ok_nop, mo_nop⟩ (
  And.intro ⟨ok_nop, mo_nop⟩ (
  trivial))))))))))))))))
theorem kX5_step : am_M1 am_tb0 cX5_step RX5 3 none false tX5_step := And.intro rX5_step_0 (And.intro rX5_step_1 (And.intro rX5_step_2 (And.intro rX5_step_3 (And.intro rX5_step_4 (And.intro rX5_step_5 (And.intro rX5_step_6 (And.intro rX5_step_7 (And.intro rX5_step_8 (And.intro rX5_step_9 (And.intro rX5_step_10 (And.intro rX5_step_11 (And.intro rX5_step_12 (And.intro rX5_step_13 (trivial))))))))))))))
def tX5_sortOf : List (List am_Op) := [[o_iload 0 1, o_push (.int 97) 3, am_nop, o_icmp (fun x y => x < y) 16 6, am_nop, am_nop, o_iload 0 7, o_push (.int 122) 9, am_nop, o_icmp (fun x y => y < x) 16 12, am_nop, am_nop, o_push (.int 256) 15, am_nop, am_nop, o_iret],
  [o_iload 0 17, o_push (.int 48) 19, am_nop, o_icmp (fun x y => x < y) 34 22, am_nop, am_nop, o_iload 0 23, o_push (.int 57) 25, am_nop, o_icmp (fun x y => y < x) 34 28, am_nop, am_nop, o_push (.int 257) 31, am_nop, am_nop, o_goto 35],
  [am_nop, am_nop, o_iload 0 35, o_iret, am_nop, am_nop, am_nop, am_nop, am_nop, am_nop, am_nop, am_nop, am_nop, am_nop, am_nop, am_nop]]
theorem rX5_sortOf_0 : am_allR (fun pc o => am_ok am_tb0 cX5_sortOf RX5 1 (some .int) false pc o ∧ am_mo o) 0 (am_nth [] tX5_sortOf 0) :=
  And.intro ⟨ok_iload_n dX5_sortOf_0 rfl rfl, mo_iload⟩ (
  And.intro ⟨ok_bipush dX5_sortOf_1 rfl bi_97, mo_push⟩ (
  And.intro ⟨ok_nop, mo_nop⟩ (
  And.intro ⟨ok_icmp_lt dX5_sortOf_3 (by decide) rfl, mo_icmp⟩ (
  And.intro ⟨ok_nop, mo_nop⟩ (
  And.intro ⟨ok_nop, mo_nop⟩ (
  And.intro ⟨ok_iload_n dX5_sortOf_6 rfl rfl, mo_iload⟩ (
  And.intro ⟨ok_bipush dX5_sortOf_7 rfl bi_122, mo_push⟩ (
  And.intro ⟨ok_nop, mo_nop⟩ (
  And.intro ⟨ok_icmp_gt dX5_sortOf_9 (by decide) rfl, mo_icmp⟩ (
  And.intro ⟨ok_nop, mo_nop⟩ (
  And.intro ⟨ok_nop, mo_nop⟩ (
  And.intro ⟨ok_sipush dX5_sortOf_12 rfl si_256, mo_push⟩ (
  And.intro ⟨ok_nop, mo_nop⟩ (
  And.intro ⟨ok_nop, mo_nop⟩ (
  And.intro ⟨ok_iret dX5_sortOf_15 rfl, mo_iret⟩ (
  trivial))))))))))))))))
theorem rX5_sortOf_1 : am_allR (fun pc o => am_ok am_tb0 cX5_sortOf RX5 1 (some .int) false pc o ∧ am_mo o) 16 (am_nth [] tX5_sortOf 1) :=
  And.intro ⟨ok_iload_n dX5_sortOf_16 rfl rfl, mo_iload⟩ (
  And.intro ⟨ok_bipush dX5_sortOf_17 rfl bi_48, mo_push⟩ (
  And.intro ⟨ok_nop, mo_nop⟩ (
  And.intro ⟨ok_icmp_lt dX5_sortOf_19 (by decide) rfl, mo_icmp⟩ (
  And.intro ⟨ok_nop, mo_nop⟩ (
  And.intro ⟨ok_nop, mo_nop⟩ (
  And.intro ⟨ok_iload_n dX5_sortOf_22 rfl rfl, mo_iload⟩ (
  And.intro ⟨ok_bipush dX5_sortOf_23 rfl bi_57, mo_push⟩ (
  And.intro ⟨ok_nop, mo_nop⟩ (
  And.intro ⟨ok_icmp_gt dX5_sortOf_25 (by decide) rfl, mo_icmp⟩ (
  And.intro ⟨ok_nop, mo_nop⟩ (
  And.intro ⟨ok_nop, mo_nop⟩ (
  And.intro ⟨ok_sipush dX5_sortOf_28 rfl si_257, mo_push⟩ (
  And.intro ⟨ok_nop, mo_nop⟩ (
  And.intro ⟨ok_nop, mo_nop⟩ (
  And.intro ⟨ok_goto dX5_sortOf_31 (by decide), mo_goto⟩ (
  trivial))))))))))))))))
theorem rX5_sortOf_2 : am_allR (fun pc o => am_ok am_tb0 cX5_sortOf RX5 1 (some .int) false pc o ∧ am_mo o) 32 (am_nth [] tX5_sortOf 2) :=
  And.intro ⟨ok_nop, mo_nop⟩ (
  And.intro ⟨ok_nop, mo_nop⟩ (
  And.intro ⟨ok_iload_n dX5_sortOf_34 rfl rfl, mo_iload⟩ (
  And.intro ⟨ok_iret dX5_sortOf_35 rfl, mo_iret⟩ (
  And.intro ⟨ok_nop, mo_nop⟩ (
  And.intro ⟨ok_nop, mo_nop⟩ (
  And.intro ⟨ok_nop, mo_nop⟩ (
  And.intro ⟨ok_nop, mo_nop⟩ (
  And.intro ⟨ok_nop, mo_nop⟩ (
  And.intro ⟨ok_nop, mo_nop⟩ (
  And.intro ⟨ok_nop, mo_nop⟩ (
  And.intro ⟨ok_nop, mo_nop⟩ (
  And.intro ⟨ok_nop, mo_nop⟩ (
  And.intro ⟨ok_nop, mo_nop⟩ (
  And.intro ⟨ok_nop, mo_nop⟩ (
  And.intro ⟨ok_nop, mo_nop⟩ (
  trivial))))))))))))))))
theorem kX5_sortOf : am_M1 am_tb0 cX5_sortOf RX5 1 (some .int) false tX5_sortOf := And.intro rX5_sortOf_0 (And.intro rX5_sortOf_1 (And.intro rX5_sortOf_2 (trivial)))
def tX5_keyHere : List (List am_Op) := [[o_aload 0 1, o_push (.ref 1) 3, am_nop, o_cv 5 11 46 3 4 1 6, am_nop, am_nop, o_if (fun x => x = 0) 11 9, am_nop, am_nop, o_push (.int 0) 10, o_iret, o_aload 0 12, o_push (.ref 2) 14, am_nop, o_cv 5 11 46 3 4 1 17, am_nop],
  [am_nop, o_if (fun x => x = 0) 22 20, am_nop, am_nop, o_push (.int 1) 21, o_iret, o_aload 0 23, o_push (.ref 3) 25, am_nop, o_cv 5 11 46 3 4 1 28, am_nop, am_nop, o_if (fun x => x = 0) 35 31, am_nop, am_nop, o_push (.int 2) 32],
  [o_goto 36, am_nop, am_nop, o_push (.int (-1)) 36, o_iret, am_nop, am_nop, am_nop, am_nop, am_nop, am_nop, am_nop, am_nop, am_nop, am_nop, am_nop]]
theorem rX5_keyHere_0 : am_allR (fun pc o => am_ok am_tb0 cX5_keyHere RX5 1 (some .int) false pc o ∧ am_mo o) 0 (am_nth [] tX5_keyHere 0) :=
  And.intro ⟨ok_aload_n dX5_keyHere_0 rfl rfl, mo_aload⟩ (
  And.intro ⟨ok_ldcS (i := 0) dX5_keyHere_1 (by decide) rfl rfl, mo_push⟩ (
  And.intro ⟨ok_nop, mo_nop⟩ (
  And.intro ⟨ok_cv (z := 46) dX5_keyHere_3 hclX5 (by decide) wd_603 wd_605 wp_6 wd_5 wd_606 rfl (by decide) ⟨rfl, hy_X5_isHere⟩ rfl, mo_cv⟩ (
  And.intro ⟨ok_nop, mo_nop⟩ (
  And.intro ⟨ok_nop, mo_nop⟩ (
  And.intro ⟨ok_if_eq dX5_keyHere_6 (by decide) rfl, mo_if⟩ (
  And.intro ⟨ok_nop, mo_nop⟩ (
  And.intro ⟨ok_nop, mo_nop⟩ (
  And.intro ⟨ok_iconst dX5_keyHere_9 rfl ic_0, mo_push⟩ (
  And.intro ⟨ok_iret dX5_keyHere_10 rfl, mo_iret⟩ (
  And.intro ⟨ok_aload_n dX5_keyHere_11 rfl rfl, mo_aload⟩ (
  And.intro ⟨ok_ldcS (i := 1) dX5_keyHere_12 (by decide) rfl rfl, mo_push⟩ (
  And.intro ⟨ok_nop, mo_nop⟩ (
  And.intro ⟨ok_cv (z := 46) dX5_keyHere_14 hclX5 (by decide) wd_603 wd_605 wp_6 wd_5 wd_606 rfl (by decide) ⟨rfl, hy_X5_isHere⟩ rfl, mo_cv⟩ (
  And.intro ⟨ok_nop, mo_nop⟩ (
  trivial))))))))))))))))
theorem rX5_keyHere_1 : am_allR (fun pc o => am_ok am_tb0 cX5_keyHere RX5 1 (some .int) false pc o ∧ am_mo o) 16 (am_nth [] tX5_keyHere 1) :=
  And.intro ⟨ok_nop, mo_nop⟩ (
  And.intro ⟨ok_if_eq dX5_keyHere_17 (by decide) rfl, mo_if⟩ (
  And.intro ⟨ok_nop, mo_nop⟩ (
  And.intro ⟨ok_nop, mo_nop⟩ (
  And.intro ⟨ok_iconst dX5_keyHere_20 rfl ic_1, mo_push⟩ (
  And.intro ⟨ok_iret dX5_keyHere_21 rfl, mo_iret⟩ (
  And.intro ⟨ok_aload_n dX5_keyHere_22 rfl rfl, mo_aload⟩ (
  And.intro ⟨ok_ldcS (i := 2) dX5_keyHere_23 (by decide) rfl rfl, mo_push⟩ (
  And.intro ⟨ok_nop, mo_nop⟩ (
  And.intro ⟨ok_cv (z := 46) dX5_keyHere_25 hclX5 (by decide) wd_603 wd_605 wp_6 wd_5 wd_606 rfl (by decide) ⟨rfl, hy_X5_isHere⟩ rfl, mo_cv⟩ (
  And.intro ⟨ok_nop, mo_nop⟩ (
  And.intro ⟨ok_nop, mo_nop⟩ (
  And.intro ⟨ok_if_eq dX5_keyHere_28 (by decide) rfl, mo_if⟩ (
  And.intro ⟨ok_nop, mo_nop⟩ (
  And.intro ⟨ok_nop, mo_nop⟩ (
  And.intro ⟨ok_iconst dX5_keyHere_31 rfl ic_2, mo_push⟩ (
  trivial))))))))))))))))
theorem rX5_keyHere_2 : am_allR (fun pc o => am_ok am_tb0 cX5_keyHere RX5 1 (some .int) false pc o ∧ am_mo o) 32 (am_nth [] tX5_keyHere 2) :=
  And.intro ⟨ok_goto dX5_keyHere_32 (by decide), mo_goto⟩ (
  And.intro ⟨ok_nop, mo_nop⟩ (
  And.intro ⟨ok_nop, mo_nop⟩ (
  And.intro ⟨ok_iconst dX5_keyHere_35 rfl ic_m1, mo_push⟩ (
  And.intro ⟨ok_iret dX5_keyHere_36 rfl, mo_iret⟩ (
  And.intro ⟨ok_nop, mo_nop⟩ (
  And.intro ⟨ok_nop, mo_nop⟩ (
  And.intro ⟨ok_nop, mo_nop⟩ (
  And.intro ⟨ok_nop, mo_nop⟩ (
  And.intro ⟨ok_nop, mo_nop⟩ (
  And.intro ⟨ok_nop, mo_nop⟩ (
  And.intro ⟨ok_nop, mo_nop⟩ (
  And.intro ⟨ok_nop, mo_nop⟩ (
  And.intro ⟨ok_nop, mo_nop⟩ (
  And.intro ⟨ok_nop, mo_nop⟩ (
  And.intro ⟨ok_nop, mo_nop⟩ (
  trivial))))))))))))))))
theorem kX5_keyHere : am_M1 am_tb0 cX5_keyHere RX5 1 (some .int) false tX5_keyHere := And.intro rX5_keyHere_0 (And.intro rX5_keyHere_1 (And.intro rX5_keyHere_2 (trivial)))
def tX5_isHere : List (List am_Op) := [[o_aload 0 1, o_getI 5 11 4 4, am_nop, am_nop, o_push (.int 256) 7, am_nop, am_nop, o_icmp (fun x y => ¬ x = y) 26 10, am_nop, am_nop, o_aload 0 11, o_getI 5 11 3 14, am_nop, am_nop, o_aload 0 15, o_getI 5 11 2 18],
  [am_nop, am_nop, o_bin (fun x y => x - y) 19, o_aload 1 20, o_cv 40 0 205 1 1 0 23, am_nop, am_nop, o_icmp (fun x y => x = y) 28 26, am_nop, am_nop, o_push (.int 0) 27, o_nret .boolean, o_push (.int 0) 29, o_istore 2 30, o_iload 2 31, o_aload 1 32],
  [o_cv 40 0 205 1 1 0 35, am_nop, am_nop, o_icmp (fun x y => y ≤ x) 65 38, am_nop, am_nop, o_aload 0 39, o_getR 5 11 0 42, am_nop, am_nop, o_aload 0 43, o_getI 5 11 2 46, am_nop, am_nop, o_iload 2 47, o_bin (fun x y => x + y) 48],
  [o_iald 20 49, o_aload 1 50, o_iload 2 51, o_cv 40 0 206 2 3 1 54, am_nop, am_nop, o_icmp (fun x y => x = y) 59 57, am_nop, am_nop, o_push (.int 0) 58, o_nret .boolean, o_iinc 2 1 62, am_nop, am_nop, o_goto 30, am_nop],
  [am_nop, o_push (.int 1) 66, o_nret .boolean, am_nop, am_nop, am_nop, am_nop, am_nop, am_nop, am_nop, am_nop, am_nop, am_nop, am_nop, am_nop, am_nop]]
theorem rX5_isHere_0 : am_allR (fun pc o => am_ok am_tb0 cX5_isHere RX5 3 (some .boolean) false pc o ∧ am_mo o) 0 (am_nth [] tX5_isHere 0) :=
  And.intro ⟨ok_aload_n dX5_isHere_0 rfl rfl, mo_aload⟩ (
  And.intro ⟨ok_getI dX5_isHere_1 hclX5 inWX5 (by decide) (by decide) wd_159 (fun _ _ _ => rfl) rfl, mo_getI⟩ (
  And.intro ⟨ok_nop, mo_nop⟩ (
  And.intro ⟨ok_nop, mo_nop⟩ (
  And.intro ⟨ok_sipush dX5_isHere_4 rfl si_256, mo_push⟩ (
  And.intro ⟨ok_nop, mo_nop⟩ (
  And.intro ⟨ok_nop, mo_nop⟩ (
  And.intro ⟨ok_icmp_ne dX5_isHere_7 (by decide) rfl, mo_icmp⟩ (
  And.intro ⟨ok_nop, mo_nop⟩ (
  And.intro ⟨ok_nop, mo_nop⟩ (
  And.intro ⟨ok_aload_n dX5_isHere_10 rfl rfl, mo_aload⟩ (
  And.intro ⟨ok_getI dX5_isHere_11 hclX5 inWX5 (by decide) (by decide) wd_158 (fun _ _ _ => rfl) rfl, mo_getI⟩ (
  And.intro ⟨ok_nop, mo_nop⟩ (
  And.intro ⟨ok_nop, mo_nop⟩ (
  And.intro ⟨ok_aload_n dX5_isHere_14 rfl rfl, mo_aload⟩ (
  And.intro ⟨ok_getI dX5_isHere_15 hclX5 inWX5 (by decide) (by decide) wd_156 (fun _ _ _ => rfl) rfl, mo_getI⟩ (
  trivial))))))))))))))))
theorem rX5_isHere_1 : am_allR (fun pc o => am_ok am_tb0 cX5_isHere RX5 3 (some .boolean) false pc o ∧ am_mo o) 16 (am_nth [] tX5_isHere 1) :=
  And.intro ⟨ok_nop, mo_nop⟩ (
  And.intro ⟨ok_nop, mo_nop⟩ (
  And.intro ⟨ok_isub dX5_isHere_18 rfl, mo_bin⟩ (
  And.intro ⟨ok_aload_n dX5_isHere_19 rfl rfl, mo_aload⟩ (
  And.intro ⟨ok_cvS (z := 205) dX5_isHere_20 wd_607 wd_608 wd_609 wd_13 wd_610 rfl (by decide) ⟨rfl, hy_J0_length_8abf5⟩ rfl, mo_cv⟩ (
  And.intro ⟨ok_nop, mo_nop⟩ (
  And.intro ⟨ok_nop, mo_nop⟩ (
  And.intro ⟨ok_icmp_eq dX5_isHere_23 (by decide) rfl, mo_icmp⟩ (
  And.intro ⟨ok_nop, mo_nop⟩ (
  And.intro ⟨ok_nop, mo_nop⟩ (
  And.intro ⟨ok_iconst dX5_isHere_26 rfl ic_0, mo_push⟩ (
  And.intro ⟨ok_nret dX5_isHere_27 rfl, mo_nret⟩ (
  And.intro ⟨ok_iconst dX5_isHere_28 rfl ic_0, mo_push⟩ (
  And.intro ⟨ok_istore_n dX5_isHere_29 rfl (by decide) rfl, mo_istore⟩ (
  And.intro ⟨ok_iload_n dX5_isHere_30 rfl rfl, mo_iload⟩ (
  And.intro ⟨ok_aload_n dX5_isHere_31 rfl rfl, mo_aload⟩ (
  trivial))))))))))))))))
theorem rX5_isHere_2 : am_allR (fun pc o => am_ok am_tb0 cX5_isHere RX5 3 (some .boolean) false pc o ∧ am_mo o) 32 (am_nth [] tX5_isHere 2) :=
  And.intro ⟨ok_cvS (z := 205) dX5_isHere_32 wd_607 wd_608 wd_609 wd_13 wd_610 rfl (by decide) ⟨rfl, hy_J0_length_8abf5⟩ rfl, mo_cv⟩ (
  And.intro ⟨ok_nop, mo_nop⟩ (
  And.intro ⟨ok_nop, mo_nop⟩ (
  And.intro ⟨ok_icmp_ge dX5_isHere_35 (by decide) rfl, mo_icmp⟩ (
  And.intro ⟨ok_nop, mo_nop⟩ (
  And.intro ⟨ok_nop, mo_nop⟩ (
  And.intro ⟨ok_aload_n dX5_isHere_38 rfl rfl, mo_aload⟩ (
  And.intro ⟨ok_getR dX5_isHere_39 hclX5 inWX5 (by decide) (by decide) wd_153 (fun _ _ _ => rfl) rfl, mo_getR⟩ (
  And.intro ⟨ok_nop, mo_nop⟩ (
  And.intro ⟨ok_nop, mo_nop⟩ (
  And.intro ⟨ok_aload_n dX5_isHere_42 rfl rfl, mo_aload⟩ (
  And.intro ⟨ok_getI dX5_isHere_43 hclX5 inWX5 (by decide) (by decide) wd_156 (fun _ _ _ => rfl) rfl, mo_getI⟩ (
  And.intro ⟨ok_nop, mo_nop⟩ (
  And.intro ⟨ok_nop, mo_nop⟩ (
  And.intro ⟨ok_iload_n dX5_isHere_46 rfl rfl, mo_iload⟩ (
  And.intro ⟨ok_iadd dX5_isHere_47 rfl, mo_bin⟩ (
  trivial))))))))))))))))
theorem rX5_isHere_3 : am_allR (fun pc o => am_ok am_tb0 cX5_isHere RX5 3 (some .boolean) false pc o ∧ am_mo o) 48 (am_nth [] tX5_isHere 3) :=
  And.intro ⟨ok_iald dX5_isHere_48 rfl, mo_iald⟩ (
  And.intro ⟨ok_aload_n dX5_isHere_49 rfl rfl, mo_aload⟩ (
  And.intro ⟨ok_iload_n dX5_isHere_50 rfl rfl, mo_iload⟩ (
  And.intro ⟨ok_cvS (z := 206) dX5_isHere_51 wd_617 wd_618 wd_619 wd_13 wd_620 rfl (by decide) ⟨rfl, hy_J0_charAt_5068e⟩ rfl, mo_cv⟩ (
  And.intro ⟨ok_nop, mo_nop⟩ (
  And.intro ⟨ok_nop, mo_nop⟩ (
  And.intro ⟨ok_icmp_eq dX5_isHere_54 (by decide) rfl, mo_icmp⟩ (
  And.intro ⟨ok_nop, mo_nop⟩ (
  And.intro ⟨ok_nop, mo_nop⟩ (
  And.intro ⟨ok_iconst dX5_isHere_57 rfl ic_0, mo_push⟩ (
  And.intro ⟨ok_nret dX5_isHere_58 rfl, mo_nret⟩ (
  And.intro ⟨ok_iinc dX5_isHere_59 ic_1 (by decide) rfl, mo_iinc⟩ (
  And.intro ⟨ok_nop, mo_nop⟩ (
  And.intro ⟨ok_nop, mo_nop⟩ (
  And.intro ⟨ok_goto dX5_isHere_62 (by decide), mo_goto⟩ (
  And.intro ⟨ok_nop, mo_nop⟩ (
  trivial))))))))))))))))
theorem rX5_isHere_4 : am_allR (fun pc o => am_ok am_tb0 cX5_isHere RX5 3 (some .boolean) false pc o ∧ am_mo o) 64 (am_nth [] tX5_isHere 4) :=
  And.intro ⟨ok_nop, mo_nop⟩ (
  And.intro ⟨ok_iconst dX5_isHere_65 rfl ic_1, mo_push⟩ (
  And.intro ⟨ok_nret dX5_isHere_66 rfl, mo_nret⟩ (
  And.intro ⟨ok_nop, mo_nop⟩ (
  And.intro ⟨ok_nop, mo_nop⟩ (
  And.intro ⟨ok_nop, mo_nop⟩ (
  And.intro ⟨ok_nop, mo_nop⟩ (
  And.intro ⟨ok_nop, mo_nop⟩ (
  And.intro ⟨ok_nop, mo_nop⟩ (
  And.intro ⟨ok_nop, mo_nop⟩ (
  And.intro ⟨ok_nop, mo_nop⟩ (
  And.intro ⟨ok_nop, mo_nop⟩ (
  And.intro ⟨ok_nop, mo_nop⟩ (
  And.intro ⟨ok_nop, mo_nop⟩ (
  And.intro ⟨ok_nop, mo_nop⟩ (
  And.intro ⟨ok_nop, mo_nop⟩ (
  trivial))))))))))))))))
theorem kX5_isHere : am_M1 am_tb0 cX5_isHere RX5 3 (some .boolean) false tX5_isHere := And.intro rX5_isHere_0 (And.intro rX5_isHere_1 (And.intro rX5_isHere_2 (And.intro rX5_isHere_3 (And.intro rX5_isHere_4 (trivial)))))
def tX5_joinedBy : List (List am_Op) := [[o_aload 0 1, o_iload 1 2, o_cvr 5 11 48 2 1 5, am_nop, am_nop, o_if (fun x => ¬ x = 0) 10 8, am_nop, am_nop, o_push (.int 0) 9, o_nret .boolean, o_push (.int 0) 11, o_istore 2 12, o_iload 2 13, o_push (.int 96) 15, am_nop, o_icmp (fun x y => y ≤ x) 64 18],
  [am_nop, am_nop, o_aload 0 19, o_iload 1 20, o_cvp 5 11 49 2 0 1 23, am_nop, am_nop, o_if (fun x => x = 0) 64 26, am_nop, am_nop, o_aload 0 27, o_getI 5 11 4 30, am_nop, am_nop, o_istore 3 31, o_aload 0 32],
  [o_cvp 5 11 43 3 1 0 35, am_nop, am_nop, o_aload 0 36, o_iload 1 37, o_cvr 5 11 48 2 1 40, am_nop, am_nop, o_if (fun x => ¬ x = 0) 45 43, am_nop, am_nop, o_push (.int 0) 44, o_nret .boolean, o_aload 0 46, o_iload 3 47, o_un (fun x => -x) 48],
  [o_cvp 5 11 56 2 0 1 51, am_nop, am_nop, o_iload 1 52, o_push (.int 2) 53, o_icmp (fun x y => ¬ x = y) 58 56, am_nop, am_nop, o_push (.int 1) 57, o_nret .boolean, o_iinc 2 1 61, am_nop, am_nop, o_goto 12, am_nop, am_nop],
  [o_push (.int 1) 65, o_nret .boolean, am_nop, am_nop, am_nop, am_nop, am_nop, am_nop, am_nop, am_nop, am_nop, am_nop, am_nop, am_nop, am_nop, am_nop]]
theorem rX5_joinedBy_0 : am_allR (fun pc o => am_ok am_tb0 cX5_joinedBy RX5 4 (some .boolean) false pc o ∧ am_mo o) 0 (am_nth [] tX5_joinedBy 0) :=
  And.intro ⟨ok_aload_n dX5_joinedBy_0 rfl rfl, mo_aload⟩ (
  And.intro ⟨ok_iload_n dX5_joinedBy_1 rfl rfl, mo_iload⟩ (
  And.intro ⟨ok_cvr (z := 48) dX5_joinedBy_2 hclX5 (by decide) wd_661 wd_663 wp_8 wd_5 wd_664 rfl (by decide) ⟨rfl, hy_X5_partOf⟩ rfl, mo_cvr⟩ (
  And.intro ⟨ok_nop, mo_nop⟩ (
  And.intro ⟨ok_nop, mo_nop⟩ (
  And.intro ⟨ok_if_ne dX5_joinedBy_5 (by decide) rfl, mo_if⟩ (
  And.intro ⟨ok_nop, mo_nop⟩ (
  And.intro ⟨ok_nop, mo_nop⟩ (
  And.intro ⟨ok_iconst dX5_joinedBy_8 rfl ic_0, mo_push⟩ (
  And.intro ⟨ok_nret dX5_joinedBy_9 rfl, mo_nret⟩ (
  And.intro ⟨ok_iconst dX5_joinedBy_10 rfl ic_0, mo_push⟩ (
  And.intro ⟨ok_istore_n dX5_joinedBy_11 rfl (by decide) rfl, mo_istore⟩ (
  And.intro ⟨ok_iload_n dX5_joinedBy_12 rfl rfl, mo_iload⟩ (
  And.intro ⟨ok_bipush dX5_joinedBy_13 rfl bi_96, mo_push⟩ (
  And.intro ⟨ok_nop, mo_nop⟩ (
  And.intro ⟨ok_icmp_ge dX5_joinedBy_15 (by decide) rfl, mo_icmp⟩ (
  trivial))))))))))))))))
theorem rX5_joinedBy_1 : am_allR (fun pc o => am_ok am_tb0 cX5_joinedBy RX5 4 (some .boolean) false pc o ∧ am_mo o) 16 (am_nth [] tX5_joinedBy 1) :=
  And.intro ⟨ok_nop, mo_nop⟩ (
  And.intro ⟨ok_nop, mo_nop⟩ (
  And.intro ⟨ok_aload_n dX5_joinedBy_18 rfl rfl, mo_aload⟩ (
  And.intro ⟨ok_iload_n dX5_joinedBy_19 rfl rfl, mo_iload⟩ (
  And.intro ⟨ok_cvp (z := 49) dX5_joinedBy_20 hclX5 (by decide) wd_750 wd_752 wp_15 wd_5 wd_753 rfl (by decide) ⟨rfl, hy_X5_joins⟩ rfl, mo_cvp⟩ (
  And.intro ⟨ok_nop, mo_nop⟩ (
  And.intro ⟨ok_nop, mo_nop⟩ (
  And.intro ⟨ok_if_eq dX5_joinedBy_23 (by decide) rfl, mo_if⟩ (
  And.intro ⟨ok_nop, mo_nop⟩ (
  And.intro ⟨ok_nop, mo_nop⟩ (
  And.intro ⟨ok_aload_n dX5_joinedBy_26 rfl rfl, mo_aload⟩ (
  And.intro ⟨ok_getI dX5_joinedBy_27 hclX5 inWX5 (by decide) (by decide) wd_159 (fun _ _ _ => rfl) rfl, mo_getI⟩ (
  And.intro ⟨ok_nop, mo_nop⟩ (
  And.intro ⟨ok_nop, mo_nop⟩ (
  And.intro ⟨ok_istore_n dX5_joinedBy_30 rfl (by decide) rfl, mo_istore⟩ (
  And.intro ⟨ok_aload_n dX5_joinedBy_31 rfl rfl, mo_aload⟩ (
  trivial))))))))))))))))
theorem rX5_joinedBy_2 : am_allR (fun pc o => am_ok am_tb0 cX5_joinedBy RX5 4 (some .boolean) false pc o ∧ am_mo o) 32 (am_nth [] tX5_joinedBy 2) :=
  And.intro ⟨ok_cvp (z := 43) dX5_joinedBy_32 hclX5 (by decide) wd_591 wd_593 wp_4 wd_5 wd_594 rfl (by decide) ⟨rfl, hy_X5_step⟩ rfl, mo_cvp⟩ (
  And.intro ⟨ok_nop, mo_nop⟩ (
  And.intro ⟨ok_nop, mo_nop⟩ (
  And.intro ⟨ok_aload_n dX5_joinedBy_35 rfl rfl, mo_aload⟩ (
  And.intro ⟨ok_iload_n dX5_joinedBy_36 rfl rfl, mo_iload⟩ (
  And.intro ⟨ok_cvr (z := 48) dX5_joinedBy_37 hclX5 (by decide) wd_661 wd_663 wp_8 wd_5 wd_664 rfl (by decide) ⟨rfl, hy_X5_partOf⟩ rfl, mo_cvr⟩ (
  And.intro ⟨ok_nop, mo_nop⟩ (
  And.intro ⟨ok_nop, mo_nop⟩ (
  And.intro ⟨ok_if_ne dX5_joinedBy_40 (by decide) rfl, mo_if⟩ (
  And.intro ⟨ok_nop, mo_nop⟩ (
  And.intro ⟨ok_nop, mo_nop⟩ (
  And.intro ⟨ok_iconst dX5_joinedBy_43 rfl ic_0, mo_push⟩ (
  And.intro ⟨ok_nret dX5_joinedBy_44 rfl, mo_nret⟩ (
  And.intro ⟨ok_aload_n dX5_joinedBy_45 rfl rfl, mo_aload⟩ (
  And.intro ⟨ok_iload_n dX5_joinedBy_46 rfl rfl, mo_iload⟩ (
  And.intro ⟨ok_ineg dX5_joinedBy_47 rfl, mo_un⟩ (
  trivial))))))))))))))))
theorem rX5_joinedBy_3 : am_allR (fun pc o => am_ok am_tb0 cX5_joinedBy RX5 4 (some .boolean) false pc o ∧ am_mo o) 48 (am_nth [] tX5_joinedBy 3) :=
  And.intro ⟨ok_cvp (z := 56) dX5_joinedBy_48 hclX5 (by decide) wd_673 wd_675 wp_11 wd_5 wd_676 rfl (by decide) ⟨rfl, hy_X5_put⟩ rfl, mo_cvp⟩ (
  And.intro ⟨ok_nop, mo_nop⟩ (
  And.intro ⟨ok_nop, mo_nop⟩ (
  And.intro ⟨ok_iload_n dX5_joinedBy_51 rfl rfl, mo_iload⟩ (
  And.intro ⟨ok_iconst dX5_joinedBy_52 rfl ic_2, mo_push⟩ (
  And.intro ⟨ok_icmp_ne dX5_joinedBy_53 (by decide) rfl, mo_icmp⟩ (
  And.intro ⟨ok_nop, mo_nop⟩ (
  And.intro ⟨ok_nop, mo_nop⟩ (
  And.intro ⟨ok_iconst dX5_joinedBy_56 rfl ic_1, mo_push⟩ (
  And.intro ⟨ok_nret dX5_joinedBy_57 rfl, mo_nret⟩ (
  And.intro ⟨ok_iinc dX5_joinedBy_58 ic_1 (by decide) rfl, mo_iinc⟩ (
  And.intro ⟨ok_nop, mo_nop⟩ (
  And.intro ⟨ok_nop, mo_nop⟩ (
  And.intro ⟨ok_goto dX5_joinedBy_61 (by decide), mo_goto⟩ (
  And.intro ⟨ok_nop, mo_nop⟩ (
  And.intro ⟨ok_nop, mo_nop⟩ (
  trivial))))))))))))))))
theorem rX5_joinedBy_4 : am_allR (fun pc o => am_ok am_tb0 cX5_joinedBy RX5 4 (some .boolean) false pc o ∧ am_mo o) 64 (am_nth [] tX5_joinedBy 4) :=
  And.intro ⟨ok_iconst dX5_joinedBy_64 rfl ic_1, mo_push⟩ (
  And.intro ⟨ok_nret dX5_joinedBy_65 rfl, mo_nret⟩ (
  And.intro ⟨ok_nop, mo_nop⟩ (
  And.intro ⟨ok_nop, mo_nop⟩ (
  And.intro ⟨ok_nop, mo_nop⟩ (
  And.intro ⟨ok_nop, mo_nop⟩ (
  And.intro ⟨ok_nop, mo_nop⟩ (
  And.intro ⟨ok_nop, mo_nop⟩ (
  And.intro ⟨ok_nop, mo_nop⟩ (
  And.intro ⟨ok_nop, mo_nop⟩ (
  And.intro ⟨ok_nop, mo_nop⟩ (
  And.intro ⟨ok_nop, mo_nop⟩ (
  And.intro ⟨ok_nop, mo_nop⟩ (
  And.intro ⟨ok_nop, mo_nop⟩ (
  And.intro ⟨ok_nop, mo_nop⟩ (
  And.intro ⟨ok_nop, mo_nop⟩ (
  trivial))))))))))))))))
theorem kX5_joinedBy : am_M1 am_tb0 cX5_joinedBy RX5 4 (some .boolean) false tX5_joinedBy := And.intro rX5_joinedBy_0 (And.intro rX5_joinedBy_1 (And.intro rX5_joinedBy_2 (And.intro rX5_joinedBy_3 (And.intro rX5_joinedBy_4 (trivial)))))
def tX5_partOf : List (List am_Op) := [[o_iload 1 1, o_push (.int 4) 2, o_icmp (fun x y => x < y) 12 5, am_nop, am_nop, o_aload 0 6, o_cvr 5 11 50 1 0 9, am_nop, am_nop, o_goto 19, am_nop, am_nop, o_aload 0 13, o_iload 1 14, o_push (.int 1) 15, o_bin (fun x y => x + y) 16],
  [o_cvr 5 11 47 4 1 19, am_nop, am_nop, o_nret .boolean, am_nop, am_nop, am_nop, am_nop, am_nop, am_nop, am_nop, am_nop, am_nop, am_nop, am_nop, am_nop]]
theorem rX5_partOf_0 : am_allR (fun pc o => am_ok am_tb0 cX5_partOf RX5 2 (some .boolean) false pc o ∧ am_mo o) 0 (am_nth [] tX5_partOf 0) :=
  And.intro ⟨ok_iload_n dX5_partOf_0 rfl rfl, mo_iload⟩ (
  And.intro ⟨ok_iconst dX5_partOf_1 rfl ic_4, mo_push⟩ (
  And.intro ⟨ok_icmp_lt dX5_partOf_2 (by decide) rfl, mo_icmp⟩ (
  And.intro ⟨ok_nop, mo_nop⟩ (
  And.intro ⟨ok_nop, mo_nop⟩ (
  And.intro ⟨ok_aload_n dX5_partOf_5 rfl rfl, mo_aload⟩ (
  And.intro ⟨ok_cvr (z := 50) dX5_partOf_6 hclX5 (by decide) wd_665 wd_667 wp_9 wd_5 wd_668 rfl (by decide) ⟨rfl, hy_X5_piece⟩ rfl, mo_cvr⟩ (
  And.intro ⟨ok_nop, mo_nop⟩ (
  And.intro ⟨ok_nop, mo_nop⟩ (
  And.intro ⟨ok_goto dX5_partOf_9 (by decide), mo_goto⟩ (
  And.intro ⟨ok_nop, mo_nop⟩ (
  And.intro ⟨ok_nop, mo_nop⟩ (
  And.intro ⟨ok_aload_n dX5_partOf_12 rfl rfl, mo_aload⟩ (
  And.intro ⟨ok_iload_n dX5_partOf_13 rfl rfl, mo_iload⟩ (
  And.intro ⟨ok_iconst dX5_partOf_14 rfl ic_1, mo_push⟩ (
  And.intro ⟨ok_iadd dX5_partOf_15 rfl, mo_bin⟩ (
  trivial))))))))))))))))
theorem rX5_partOf_1 : am_allR (fun pc o => am_ok am_tb0 cX5_partOf RX5 2 (some .boolean) false pc o ∧ am_mo o) 16 (am_nth [] tX5_partOf 1) :=
  And.intro ⟨ok_cvr (z := 47) dX5_partOf_16 hclX5 (by decide) wd_657 wd_659 wp_7 wd_5 wd_660 rfl (by decide) ⟨rfl, hy_X5_joinedBy⟩ rfl, mo_cvr⟩ (
  And.intro ⟨ok_nop, mo_nop⟩ (
  And.intro ⟨ok_nop, mo_nop⟩ (
  And.intro ⟨ok_nret dX5_partOf_19 rfl, mo_nret⟩ (
  And.intro ⟨ok_nop, mo_nop⟩ (
  And.intro ⟨ok_nop, mo_nop⟩ (
  And.intro ⟨ok_nop, mo_nop⟩ (
  And.intro ⟨ok_nop, mo_nop⟩ (
  And.intro ⟨ok_nop, mo_nop⟩ (
  And.intro ⟨ok_nop, mo_nop⟩ (
  And.intro ⟨ok_nop, mo_nop⟩ (
  And.intro ⟨ok_nop, mo_nop⟩ (
  And.intro ⟨ok_nop, mo_nop⟩ (
  And.intro ⟨ok_nop, mo_nop⟩ (
  And.intro ⟨ok_nop, mo_nop⟩ (
  And.intro ⟨ok_nop, mo_nop⟩ (
  trivial))))))))))))))))
theorem kX5_partOf : am_M1 am_tb0 cX5_partOf RX5 2 (some .boolean) false tX5_partOf := And.intro rX5_partOf_0 (And.intro rX5_partOf_1 (trivial))
def tX5_joins : List (List am_Op) := [[o_iload 1 1, o_sw [(0, 32), (1, 47), (2, 62), (3, 95)] 119, am_nop, am_nop, am_nop, am_nop, am_nop, am_nop, am_nop, am_nop, am_nop, am_nop, am_nop, am_nop, am_nop, am_nop],
  [am_nop, am_nop, am_nop, am_nop, am_nop, am_nop, am_nop, am_nop, am_nop, am_nop, am_nop, am_nop, am_nop, am_nop, am_nop, am_nop],
  [o_aload 0 33, o_getI 5 11 4 36, am_nop, am_nop, o_push (.int 124) 38, am_nop, o_icmp (fun x y => ¬ x = y) 45 41, am_nop, am_nop, o_push (.int 1) 42, o_goto 46, am_nop, am_nop, o_push (.int 0) 46, o_nret .boolean, o_aload 0 48],
  [o_getI 5 11 4 51, am_nop, am_nop, o_push (.int 38) 53, am_nop, o_icmp (fun x y => ¬ x = y) 60 56, am_nop, am_nop, o_push (.int 1) 57, o_goto 61, am_nop, am_nop, o_push (.int 0) 61, o_nret .boolean, o_aload 0 63, o_getI 5 11 4 66],
  [am_nop, am_nop, o_push (.int 60) 68, am_nop, o_icmp (fun x y => x = y) 89 71, am_nop, am_nop, o_aload 0 72, o_getI 5 11 4 75, am_nop, am_nop, o_push (.int 61) 77, am_nop, o_icmp (fun x y => x = y) 89 80, am_nop, am_nop],
  [o_aload 0 81, o_getI 5 11 4 84, am_nop, am_nop, o_push (.int 62) 86, am_nop, o_icmp (fun x y => ¬ x = y) 93 89, am_nop, am_nop, o_push (.int 1) 90, o_goto 94, am_nop, am_nop, o_push (.int 0) 94, o_nret .boolean, o_aload 0 96],
  [o_getI 5 11 4 99, am_nop, am_nop, o_push (.int 43) 101, am_nop, o_icmp (fun x y => x = y) 113 104, am_nop, am_nop, o_aload 0 105, o_getI 5 11 4 108, am_nop, am_nop, o_push (.int 45) 110, am_nop, o_icmp (fun x y => ¬ x = y) 117 113, am_nop],
  [am_nop, o_push (.int 1) 114, o_goto 118, am_nop, am_nop, o_push (.int 0) 118, o_nret .boolean, o_aload 0 120, o_getI 5 11 4 123, am_nop, am_nop, o_push (.int 42) 125, am_nop, o_icmp (fun x y => x = y) 137 128, am_nop, am_nop],
  [o_aload 0 129, o_getI 5 11 4 132, am_nop, am_nop, o_push (.int 47) 134, am_nop, o_icmp (fun x y => ¬ x = y) 141 137, am_nop, am_nop, o_push (.int 1) 138, o_goto 142, am_nop, am_nop, o_push (.int 0) 142, o_nret .boolean, am_nop]]
theorem rX5_joins_0 : am_allR (fun pc o => am_ok am_tb0 cX5_joins RX5 2 (some .boolean) false pc o ∧ am_mo o) 0 (am_nth [] tX5_joins 0) :=
  And.intro ⟨ok_iload_n dX5_joins_0 rfl rfl, mo_iload⟩ (
  And.intro ⟨ok_table dX5_joins_1 (by decide) (by decide +kernel) (by decide +kernel), mo_sw⟩ (
  And.intro ⟨ok_nop, mo_nop⟩ (
  And.intro ⟨ok_nop, mo_nop⟩ (
  And.intro ⟨ok_nop, mo_nop⟩ (
  And.intro ⟨ok_nop, mo_nop⟩ (
  And.intro ⟨ok_nop, mo_nop⟩ (
  And.intro ⟨ok_nop, mo_nop⟩ (
  And.intro ⟨ok_nop, mo_nop⟩ (
  And.intro ⟨ok_nop, mo_nop⟩ (
  And.intro ⟨ok_nop, mo_nop⟩ (
  And.intro ⟨ok_nop, mo_nop⟩ (
  And.intro ⟨ok_nop, mo_nop⟩ (
  And.intro ⟨ok_nop, mo_nop⟩ (
  And.intro ⟨ok_nop, mo_nop⟩ (
  And.intro ⟨ok_nop, mo_nop⟩ (
  trivial))))))))))))))))
theorem rX5_joins_1 : am_allR (fun pc o => am_ok am_tb0 cX5_joins RX5 2 (some .boolean) false pc o ∧ am_mo o) 16 (am_nth [] tX5_joins 1) :=
  And.intro ⟨ok_nop, mo_nop⟩ (
  And.intro ⟨ok_nop, mo_nop⟩ (
  And.intro ⟨ok_nop, mo_nop⟩ (
  And.intro ⟨ok_nop, mo_nop⟩ (
  And.intro ⟨ok_nop, mo_nop⟩ (
  And.intro ⟨ok_nop, mo_nop⟩ (
  And.intro ⟨ok_nop, mo_nop⟩ (
  And.intro ⟨ok_nop, mo_nop⟩ (
  And.intro ⟨ok_nop, mo_nop⟩ (
  And.intro ⟨ok_nop, mo_nop⟩ (
  And.intro ⟨ok_nop, mo_nop⟩ (
  And.intro ⟨ok_nop, mo_nop⟩ (
  And.intro ⟨ok_nop, mo_nop⟩ (
  And.intro ⟨ok_nop, mo_nop⟩ (
  And.intro ⟨ok_nop, mo_nop⟩ (
  And.intro ⟨ok_nop, mo_nop⟩ (
  trivial))))))))))))))))
theorem rX5_joins_2 : am_allR (fun pc o => am_ok am_tb0 cX5_joins RX5 2 (some .boolean) false pc o ∧ am_mo o) 32 (am_nth [] tX5_joins 2) :=
  And.intro ⟨ok_aload_n dX5_joins_32 rfl rfl, mo_aload⟩ (
  And.intro ⟨ok_getI dX5_joins_33 hclX5 inWX5 (by decide) (by decide) wd_159 (fun _ _ _ => rfl) rfl, mo_getI⟩ (
  And.intro ⟨ok_nop, mo_nop⟩ (
  And.intro ⟨ok_nop, mo_nop⟩ (
  And.intro ⟨ok_bipush dX5_joins_36 rfl bi_124, mo_push⟩ (
  And.intro ⟨ok_nop, mo_nop⟩ (
  And.intro ⟨ok_icmp_ne dX5_joins_38 (by decide) rfl, mo_icmp⟩ (
  And.intro ⟨ok_nop, mo_nop⟩ (
  And.intro ⟨ok_nop, mo_nop⟩ (
  And.intro ⟨ok_iconst dX5_joins_41 rfl ic_1, mo_push⟩ (
  And.intro ⟨ok_goto dX5_joins_42 (by decide), mo_goto⟩ (
  And.intro ⟨ok_nop, mo_nop⟩ (
  And.intro ⟨ok_nop, mo_nop⟩ (
  And.intro ⟨ok_iconst dX5_joins_45 rfl ic_0, mo_push⟩ (
  And.intro ⟨ok_nret dX5_joins_46 rfl, mo_nret⟩ (
  And.intro ⟨ok_aload_n dX5_joins_47 rfl rfl, mo_aload⟩ (
  trivial))))))))))))))))
theorem rX5_joins_3 : am_allR (fun pc o => am_ok am_tb0 cX5_joins RX5 2 (some .boolean) false pc o ∧ am_mo o) 48 (am_nth [] tX5_joins 3) :=
  And.intro ⟨ok_getI dX5_joins_48 hclX5 inWX5 (by decide) (by decide) wd_159 (fun _ _ _ => rfl) rfl, mo_getI⟩ (
  And.intro ⟨ok_nop, mo_nop⟩ (
  And.intro ⟨ok_nop, mo_nop⟩ (
  And.intro ⟨ok_bipush dX5_joins_51 rfl bi_38, mo_push⟩ (
  And.intro ⟨ok_nop, mo_nop⟩ (
  And.intro ⟨ok_icmp_ne dX5_joins_53 (by decide) rfl, mo_icmp⟩ (
  And.intro ⟨ok_nop, mo_nop⟩ (
  And.intro ⟨ok_nop, mo_nop⟩ (
  And.intro ⟨ok_iconst dX5_joins_56 rfl ic_1, mo_push⟩ (
  And.intro ⟨ok_goto dX5_joins_57 (by decide), mo_goto⟩ (
  And.intro ⟨ok_nop, mo_nop⟩ (
  And.intro ⟨ok_nop, mo_nop⟩ (
  And.intro ⟨ok_iconst dX5_joins_60 rfl ic_0, mo_push⟩ (
  And.intro ⟨ok_nret dX5_joins_61 rfl, mo_nret⟩ (
  And.intro ⟨ok_aload_n dX5_joins_62 rfl rfl, mo_aload⟩ (
  And.intro ⟨ok_getI dX5_joins_63 hclX5 inWX5 (by decide) (by decide) wd_159 (fun _ _ _ => rfl) rfl, mo_getI⟩ (
  trivial))))))))))))))))
theorem rX5_joins_4 : am_allR (fun pc o => am_ok am_tb0 cX5_joins RX5 2 (some .boolean) false pc o ∧ am_mo o) 64 (am_nth [] tX5_joins 4) :=
  And.intro ⟨ok_nop, mo_nop⟩ (
  And.intro ⟨ok_nop, mo_nop⟩ (
  And.intro ⟨ok_bipush dX5_joins_66 rfl bi_60, mo_push⟩ (
  And.intro ⟨ok_nop, mo_nop⟩ (
  And.intro ⟨ok_icmp_eq dX5_joins_68 (by decide) rfl, mo_icmp⟩ (
  And.intro ⟨ok_nop, mo_nop⟩ (
  And.intro ⟨ok_nop, mo_nop⟩ (
  And.intro ⟨ok_aload_n dX5_joins_71 rfl rfl, mo_aload⟩ (
  And.intro ⟨ok_getI dX5_joins_72 hclX5 inWX5 (by decide) (by decide) wd_159 (fun _ _ _ => rfl) rfl, mo_getI⟩ (
  And.intro ⟨ok_nop, mo_nop⟩ (
  And.intro ⟨ok_nop, mo_nop⟩ (
  And.intro ⟨ok_bipush dX5_joins_75 rfl bi_61, mo_push⟩ (
  And.intro ⟨ok_nop, mo_nop⟩ (
  And.intro ⟨ok_icmp_eq dX5_joins_77 (by decide) rfl, mo_icmp⟩ (
  And.intro ⟨ok_nop, mo_nop⟩ (
  And.intro ⟨ok_nop, mo_nop⟩ (
  trivial))))))))))))))))
theorem rX5_joins_5 : am_allR (fun pc o => am_ok am_tb0 cX5_joins RX5 2 (some .boolean) false pc o ∧ am_mo o) 80 (am_nth [] tX5_joins 5) :=
  And.intro ⟨ok_aload_n dX5_joins_80 rfl rfl, mo_aload⟩ (
  And.intro ⟨ok_getI dX5_joins_81 hclX5 inWX5 (by decide) (by decide) wd_159 (fun _ _ _ => rfl) rfl, mo_getI⟩ (
  And.intro ⟨ok_nop, mo_nop⟩ (
  And.intro ⟨ok_nop, mo_nop⟩ (
  And.intro ⟨ok_bipush dX5_joins_84 rfl bi_62, mo_push⟩ (
  And.intro ⟨ok_nop, mo_nop⟩ (
  And.intro ⟨ok_icmp_ne dX5_joins_86 (by decide) rfl, mo_icmp⟩ (
  And.intro ⟨ok_nop, mo_nop⟩ (
  And.intro ⟨ok_nop, mo_nop⟩ (
  And.intro ⟨ok_iconst dX5_joins_89 rfl ic_1, mo_push⟩ (
  And.intro ⟨ok_goto dX5_joins_90 (by decide), mo_goto⟩ (
  And.intro ⟨ok_nop, mo_nop⟩ (
  And.intro ⟨ok_nop, mo_nop⟩ (
  And.intro ⟨ok_iconst dX5_joins_93 rfl ic_0, mo_push⟩ (
  And.intro ⟨ok_nret dX5_joins_94 rfl, mo_nret⟩ (
  And.intro ⟨ok_aload_n dX5_joins_95 rfl rfl, mo_aload⟩ (
  trivial))))))))))))))))
theorem rX5_joins_6 : am_allR (fun pc o => am_ok am_tb0 cX5_joins RX5 2 (some .boolean) false pc o ∧ am_mo o) 96 (am_nth [] tX5_joins 6) :=
  And.intro ⟨ok_getI dX5_joins_96 hclX5 inWX5 (by decide) (by decide) wd_159 (fun _ _ _ => rfl) rfl, mo_getI⟩ (
  And.intro ⟨ok_nop, mo_nop⟩ (
  And.intro ⟨ok_nop, mo_nop⟩ (
  And.intro ⟨ok_bipush dX5_joins_99 rfl bi_43, mo_push⟩ (
  And.intro ⟨ok_nop, mo_nop⟩ (
  And.intro ⟨ok_icmp_eq dX5_joins_101 (by decide) rfl, mo_icmp⟩ (
  And.intro ⟨ok_nop, mo_nop⟩ (
  And.intro ⟨ok_nop, mo_nop⟩ (
  And.intro ⟨ok_aload_n dX5_joins_104 rfl rfl, mo_aload⟩ (
  And.intro ⟨ok_getI dX5_joins_105 hclX5 inWX5 (by decide) (by decide) wd_159 (fun _ _ _ => rfl) rfl, mo_getI⟩ (
  And.intro ⟨ok_nop, mo_nop⟩ (
  And.intro ⟨ok_nop, mo_nop⟩ (
  And.intro ⟨ok_bipush dX5_joins_108 rfl bi_45, mo_push⟩ (
  And.intro ⟨ok_nop, mo_nop⟩ (
  And.intro ⟨ok_icmp_ne dX5_joins_110 (by decide) rfl, mo_icmp⟩ (
  And.intro ⟨ok_nop, mo_nop⟩ (
  trivial))))))))))))))))
theorem rX5_joins_7 : am_allR (fun pc o => am_ok am_tb0 cX5_joins RX5 2 (some .boolean) false pc o ∧ am_mo o) 112 (am_nth [] tX5_joins 7) :=
  And.intro ⟨ok_nop, mo_nop⟩ (
  And.intro ⟨ok_iconst dX5_joins_113 rfl ic_1, mo_push⟩ (
  And.intro ⟨ok_goto dX5_joins_114 (by decide), mo_goto⟩ (
  And.intro ⟨ok_nop, mo_nop⟩ (
  And.intro ⟨ok_nop, mo_nop⟩ (
  And.intro ⟨ok_iconst dX5_joins_117 rfl ic_0, mo_push⟩ (
  And.intro ⟨ok_nret dX5_joins_118 rfl, mo_nret⟩ (
  And.intro ⟨ok_aload_n dX5_joins_119 rfl rfl, mo_aload⟩ (
  And.intro ⟨ok_getI dX5_joins_120 hclX5 inWX5 (by decide) (by decide) wd_159 (fun _ _ _ => rfl) rfl, mo_getI⟩ (
  And.intro ⟨ok_nop, mo_nop⟩ (
  And.intro ⟨ok_nop, mo_nop⟩ (
  And.intro ⟨ok_bipush dX5_joins_123 rfl bi_42, mo_push⟩ (
  And.intro ⟨ok_nop, mo_nop⟩ (
  And.intro ⟨ok_icmp_eq dX5_joins_125 (by decide) rfl, mo_icmp⟩ (
  And.intro ⟨ok_nop, mo_nop⟩ (
  And.intro ⟨ok_nop, mo_nop⟩ (
  trivial))))))))))))))))
theorem rX5_joins_8 : am_allR (fun pc o => am_ok am_tb0 cX5_joins RX5 2 (some .boolean) false pc o ∧ am_mo o) 128 (am_nth [] tX5_joins 8) :=
  And.intro ⟨ok_aload_n dX5_joins_128 rfl rfl, mo_aload⟩ (
  And.intro ⟨ok_getI dX5_joins_129 hclX5 inWX5 (by decide) (by decide) wd_159 (fun _ _ _ => rfl) rfl, mo_getI⟩ (
  And.intro ⟨ok_nop, mo_nop⟩ (
  And.intro ⟨ok_nop, mo_nop⟩ (
  And.intro ⟨ok_bipush dX5_joins_132 rfl bi_47, mo_push⟩ (
  And.intro ⟨ok_nop, mo_nop⟩ (
  And.intro ⟨ok_icmp_ne dX5_joins_134 (by decide) rfl, mo_icmp⟩ (
  And.intro ⟨ok_nop, mo_nop⟩ (
  And.intro ⟨ok_nop, mo_nop⟩ (
  And.intro ⟨ok_iconst dX5_joins_137 rfl ic_1, mo_push⟩ (
  And.intro ⟨ok_goto dX5_joins_138 (by decide), mo_goto⟩ (
  And.intro ⟨ok_nop, mo_nop⟩ (
  And.intro ⟨ok_nop, mo_nop⟩ (
  And.intro ⟨ok_iconst dX5_joins_141 rfl ic_0, mo_push⟩ (
  And.intro ⟨ok_nret dX5_joins_142 rfl, mo_nret⟩ (
  And.intro ⟨ok_nop, mo_nop⟩ (
  trivial))))))))))))))))
theorem kX5_joins : am_M1 am_tb0 cX5_joins RX5 2 (some .boolean) false tX5_joins := And.intro rX5_joins_0 (And.intro rX5_joins_1 (And.intro rX5_joins_2 (And.intro rX5_joins_3 (And.intro rX5_joins_4 (And.intro rX5_joins_5 (And.intro rX5_joins_6 (And.intro rX5_joins_7 (And.intro rX5_joins_8 (trivial)))))))))
def tX5_piece : List (List am_Op) := [[o_aload 0 1, o_getI 5 11 4 4, am_nop, am_nop, o_sw [(33, 58), (40, 63), (256, 53), (257, 48)] 68, am_nop, am_nop, am_nop, am_nop, am_nop, am_nop, am_nop, am_nop, am_nop, am_nop, am_nop],
  [am_nop, am_nop, am_nop, am_nop, am_nop, am_nop, am_nop, am_nop, am_nop, am_nop, am_nop, am_nop, am_nop, am_nop, am_nop, am_nop],
  [am_nop, am_nop, am_nop, am_nop, am_nop, am_nop, am_nop, am_nop, am_nop, am_nop, am_nop, am_nop, am_nop, am_nop, am_nop, am_nop],
  [o_aload 0 49, o_cvp 5 11 51 3 2 0 52, am_nop, am_nop, o_nret .boolean, o_aload 0 54, o_cvp 5 11 52 2 4 0 57, am_nop, am_nop, o_nret .boolean, o_aload 0 59, o_cvr 5 11 54 1 0 62, am_nop, am_nop, o_nret .boolean, o_aload 0 64],
  [o_cvr 5 11 55 1 0 67, am_nop, am_nop, o_nret .boolean, o_push (.int 0) 69, o_nret .boolean, am_nop, am_nop, am_nop, am_nop, am_nop, am_nop, am_nop, am_nop, am_nop, am_nop]]
theorem rX5_piece_0 : am_allR (fun pc o => am_ok am_tb0 cX5_piece RX5 1 (some .boolean) false pc o ∧ am_mo o) 0 (am_nth [] tX5_piece 0) :=
  And.intro ⟨ok_aload_n dX5_piece_0 rfl rfl, mo_aload⟩ (
  And.intro ⟨ok_getI dX5_piece_1 hclX5 inWX5 (by decide) (by decide) wd_159 (fun _ _ _ => rfl) rfl, mo_getI⟩ (
  And.intro ⟨ok_nop, mo_nop⟩ (
  And.intro ⟨ok_nop, mo_nop⟩ (
  And.intro ⟨ok_lookup dX5_piece_4 (by decide +kernel) (by decide) (by decide +kernel), mo_sw⟩ (
  And.intro ⟨ok_nop, mo_nop⟩ (
  And.intro ⟨ok_nop, mo_nop⟩ (
  And.intro ⟨ok_nop, mo_nop⟩ (
  And.intro ⟨ok_nop, mo_nop⟩ (
  And.intro ⟨ok_nop, mo_nop⟩ (
  And.intro ⟨ok_nop, mo_nop⟩ (
  And.intro ⟨ok_nop, mo_nop⟩ (
  And.intro ⟨ok_nop, mo_nop⟩ (
  And.intro ⟨ok_nop, mo_nop⟩ (
  And.intro ⟨ok_nop, mo_nop⟩ (
  And.intro ⟨ok_nop, mo_nop⟩ (
  trivial))))))))))))))))
theorem rX5_piece_1 : am_allR (fun pc o => am_ok am_tb0 cX5_piece RX5 1 (some .boolean) false pc o ∧ am_mo o) 16 (am_nth [] tX5_piece 1) :=
  And.intro ⟨ok_nop, mo_nop⟩ (
  And.intro ⟨ok_nop, mo_nop⟩ (
  And.intro ⟨ok_nop, mo_nop⟩ (
  And.intro ⟨ok_nop, mo_nop⟩ (
  And.intro ⟨ok_nop, mo_nop⟩ (
  And.intro ⟨ok_nop, mo_nop⟩ (
  And.intro ⟨ok_nop, mo_nop⟩ (
  And.intro ⟨ok_nop, mo_nop⟩ (
  And.intro ⟨ok_nop, mo_nop⟩ (
  And.intro ⟨ok_nop, mo_nop⟩ (
  And.intro ⟨ok_nop, mo_nop⟩ (
  And.intro ⟨ok_nop, mo_nop⟩ (
  And.intro ⟨ok_nop, mo_nop⟩ (
  And.intro ⟨ok_nop, mo_nop⟩ (
  And.intro ⟨ok_nop, mo_nop⟩ (
  And.intro ⟨ok_nop, mo_nop⟩ (
  trivial))))))))))))))))
theorem rX5_piece_2 : am_allR (fun pc o => am_ok am_tb0 cX5_piece RX5 1 (some .boolean) false pc o ∧ am_mo o) 32 (am_nth [] tX5_piece 2) :=
  And.intro ⟨ok_nop, mo_nop⟩ (
  And.intro ⟨ok_nop, mo_nop⟩ (
  And.intro ⟨ok_nop, mo_nop⟩ (
  And.intro ⟨ok_nop, mo_nop⟩ (
  And.intro ⟨ok_nop, mo_nop⟩ (
  And.intro ⟨ok_nop, mo_nop⟩ (
  And.intro ⟨ok_nop, mo_nop⟩ (
  And.intro ⟨ok_nop, mo_nop⟩ (
  And.intro ⟨ok_nop, mo_nop⟩ (
  And.intro ⟨ok_nop, mo_nop⟩ (
  And.intro ⟨ok_nop, mo_nop⟩ (
  And.intro ⟨ok_nop, mo_nop⟩ (
  And.intro ⟨ok_nop, mo_nop⟩ (
  And.intro ⟨ok_nop, mo_nop⟩ (
  And.intro ⟨ok_nop, mo_nop⟩ (
  And.intro ⟨ok_nop, mo_nop⟩ (
  trivial))))))))))))))))
theorem rX5_piece_3 : am_allR (fun pc o => am_ok am_tb0 cX5_piece RX5 1 (some .boolean) false pc o ∧ am_mo o) 48 (am_nth [] tX5_piece 3) :=
  And.intro ⟨ok_aload_n dX5_piece_48 rfl rfl, mo_aload⟩ (
  And.intro ⟨ok_cvp (z := 51) dX5_piece_49 hclX5 (by decide) wd_669 wd_671 wp_10 wd_5 wd_672 rfl (by decide) ⟨rfl, hy_X5_number⟩ rfl, mo_cvp⟩ (
  And.intro ⟨ok_nop, mo_nop⟩ (
  And.intro ⟨ok_nop, mo_nop⟩ (
  And.intro ⟨ok_nret dX5_piece_52 rfl, mo_nret⟩ (
  And.intro ⟨ok_aload_n dX5_piece_53 rfl rfl, mo_aload⟩ (
  And.intro ⟨ok_cvp (z := 52) dX5_piece_54 hclX5 (by decide) wd_677 wd_679 wp_12 wd_5 wd_680 rfl (by decide) ⟨rfl, hy_X5_name⟩ rfl, mo_cvp⟩ (
  And.intro ⟨ok_nop, mo_nop⟩ (
  And.intro ⟨ok_nop, mo_nop⟩ (
  And.intro ⟨ok_nret dX5_piece_57 rfl, mo_nret⟩ (
  And.intro ⟨ok_aload_n dX5_piece_58 rfl rfl, mo_aload⟩ (
  And.intro ⟨ok_cvr (z := 54) dX5_piece_59 hclX5 (by decide) wd_742 wd_744 wp_13 wd_5 wd_745 rfl (by decide) ⟨rfl, hy_X5_not⟩ rfl, mo_cvr⟩ (
  And.intro ⟨ok_nop, mo_nop⟩ (
  And.intro ⟨ok_nop, mo_nop⟩ (
  And.intro ⟨ok_nret dX5_piece_62 rfl, mo_nret⟩ (
  And.intro ⟨ok_aload_n dX5_piece_63 rfl rfl, mo_aload⟩ (
  trivial))))))))))))))))
theorem rX5_piece_4 : am_allR (fun pc o => am_ok am_tb0 cX5_piece RX5 1 (some .boolean) false pc o ∧ am_mo o) 64 (am_nth [] tX5_piece 4) :=
  And.intro ⟨ok_cvr (z := 55) dX5_piece_64 hclX5 (by decide) wd_746 wd_748 wp_14 wd_5 wd_749 rfl (by decide) ⟨rfl, hy_X5_brackets⟩ rfl, mo_cvr⟩ (
  And.intro ⟨ok_nop, mo_nop⟩ (
  And.intro ⟨ok_nop, mo_nop⟩ (
  And.intro ⟨ok_nret dX5_piece_67 rfl, mo_nret⟩ (
  And.intro ⟨ok_iconst dX5_piece_68 rfl ic_0, mo_push⟩ (
  And.intro ⟨ok_nret dX5_piece_69 rfl, mo_nret⟩ (
  And.intro ⟨ok_nop, mo_nop⟩ (
  And.intro ⟨ok_nop, mo_nop⟩ (
  And.intro ⟨ok_nop, mo_nop⟩ (
  And.intro ⟨ok_nop, mo_nop⟩ (
  And.intro ⟨ok_nop, mo_nop⟩ (
  And.intro ⟨ok_nop, mo_nop⟩ (
  And.intro ⟨ok_nop, mo_nop⟩ (
  And.intro ⟨ok_nop, mo_nop⟩ (
  And.intro ⟨ok_nop, mo_nop⟩ (
  And.intro ⟨ok_nop, mo_nop⟩ (
  trivial))))))))))))))))
theorem kX5_piece : am_M1 am_tb0 cX5_piece RX5 1 (some .boolean) false tX5_piece := And.intro rX5_piece_0 (And.intro rX5_piece_1 (And.intro rX5_piece_2 (And.intro rX5_piece_3 (And.intro rX5_piece_4 (trivial)))))
def tX5_number : List (List am_Op) := [[o_aload 0 1, o_getI 5 11 3 4, am_nop, am_nop, o_aload 0 5, o_getI 5 11 2 8, am_nop, am_nop, o_bin (fun x y => x - y) 9, o_push (.int 4) 10, o_icmp (fun x y => x ≤ y) 15 13, am_nop, am_nop, o_push (.int 0) 14, o_nret .boolean, o_push (.int 0) 16],
  [o_istore 1 17, o_aload 0 18, o_getI 5 11 2 21, am_nop, am_nop, o_istore 2 22, o_iload 2 23, o_aload 0 24, o_getI 5 11 3 27, am_nop, am_nop, o_icmp (fun x y => y ≤ x) 51 30, am_nop, am_nop, o_iload 1 31, o_push (.int 10) 33],
  [am_nop, o_bin (fun x y => x * y) 34, o_aload 0 35, o_getR 5 11 0 38, am_nop, am_nop, o_iload 2 39, o_iald 20 40, o_bin (fun x y => x + y) 41, o_push (.int 48) 43, am_nop, o_bin (fun x y => x - y) 44, o_istore 1 45, o_iinc 2 1 48, am_nop, am_nop],
  [o_goto 22, am_nop, am_nop, o_aload 0 52, o_iload 1 53, o_cv 5 11 56 2 0 1 56, am_nop, am_nop, o_aload 0 57, o_dup 58, o_getI 5 11 6 61, am_nop, am_nop, o_push (.int 1) 62, o_bin (fun x y => x + y) 63, o_putI 5 11 6 66],
  [am_nop, am_nop, o_aload 0 67, o_cv 5 11 43 3 1 0 70, am_nop, am_nop, o_push (.int 1) 71, o_nret .boolean, am_nop, am_nop, am_nop, am_nop, am_nop, am_nop, am_nop, am_nop]]
theorem rX5_number_0 : am_allR (fun pc o => am_ok am_tb0 cX5_number RX5 3 (some .boolean) false pc o ∧ am_mo o) 0 (am_nth [] tX5_number 0) :=
  And.intro ⟨ok_aload_n dX5_number_0 rfl rfl, mo_aload⟩ (
  And.intro ⟨ok_getI dX5_number_1 hclX5 inWX5 (by decide) (by decide) wd_158 (fun _ _ _ => rfl) rfl, mo_getI⟩ (
  And.intro ⟨ok_nop, mo_nop⟩ (
  And.intro ⟨ok_nop, mo_nop⟩ (
  And.intro ⟨ok_aload_n dX5_number_4 rfl rfl, mo_aload⟩ (
  And.intro ⟨ok_getI dX5_number_5 hclX5 inWX5 (by decide) (by decide) wd_156 (fun _ _ _ => rfl) rfl, mo_getI⟩ (
  And.intro ⟨ok_nop, mo_nop⟩ (
  And.intro ⟨ok_nop, mo_nop⟩ (
  And.intro ⟨ok_isub dX5_number_8 rfl, mo_bin⟩ (
  And.intro ⟨ok_iconst dX5_number_9 rfl ic_4, mo_push⟩ (
  And.intro ⟨ok_icmp_le dX5_number_10 (by decide) rfl, mo_icmp⟩ (
  And.intro ⟨ok_nop, mo_nop⟩ (
  And.intro ⟨ok_nop, mo_nop⟩ (
  And.intro ⟨ok_iconst dX5_number_13 rfl ic_0, mo_push⟩ (
  And.intro ⟨ok_nret dX5_number_14 rfl, mo_nret⟩ (
  And.intro ⟨ok_iconst dX5_number_15 rfl ic_0, mo_push⟩ (
  trivial))))))))))))))))
theorem rX5_number_1 : am_allR (fun pc o => am_ok am_tb0 cX5_number RX5 3 (some .boolean) false pc o ∧ am_mo o) 16 (am_nth [] tX5_number 1) :=
  And.intro ⟨ok_istore_n dX5_number_16 rfl (by decide) rfl, mo_istore⟩ (
  And.intro ⟨ok_aload_n dX5_number_17 rfl rfl, mo_aload⟩ (
  And.intro ⟨ok_getI dX5_number_18 hclX5 inWX5 (by decide) (by decide) wd_156 (fun _ _ _ => rfl) rfl, mo_getI⟩ (
  And.intro ⟨ok_nop, mo_nop⟩ (
  And.intro ⟨ok_nop, mo_nop⟩ (
  And.intro ⟨ok_istore_n dX5_number_21 rfl (by decide) rfl, mo_istore⟩ (
  And.intro ⟨ok_iload_n dX5_number_22 rfl rfl, mo_iload⟩ (
  And.intro ⟨ok_aload_n dX5_number_23 rfl rfl, mo_aload⟩ (
  And.intro ⟨ok_getI dX5_number_24 hclX5 inWX5 (by decide) (by decide) wd_158 (fun _ _ _ => rfl) rfl, mo_getI⟩ (
  And.intro ⟨ok_nop, mo_nop⟩ (
  And.intro ⟨ok_nop, mo_nop⟩ (
  And.intro ⟨ok_icmp_ge dX5_number_27 (by decide) rfl, mo_icmp⟩ (
  And.intro ⟨ok_nop, mo_nop⟩ (
  And.intro ⟨ok_nop, mo_nop⟩ (
  And.intro ⟨ok_iload_n dX5_number_30 rfl rfl, mo_iload⟩ (
  And.intro ⟨ok_bipush dX5_number_31 rfl bi_10, mo_push⟩ (
  trivial))))))))))))))))
theorem rX5_number_2 : am_allR (fun pc o => am_ok am_tb0 cX5_number RX5 3 (some .boolean) false pc o ∧ am_mo o) 32 (am_nth [] tX5_number 2) :=
  And.intro ⟨ok_nop, mo_nop⟩ (
  And.intro ⟨ok_imul dX5_number_33 rfl, mo_bin⟩ (
  And.intro ⟨ok_aload_n dX5_number_34 rfl rfl, mo_aload⟩ (
  And.intro ⟨ok_getR dX5_number_35 hclX5 inWX5 (by decide) (by decide) wd_153 (fun _ _ _ => rfl) rfl, mo_getR⟩ (
  And.intro ⟨ok_nop, mo_nop⟩ (
  And.intro ⟨ok_nop, mo_nop⟩ (
  And.intro ⟨ok_iload_n dX5_number_38 rfl rfl, mo_iload⟩ (
  And.intro ⟨ok_iald dX5_number_39 rfl, mo_iald⟩ (
  And.intro ⟨ok_iadd dX5_number_40 rfl, mo_bin⟩ (
  And.intro ⟨ok_bipush dX5_number_41 rfl bi_48, mo_push⟩ (
  And.intro ⟨ok_nop, mo_nop⟩ (
  And.intro ⟨ok_isub dX5_number_43 rfl, mo_bin⟩ (
  And.intro ⟨ok_istore_n dX5_number_44 rfl (by decide) rfl, mo_istore⟩ (
  And.intro ⟨ok_iinc dX5_number_45 ic_1 (by decide) rfl, mo_iinc⟩ (
  And.intro ⟨ok_nop, mo_nop⟩ (
  And.intro ⟨ok_nop, mo_nop⟩ (
  trivial))))))))))))))))
theorem rX5_number_3 : am_allR (fun pc o => am_ok am_tb0 cX5_number RX5 3 (some .boolean) false pc o ∧ am_mo o) 48 (am_nth [] tX5_number 3) :=
  And.intro ⟨ok_goto dX5_number_48 (by decide), mo_goto⟩ (
  And.intro ⟨ok_nop, mo_nop⟩ (
  And.intro ⟨ok_nop, mo_nop⟩ (
  And.intro ⟨ok_aload_n dX5_number_51 rfl rfl, mo_aload⟩ (
  And.intro ⟨ok_iload_n dX5_number_52 rfl rfl, mo_iload⟩ (
  And.intro ⟨ok_cv (z := 56) dX5_number_53 hclX5 (by decide) wd_673 wd_675 wp_11 wd_5 wd_676 rfl (by decide) ⟨rfl, hy_X5_put⟩ rfl, mo_cv⟩ (
  And.intro ⟨ok_nop, mo_nop⟩ (
  And.intro ⟨ok_nop, mo_nop⟩ (
  And.intro ⟨ok_aload_n dX5_number_56 rfl rfl, mo_aload⟩ (
  And.intro ⟨ok_dup dX5_number_57 rfl, mo_dup⟩ (
  And.intro ⟨ok_getI dX5_number_58 hclX5 inWX5 (by decide) (by decide) wd_161 (fun _ _ _ => rfl) rfl, mo_getI⟩ (
  And.intro ⟨ok_nop, mo_nop⟩ (
  And.intro ⟨ok_nop, mo_nop⟩ (
  And.intro ⟨ok_iconst dX5_number_61 rfl ic_1, mo_push⟩ (
  And.intro ⟨ok_iadd dX5_number_62 rfl, mo_bin⟩ (
  And.intro ⟨ok_putI dX5_number_63 hclX5 inWX5 tyX5_ok nmX5 (by decide) (by decide) wd_161 rfl (tyX5_ok 6 (by decide)) (fun _ _ _ => rfl) rfl, mo_putI⟩ (
  trivial))))))))))))))))
theorem rX5_number_4 : am_allR (fun pc o => am_ok am_tb0 cX5_number RX5 3 (some .boolean) false pc o ∧ am_mo o) 64 (am_nth [] tX5_number 4) :=
  And.intro ⟨ok_nop, mo_nop⟩ (
  And.intro ⟨ok_nop, mo_nop⟩ (
  And.intro ⟨ok_aload_n dX5_number_66 rfl rfl, mo_aload⟩ (
  And.intro ⟨ok_cv (z := 43) dX5_number_67 hclX5 (by decide) wd_591 wd_593 wp_4 wd_5 wd_594 rfl (by decide) ⟨rfl, hy_X5_step⟩ rfl, mo_cv⟩ (
  And.intro ⟨ok_nop, mo_nop⟩ (
  And.intro ⟨ok_nop, mo_nop⟩ (
  And.intro ⟨ok_iconst dX5_number_70 rfl ic_1, mo_push⟩ (
  And.intro ⟨ok_nret dX5_number_71 rfl, mo_nret⟩ (
  And.intro ⟨ok_nop, mo_nop⟩ (
  And.intro ⟨ok_nop, mo_nop⟩ (
  And.intro ⟨ok_nop, mo_nop⟩ (
  And.intro ⟨ok_nop, mo_nop⟩ (
  And.intro ⟨ok_nop, mo_nop⟩ (
  And.intro ⟨ok_nop, mo_nop⟩ (
  And.intro ⟨ok_nop, mo_nop⟩ (
  And.intro ⟨ok_nop, mo_nop⟩ (
  trivial))))))))))))))))
theorem kX5_number : am_M1 am_tb0 cX5_number RX5 3 (some .boolean) false tX5_number := And.intro rX5_number_0 (And.intro rX5_number_1 (And.intro rX5_number_2 (And.intro rX5_number_3 (And.intro rX5_number_4 (trivial)))))
def tX5_name : List (List am_Op) := [[o_aload 0 1, o_getI 5 11 3 4, am_nop, am_nop, o_aload 0 5, o_getI 5 11 2 8, am_nop, am_nop, o_bin (fun x y => x - y) 9, o_push (.int 1) 10, o_icmp (fun x y => ¬ x = y) 36 13, am_nop, am_nop, o_aload 0 14, o_getI 5 11 5 17, am_nop],
  [am_nop, o_cs 53 1 0 1 20, am_nop, am_nop, o_aload 0 21, o_getR 5 11 0 24, am_nop, am_nop, o_aload 0 25, o_getI 5 11 2 28, am_nop, am_nop, o_iald 20 29, o_un (fun x => (x.toUInt32 % 65536).toInt32) 30, o_cv 40 0 207 2 3 1 33, am_nop],
  [am_nop, o_goto 37, am_nop, am_nop, o_push (.int (-1)) 37, o_istore 1 38, o_iload 1 39, o_if (fun x => 0 ≤ x) 44 42, am_nop, am_nop, o_push (.int 0) 43, o_nret .boolean, o_aload 0 45, o_push (.int (-1)) 46, o_iload 1 47, o_bin (fun x y => x - y) 48],
  [o_cv 5 11 56 2 0 1 51, am_nop, am_nop, o_aload 0 52, o_dup 53, o_getI 5 11 6 56, am_nop, am_nop, o_push (.int 1) 57, o_bin (fun x y => x + y) 58, o_putI 5 11 6 61, am_nop, am_nop, o_aload 0 62, o_cv 5 11 43 3 1 0 65, am_nop],
  [am_nop, o_push (.int 1) 66, o_nret .boolean, am_nop, am_nop, am_nop, am_nop, am_nop, am_nop, am_nop, am_nop, am_nop, am_nop, am_nop, am_nop, am_nop]]
theorem rX5_name_0 : am_allR (fun pc o => am_ok am_tb0 cX5_name RX5 2 (some .boolean) false pc o ∧ am_mo o) 0 (am_nth [] tX5_name 0) :=
  And.intro ⟨ok_aload_n dX5_name_0 rfl rfl, mo_aload⟩ (
  And.intro ⟨ok_getI dX5_name_1 hclX5 inWX5 (by decide) (by decide) wd_158 (fun _ _ _ => rfl) rfl, mo_getI⟩ (
  And.intro ⟨ok_nop, mo_nop⟩ (
  And.intro ⟨ok_nop, mo_nop⟩ (
  And.intro ⟨ok_aload_n dX5_name_4 rfl rfl, mo_aload⟩ (
  And.intro ⟨ok_getI dX5_name_5 hclX5 inWX5 (by decide) (by decide) wd_156 (fun _ _ _ => rfl) rfl, mo_getI⟩ (
  And.intro ⟨ok_nop, mo_nop⟩ (
  And.intro ⟨ok_nop, mo_nop⟩ (
  And.intro ⟨ok_isub dX5_name_8 rfl, mo_bin⟩ (
  And.intro ⟨ok_iconst dX5_name_9 rfl ic_1, mo_push⟩ (
  And.intro ⟨ok_icmp_ne dX5_name_10 (by decide) rfl, mo_icmp⟩ (
  And.intro ⟨ok_nop, mo_nop⟩ (
  And.intro ⟨ok_nop, mo_nop⟩ (
  And.intro ⟨ok_aload_n dX5_name_13 rfl rfl, mo_aload⟩ (
  And.intro ⟨ok_getI dX5_name_14 hclX5 inWX5 (by decide) (by decide) wd_160 (fun _ _ _ => rfl) rfl, mo_getI⟩ (
  And.intro ⟨ok_nop, mo_nop⟩ (
  trivial))))))))))))))))
theorem rX5_name_1 : am_allR (fun pc o => am_ok am_tb0 cX5_name RX5 2 (some .boolean) false pc o ∧ am_mo o) 16 (am_nth [] tX5_name 1) :=
  And.intro ⟨ok_nop, mo_nop⟩ (
  And.intro ⟨ok_cs (z := 53) dX5_name_17 wd_681 wd_682 wd_5 wd_683 rfl (by decide) hy_X5_namesOf rfl, mo_cs⟩ (
  And.intro ⟨ok_nop, mo_nop⟩ (
  And.intro ⟨ok_nop, mo_nop⟩ (
  And.intro ⟨ok_aload_n dX5_name_20 rfl rfl, mo_aload⟩ (
  And.intro ⟨ok_getR dX5_name_21 hclX5 inWX5 (by decide) (by decide) wd_153 (fun _ _ _ => rfl) rfl, mo_getR⟩ (
  And.intro ⟨ok_nop, mo_nop⟩ (
  And.intro ⟨ok_nop, mo_nop⟩ (
  And.intro ⟨ok_aload_n dX5_name_24 rfl rfl, mo_aload⟩ (
  And.intro ⟨ok_getI dX5_name_25 hclX5 inWX5 (by decide) (by decide) wd_156 (fun _ _ _ => rfl) rfl, mo_getI⟩ (
  And.intro ⟨ok_nop, mo_nop⟩ (
  And.intro ⟨ok_nop, mo_nop⟩ (
  And.intro ⟨ok_iald dX5_name_28 rfl, mo_iald⟩ (
  And.intro ⟨ok_i2c dX5_name_29 rfl, mo_un⟩ (
  And.intro ⟨ok_cvS (z := 207) dX5_name_30 wd_687 wd_688 wd_689 wd_13 wd_690 rfl (by decide) ⟨rfl, hy_J0_indexOf_0f7a4⟩ rfl, mo_cv⟩ (
  And.intro ⟨ok_nop, mo_nop⟩ (
  trivial))))))))))))))))
theorem rX5_name_2 : am_allR (fun pc o => am_ok am_tb0 cX5_name RX5 2 (some .boolean) false pc o ∧ am_mo o) 32 (am_nth [] tX5_name 2) :=
  And.intro ⟨ok_nop, mo_nop⟩ (
  And.intro ⟨ok_goto dX5_name_33 (by decide), mo_goto⟩ (
  And.intro ⟨ok_nop, mo_nop⟩ (
  And.intro ⟨ok_nop, mo_nop⟩ (
  And.intro ⟨ok_iconst dX5_name_36 rfl ic_m1, mo_push⟩ (
  And.intro ⟨ok_istore_n dX5_name_37 rfl (by decide) rfl, mo_istore⟩ (
  And.intro ⟨ok_iload_n dX5_name_38 rfl rfl, mo_iload⟩ (
  And.intro ⟨ok_if_ge dX5_name_39 (by decide) rfl, mo_if⟩ (
  And.intro ⟨ok_nop, mo_nop⟩ (
  And.intro ⟨ok_nop, mo_nop⟩ (
  And.intro ⟨ok_iconst dX5_name_42 rfl ic_0, mo_push⟩ (
  And.intro ⟨ok_nret dX5_name_43 rfl, mo_nret⟩ (
  And.intro ⟨ok_aload_n dX5_name_44 rfl rfl, mo_aload⟩ (
  And.intro ⟨ok_iconst dX5_name_45 rfl ic_m1, mo_push⟩ (
  And.intro ⟨ok_iload_n dX5_name_46 rfl rfl, mo_iload⟩ (
  And.intro ⟨ok_isub dX5_name_47 rfl, mo_bin⟩ (
  trivial))))))))))))))))
theorem rX5_name_3 : am_allR (fun pc o => am_ok am_tb0 cX5_name RX5 2 (some .boolean) false pc o ∧ am_mo o) 48 (am_nth [] tX5_name 3) :=
  And.intro ⟨ok_cv (z := 56) dX5_name_48 hclX5 (by decide) wd_673 wd_675 wp_11 wd_5 wd_676 rfl (by decide) ⟨rfl, hy_X5_put⟩ rfl, mo_cv⟩ (
  And.intro ⟨ok_nop, mo_nop⟩ (
  And.intro ⟨ok_nop, mo_nop⟩ (
  And.intro ⟨ok_aload_n dX5_name_51 rfl rfl, mo_aload⟩ (
  And.intro ⟨ok_dup dX5_name_52 rfl, mo_dup⟩ (
  And.intro ⟨ok_getI dX5_name_53 hclX5 inWX5 (by decide) (by decide) wd_161 (fun _ _ _ => rfl) rfl, mo_getI⟩ (
  And.intro ⟨ok_nop, mo_nop⟩ (
  And.intro ⟨ok_nop, mo_nop⟩ (
  And.intro ⟨ok_iconst dX5_name_56 rfl ic_1, mo_push⟩ (
  And.intro ⟨ok_iadd dX5_name_57 rfl, mo_bin⟩ (
  And.intro ⟨ok_putI dX5_name_58 hclX5 inWX5 tyX5_ok nmX5 (by decide) (by decide) wd_161 rfl (tyX5_ok 6 (by decide)) (fun _ _ _ => rfl) rfl, mo_putI⟩ (
  And.intro ⟨ok_nop, mo_nop⟩ (
  And.intro ⟨ok_nop, mo_nop⟩ (
  And.intro ⟨ok_aload_n dX5_name_61 rfl rfl, mo_aload⟩ (
  And.intro ⟨ok_cv (z := 43) dX5_name_62 hclX5 (by decide) wd_591 wd_593 wp_4 wd_5 wd_594 rfl (by decide) ⟨rfl, hy_X5_step⟩ rfl, mo_cv⟩ (
  And.intro ⟨ok_nop, mo_nop⟩ (
  trivial))))))))))))))))
theorem rX5_name_4 : am_allR (fun pc o => am_ok am_tb0 cX5_name RX5 2 (some .boolean) false pc o ∧ am_mo o) 64 (am_nth [] tX5_name 4) :=
  And.intro ⟨ok_nop, mo_nop⟩ (
  And.intro ⟨ok_iconst dX5_name_65 rfl ic_1, mo_push⟩ (
  And.intro ⟨ok_nret dX5_name_66 rfl, mo_nret⟩ (
  And.intro ⟨ok_nop, mo_nop⟩ (
  And.intro ⟨ok_nop, mo_nop⟩ (
  And.intro ⟨ok_nop, mo_nop⟩ (
  And.intro ⟨ok_nop, mo_nop⟩ (
  And.intro ⟨ok_nop, mo_nop⟩ (
  And.intro ⟨ok_nop, mo_nop⟩ (
  And.intro ⟨ok_nop, mo_nop⟩ (
  And.intro ⟨ok_nop, mo_nop⟩ (
  And.intro ⟨ok_nop, mo_nop⟩ (
  And.intro ⟨ok_nop, mo_nop⟩ (
  And.intro ⟨ok_nop, mo_nop⟩ (
  And.intro ⟨ok_nop, mo_nop⟩ (
  And.intro ⟨ok_nop, mo_nop⟩ (
  trivial))))))))))))))))
theorem kX5_name : am_M1 am_tb0 cX5_name RX5 2 (some .boolean) false tX5_name := And.intro rX5_name_0 (And.intro rX5_name_1 (And.intro rX5_name_2 (And.intro rX5_name_3 (And.intro rX5_name_4 (trivial)))))
def tX5_namesOf : List (List am_Op) := [[o_iload 0 1, o_sw [(0, 28), (1, 31)] 34, am_nop, am_nop, am_nop, am_nop, am_nop, am_nop, am_nop, am_nop, am_nop, am_nop, am_nop, am_nop, am_nop, am_nop],
  [am_nop, am_nop, am_nop, am_nop, am_nop, am_nop, am_nop, am_nop, am_nop, am_nop, am_nop, am_nop, o_push (.ref 4) 30, am_nop, o_aret, o_push (.ref 5) 33],
  [am_nop, o_aret, o_push (.ref 6) 36, am_nop, o_aret, am_nop, am_nop, am_nop, am_nop, am_nop, am_nop, am_nop, am_nop, am_nop, am_nop, am_nop]]
theorem rX5_namesOf_0 : am_allR (fun pc o => am_ok am_tb0 cX5_namesOf RX5 1 (some (.object "java/lang/String")) false pc o ∧ am_mo o) 0 (am_nth [] tX5_namesOf 0) :=
  And.intro ⟨ok_iload_n dX5_namesOf_0 rfl rfl, mo_iload⟩ (
  And.intro ⟨ok_lookup dX5_namesOf_1 (by decide +kernel) (by decide) (by decide +kernel), mo_sw⟩ (
  And.intro ⟨ok_nop, mo_nop⟩ (
  And.intro ⟨ok_nop, mo_nop⟩ (
  And.intro ⟨ok_nop, mo_nop⟩ (
  And.intro ⟨ok_nop, mo_nop⟩ (
  And.intro ⟨ok_nop, mo_nop⟩ (
  And.intro ⟨ok_nop, mo_nop⟩ (
  And.intro ⟨ok_nop, mo_nop⟩ (
  And.intro ⟨ok_nop, mo_nop⟩ (
  And.intro ⟨ok_nop, mo_nop⟩ (
  And.intro ⟨ok_nop, mo_nop⟩ (
  And.intro ⟨ok_nop, mo_nop⟩ (
  And.intro ⟨ok_nop, mo_nop⟩ (
  And.intro ⟨ok_nop, mo_nop⟩ (
  And.intro ⟨ok_nop, mo_nop⟩ (
  trivial))))))))))))))))
theorem rX5_namesOf_1 : am_allR (fun pc o => am_ok am_tb0 cX5_namesOf RX5 1 (some (.object "java/lang/String")) false pc o ∧ am_mo o) 16 (am_nth [] tX5_namesOf 1) :=
  And.intro ⟨ok_nop, mo_nop⟩ (
  And.intro ⟨ok_nop, mo_nop⟩ (
  And.intro ⟨ok_nop, mo_nop⟩ (
  And.intro ⟨ok_nop, mo_nop⟩ (
  And.intro ⟨ok_nop, mo_nop⟩ (
  And.intro ⟨ok_nop, mo_nop⟩ (
  And.intro ⟨ok_nop, mo_nop⟩ (
  And.intro ⟨ok_nop, mo_nop⟩ (
  And.intro ⟨ok_nop, mo_nop⟩ (
  And.intro ⟨ok_nop, mo_nop⟩ (
  And.intro ⟨ok_nop, mo_nop⟩ (
  And.intro ⟨ok_nop, mo_nop⟩ (
  And.intro ⟨ok_ldcS (i := 3) dX5_namesOf_28 (by decide) rfl rfl, mo_push⟩ (
  And.intro ⟨ok_nop, mo_nop⟩ (
  And.intro ⟨ok_aret dX5_namesOf_30 rfl (Or.inl ⟨_, rfl⟩), mo_aret⟩ (
  And.intro ⟨ok_ldcS (i := 4) dX5_namesOf_31 (by decide) rfl rfl, mo_push⟩ (
  trivial))))))))))))))))
theorem rX5_namesOf_2 : am_allR (fun pc o => am_ok am_tb0 cX5_namesOf RX5 1 (some (.object "java/lang/String")) false pc o ∧ am_mo o) 32 (am_nth [] tX5_namesOf 2) :=
  And.intro ⟨ok_nop, mo_nop⟩ (
  And.intro ⟨ok_aret dX5_namesOf_33 rfl (Or.inl ⟨_, rfl⟩), mo_aret⟩ (
  And.intro ⟨ok_ldcS (i := 5) dX5_namesOf_34 (by decide) rfl rfl, mo_push⟩ (
  And.intro ⟨ok_nop, mo_nop⟩ (
  And.intro ⟨ok_aret dX5_namesOf_36 rfl (Or.inl ⟨_, rfl⟩), mo_aret⟩ (
  And.intro ⟨ok_nop, mo_nop⟩ (
  And.intro ⟨ok_nop, mo_nop⟩ (
  And.intro ⟨ok_nop, mo_nop⟩ (
  And.intro ⟨ok_nop, mo_nop⟩ (
  And.intro ⟨ok_nop, mo_nop⟩ (
  And.intro ⟨ok_nop, mo_nop⟩ (
  And.intro ⟨ok_nop, mo_nop⟩ (
  And.intro ⟨ok_nop, mo_nop⟩ (
  And.intro ⟨ok_nop, mo_nop⟩ (
  And.intro ⟨ok_nop, mo_nop⟩ (
  And.intro ⟨ok_nop, mo_nop⟩ (
  trivial))))))))))))))))
theorem kX5_namesOf : am_M1 am_tb0 cX5_namesOf RX5 1 (some (.object "java/lang/String")) false tX5_namesOf := And.intro rX5_namesOf_0 (And.intro rX5_namesOf_1 (And.intro rX5_namesOf_2 (trivial)))
def tX5_not : List (List am_Op) := [[o_aload 0 1, o_getI 5 11 8 4, am_nop, am_nop, o_push (.int 8) 6, am_nop, o_icmp (fun x y => x < y) 11 9, am_nop, am_nop, o_push (.int 0) 10, o_nret .boolean, o_aload 0 12, o_dup 13, o_getI 5 11 8 16, am_nop, am_nop],
  [o_push (.int 1) 17, o_bin (fun x y => x + y) 18, o_putI 5 11 8 21, am_nop, am_nop, o_aload 0 22, o_cvp 5 11 43 3 1 0 25, am_nop, am_nop, o_aload 0 26, o_cvr 5 11 50 1 0 29, am_nop, am_nop, o_if (fun x => ¬ x = 0) 34 32, am_nop, am_nop],
  [o_push (.int 0) 33, o_nret .boolean, o_aload 0 35, o_dup 36, o_getI 5 11 8 39, am_nop, am_nop, o_push (.int 1) 40, o_bin (fun x y => x - y) 41, o_putI 5 11 8 44, am_nop, am_nop, o_aload 0 45, o_push (.int (-33)) 47, am_nop, o_cvp 5 11 56 2 0 1 50],
  [am_nop, am_nop, o_push (.int 1) 51, o_nret .boolean, am_nop, am_nop, am_nop, am_nop, am_nop, am_nop, am_nop, am_nop, am_nop, am_nop, am_nop, am_nop]]
theorem rX5_not_0 : am_allR (fun pc o => am_ok am_tb0 cX5_not RX5 1 (some .boolean) false pc o ∧ am_mo o) 0 (am_nth [] tX5_not 0) :=
  And.intro ⟨ok_aload_n dX5_not_0 rfl rfl, mo_aload⟩ (
  And.intro ⟨ok_getI dX5_not_1 hclX5 inWX5 (by decide) (by decide) wd_163 (fun _ _ _ => rfl) rfl, mo_getI⟩ (
  And.intro ⟨ok_nop, mo_nop⟩ (
  And.intro ⟨ok_nop, mo_nop⟩ (
  And.intro ⟨ok_bipush dX5_not_4 rfl bi_8, mo_push⟩ (
  And.intro ⟨ok_nop, mo_nop⟩ (
  And.intro ⟨ok_icmp_lt dX5_not_6 (by decide) rfl, mo_icmp⟩ (
  And.intro ⟨ok_nop, mo_nop⟩ (
  And.intro ⟨ok_nop, mo_nop⟩ (
  And.intro ⟨ok_iconst dX5_not_9 rfl ic_0, mo_push⟩ (
  And.intro ⟨ok_nret dX5_not_10 rfl, mo_nret⟩ (
  And.intro ⟨ok_aload_n dX5_not_11 rfl rfl, mo_aload⟩ (
  And.intro ⟨ok_dup dX5_not_12 rfl, mo_dup⟩ (
  And.intro ⟨ok_getI dX5_not_13 hclX5 inWX5 (by decide) (by decide) wd_163 (fun _ _ _ => rfl) rfl, mo_getI⟩ (
  And.intro ⟨ok_nop, mo_nop⟩ (
  And.intro ⟨ok_nop, mo_nop⟩ (
  trivial))))))))))))))))
theorem rX5_not_1 : am_allR (fun pc o => am_ok am_tb0 cX5_not RX5 1 (some .boolean) false pc o ∧ am_mo o) 16 (am_nth [] tX5_not 1) :=
  And.intro ⟨ok_iconst dX5_not_16 rfl ic_1, mo_push⟩ (
  And.intro ⟨ok_iadd dX5_not_17 rfl, mo_bin⟩ (
  And.intro ⟨ok_putI dX5_not_18 hclX5 inWX5 tyX5_ok nmX5 (by decide) (by decide) wd_163 rfl (tyX5_ok 8 (by decide)) (fun _ _ _ => rfl) rfl, mo_putI⟩ (
  And.intro ⟨ok_nop, mo_nop⟩ (
  And.intro ⟨ok_nop, mo_nop⟩ (
  And.intro ⟨ok_aload_n dX5_not_21 rfl rfl, mo_aload⟩ (
  And.intro ⟨ok_cvp (z := 43) dX5_not_22 hclX5 (by decide) wd_591 wd_593 wp_4 wd_5 wd_594 rfl (by decide) ⟨rfl, hy_X5_step⟩ rfl, mo_cvp⟩ (
  And.intro ⟨ok_nop, mo_nop⟩ (
  And.intro ⟨ok_nop, mo_nop⟩ (
  And.intro ⟨ok_aload_n dX5_not_25 rfl rfl, mo_aload⟩ (
  And.intro ⟨ok_cvr (z := 50) dX5_not_26 hclX5 (by decide) wd_665 wd_667 wp_9 wd_5 wd_668 rfl (by decide) ⟨rfl, hy_X5_piece⟩ rfl, mo_cvr⟩ (
  And.intro ⟨ok_nop, mo_nop⟩ (
  And.intro ⟨ok_nop, mo_nop⟩ (
  And.intro ⟨ok_if_ne dX5_not_29 (by decide) rfl, mo_if⟩ (
  And.intro ⟨ok_nop, mo_nop⟩ (
  And.intro ⟨ok_nop, mo_nop⟩ (
  trivial))))))))))))))))
theorem rX5_not_2 : am_allR (fun pc o => am_ok am_tb0 cX5_not RX5 1 (some .boolean) false pc o ∧ am_mo o) 32 (am_nth [] tX5_not 2) :=
  And.intro ⟨ok_iconst dX5_not_32 rfl ic_0, mo_push⟩ (
  And.intro ⟨ok_nret dX5_not_33 rfl, mo_nret⟩ (
  And.intro ⟨ok_aload_n dX5_not_34 rfl rfl, mo_aload⟩ (
  And.intro ⟨ok_dup dX5_not_35 rfl, mo_dup⟩ (
  And.intro ⟨ok_getI dX5_not_36 hclX5 inWX5 (by decide) (by decide) wd_163 (fun _ _ _ => rfl) rfl, mo_getI⟩ (
  And.intro ⟨ok_nop, mo_nop⟩ (
  And.intro ⟨ok_nop, mo_nop⟩ (
  And.intro ⟨ok_iconst dX5_not_39 rfl ic_1, mo_push⟩ (
  And.intro ⟨ok_isub dX5_not_40 rfl, mo_bin⟩ (
  And.intro ⟨ok_putI dX5_not_41 hclX5 inWX5 tyX5_ok nmX5 (by decide) (by decide) wd_163 rfl (tyX5_ok 8 (by decide)) (fun _ _ _ => rfl) rfl, mo_putI⟩ (
  And.intro ⟨ok_nop, mo_nop⟩ (
  And.intro ⟨ok_nop, mo_nop⟩ (
  And.intro ⟨ok_aload_n dX5_not_44 rfl rfl, mo_aload⟩ (
  And.intro ⟨ok_bipush dX5_not_45 rfl bi_m33, mo_push⟩ (
  And.intro ⟨ok_nop, mo_nop⟩ (
  And.intro ⟨ok_cvp (z := 56) dX5_not_47 hclX5 (by decide) wd_673 wd_675 wp_11 wd_5 wd_676 rfl (by decide) ⟨rfl, hy_X5_put⟩ rfl, mo_cvp⟩ (
  trivial))))))))))))))))
theorem rX5_not_3 : am_allR (fun pc o => am_ok am_tb0 cX5_not RX5 1 (some .boolean) false pc o ∧ am_mo o) 48 (am_nth [] tX5_not 3) :=
  And.intro ⟨ok_nop, mo_nop⟩ (
  And.intro ⟨ok_nop, mo_nop⟩ (
  And.intro ⟨ok_iconst dX5_not_50 rfl ic_1, mo_push⟩ (
  And.intro ⟨ok_nret dX5_not_51 rfl, mo_nret⟩ (
  And.intro ⟨ok_nop, mo_nop⟩ (
  And.intro ⟨ok_nop, mo_nop⟩ (
  And.intro ⟨ok_nop, mo_nop⟩ (
  And.intro ⟨ok_nop, mo_nop⟩ (
  And.intro ⟨ok_nop, mo_nop⟩ (
  And.intro ⟨ok_nop, mo_nop⟩ (
  And.intro ⟨ok_nop, mo_nop⟩ (
  And.intro ⟨ok_nop, mo_nop⟩ (
  And.intro ⟨ok_nop, mo_nop⟩ (
  And.intro ⟨ok_nop, mo_nop⟩ (
  And.intro ⟨ok_nop, mo_nop⟩ (
  And.intro ⟨ok_nop, mo_nop⟩ (
  trivial))))))))))))))))
theorem kX5_not : am_M1 am_tb0 cX5_not RX5 1 (some .boolean) false tX5_not := And.intro rX5_not_0 (And.intro rX5_not_1 (And.intro rX5_not_2 (And.intro rX5_not_3 (trivial))))
def tX5_brackets : List (List am_Op) := [[o_aload 0 1, o_getI 5 11 7 4, am_nop, am_nop, o_push (.int 8) 6, am_nop, o_icmp (fun x y => x < y) 11 9, am_nop, am_nop, o_push (.int 0) 10, o_nret .boolean, o_aload 0 12, o_dup 13, o_getI 5 11 7 16, am_nop, am_nop],
  [o_push (.int 1) 17, o_bin (fun x y => x + y) 18, o_putI 5 11 7 21, am_nop, am_nop, o_aload 0 22, o_cvp 5 11 43 3 1 0 25, am_nop, am_nop, o_aload 0 26, o_push (.int 0) 27, o_cvr 5 11 47 4 1 30, am_nop, am_nop, o_if (fun x => x = 0) 42 33, am_nop],
  [am_nop, o_aload 0 34, o_getI 5 11 4 37, am_nop, am_nop, o_push (.int 41) 39, am_nop, o_icmp (fun x y => x = y) 44 42, am_nop, am_nop, o_push (.int 0) 43, o_nret .boolean, o_aload 0 45, o_dup 46, o_getI 5 11 7 49, am_nop],
  [am_nop, o_push (.int 1) 50, o_bin (fun x y => x - y) 51, o_putI 5 11 7 54, am_nop, am_nop, o_aload 0 55, o_cvp 5 11 43 3 1 0 58, am_nop, am_nop, o_push (.int 1) 59, o_nret .boolean, am_nop, am_nop, am_nop, am_nop]]
theorem rX5_brackets_0 : am_allR (fun pc o => am_ok am_tb0 cX5_brackets RX5 1 (some .boolean) false pc o ∧ am_mo o) 0 (am_nth [] tX5_brackets 0) :=
  And.intro ⟨ok_aload_n dX5_brackets_0 rfl rfl, mo_aload⟩ (
  And.intro ⟨ok_getI dX5_brackets_1 hclX5 inWX5 (by decide) (by decide) wd_162 (fun _ _ _ => rfl) rfl, mo_getI⟩ (
  And.intro ⟨ok_nop, mo_nop⟩ (
  And.intro ⟨ok_nop, mo_nop⟩ (
  And.intro ⟨ok_bipush dX5_brackets_4 rfl bi_8, mo_push⟩ (
  And.intro ⟨ok_nop, mo_nop⟩ (
  And.intro ⟨ok_icmp_lt dX5_brackets_6 (by decide) rfl, mo_icmp⟩ (
  And.intro ⟨ok_nop, mo_nop⟩ (
  And.intro ⟨ok_nop, mo_nop⟩ (
  And.intro ⟨ok_iconst dX5_brackets_9 rfl ic_0, mo_push⟩ (
  And.intro ⟨ok_nret dX5_brackets_10 rfl, mo_nret⟩ (
  And.intro ⟨ok_aload_n dX5_brackets_11 rfl rfl, mo_aload⟩ (
  And.intro ⟨ok_dup dX5_brackets_12 rfl, mo_dup⟩ (
  And.intro ⟨ok_getI dX5_brackets_13 hclX5 inWX5 (by decide) (by decide) wd_162 (fun _ _ _ => rfl) rfl, mo_getI⟩ (
  And.intro ⟨ok_nop, mo_nop⟩ (
  And.intro ⟨ok_nop, mo_nop⟩ (
  trivial))))))))))))))))
theorem rX5_brackets_1 : am_allR (fun pc o => am_ok am_tb0 cX5_brackets RX5 1 (some .boolean) false pc o ∧ am_mo o) 16 (am_nth [] tX5_brackets 1) :=
  And.intro ⟨ok_iconst dX5_brackets_16 rfl ic_1, mo_push⟩ (
  And.intro ⟨ok_iadd dX5_brackets_17 rfl, mo_bin⟩ (
  And.intro ⟨ok_putI dX5_brackets_18 hclX5 inWX5 tyX5_ok nmX5 (by decide) (by decide) wd_162 rfl (tyX5_ok 7 (by decide)) (fun _ _ _ => rfl) rfl, mo_putI⟩ (
  And.intro ⟨ok_nop, mo_nop⟩ (
  And.intro ⟨ok_nop, mo_nop⟩ (
  And.intro ⟨ok_aload_n dX5_brackets_21 rfl rfl, mo_aload⟩ (
  And.intro ⟨ok_cvp (z := 43) dX5_brackets_22 hclX5 (by decide) wd_591 wd_593 wp_4 wd_5 wd_594 rfl (by decide) ⟨rfl, hy_X5_step⟩ rfl, mo_cvp⟩ (
  And.intro ⟨ok_nop, mo_nop⟩ (
  And.intro ⟨ok_nop, mo_nop⟩ (
  And.intro ⟨ok_aload_n dX5_brackets_25 rfl rfl, mo_aload⟩ (
  And.intro ⟨ok_iconst dX5_brackets_26 rfl ic_0, mo_push⟩ (
  And.intro ⟨ok_cvr (z := 47) dX5_brackets_27 hclX5 (by decide) wd_657 wd_659 wp_7 wd_5 wd_660 rfl (by decide) ⟨rfl, hy_X5_joinedBy⟩ rfl, mo_cvr⟩ (
  And.intro ⟨ok_nop, mo_nop⟩ (
  And.intro ⟨ok_nop, mo_nop⟩ (
  And.intro ⟨ok_if_eq dX5_brackets_30 (by decide) rfl, mo_if⟩ (
  And.intro ⟨ok_nop, mo_nop⟩ (
  trivial))))))))))))))))
theorem rX5_brackets_2 : am_allR (fun pc o => am_ok am_tb0 cX5_brackets RX5 1 (some .boolean) false pc o ∧ am_mo o) 32 (am_nth [] tX5_brackets 2) :=
  And.intro ⟨ok_nop, mo_nop⟩ (
  And.intro ⟨ok_aload_n dX5_brackets_33 rfl rfl, mo_aload⟩ (
  And.intro ⟨ok_getI dX5_brackets_34 hclX5 inWX5 (by decide) (by decide) wd_159 (fun _ _ _ => rfl) rfl, mo_getI⟩ (
  And.intro ⟨ok_nop, mo_nop⟩ (
  And.intro ⟨ok_nop, mo_nop⟩ (
  And.intro ⟨ok_bipush dX5_brackets_37 rfl bi_41, mo_push⟩ (
  And.intro ⟨ok_nop, mo_nop⟩ (
  And.intro ⟨ok_icmp_eq dX5_brackets_39 (by decide) rfl, mo_icmp⟩ (
  And.intro ⟨ok_nop, mo_nop⟩ (
  And.intro ⟨ok_nop, mo_nop⟩ (
  And.intro ⟨ok_iconst dX5_brackets_42 rfl ic_0, mo_push⟩ (
  And.intro ⟨ok_nret dX5_brackets_43 rfl, mo_nret⟩ (
  And.intro ⟨ok_aload_n dX5_brackets_44 rfl rfl, mo_aload⟩ (
  And.intro ⟨ok_dup dX5_brackets_45 rfl, mo_dup⟩ (
  And.intro ⟨ok_getI dX5_brackets_46 hclX5 inWX5 (by decide) (by decide) wd_162 (fun _ _ _ => rfl) rfl, mo_getI⟩ (
  And.intro ⟨ok_nop, mo_nop⟩ (
  trivial))))))))))))))))
theorem rX5_brackets_3 : am_allR (fun pc o => am_ok am_tb0 cX5_brackets RX5 1 (some .boolean) false pc o ∧ am_mo o) 48 (am_nth [] tX5_brackets 3) :=
  And.intro ⟨ok_nop, mo_nop⟩ (
  And.intro ⟨ok_iconst dX5_brackets_49 rfl ic_1, mo_push⟩ (
  And.intro ⟨ok_isub dX5_brackets_50 rfl, mo_bin⟩ (
  And.intro ⟨ok_putI dX5_brackets_51 hclX5 inWX5 tyX5_ok nmX5 (by decide) (by decide) wd_162 rfl (tyX5_ok 7 (by decide)) (fun _ _ _ => rfl) rfl, mo_putI⟩ (
  And.intro ⟨ok_nop, mo_nop⟩ (
  And.intro ⟨ok_nop, mo_nop⟩ (
  And.intro ⟨ok_aload_n dX5_brackets_54 rfl rfl, mo_aload⟩ (
  And.intro ⟨ok_cvp (z := 43) dX5_brackets_55 hclX5 (by decide) wd_591 wd_593 wp_4 wd_5 wd_594 rfl (by decide) ⟨rfl, hy_X5_step⟩ rfl, mo_cvp⟩ (
  And.intro ⟨ok_nop, mo_nop⟩ (
  And.intro ⟨ok_nop, mo_nop⟩ (
  And.intro ⟨ok_iconst dX5_brackets_58 rfl ic_1, mo_push⟩ (
  And.intro ⟨ok_nret dX5_brackets_59 rfl, mo_nret⟩ (
  And.intro ⟨ok_nop, mo_nop⟩ (
  And.intro ⟨ok_nop, mo_nop⟩ (
  And.intro ⟨ok_nop, mo_nop⟩ (
  And.intro ⟨ok_nop, mo_nop⟩ (
  trivial))))))))))))))))
theorem kX5_brackets : am_M1 am_tb0 cX5_brackets RX5 1 (some .boolean) false tX5_brackets := And.intro rX5_brackets_0 (And.intro rX5_brackets_1 (And.intro rX5_brackets_2 (And.intro rX5_brackets_3 (trivial))))
def tX5_put : List (List am_Op) := [[o_aload 0 1, o_getI 5 11 10 4, am_nop, am_nop, o_aload 0 5, o_getR 5 11 9 8, am_nop, am_nop, o_alen 20 9, o_icmp (fun x y => y ≤ x) 32 12, am_nop, am_nop, o_aload 0 13, o_getR 5 11 9 16, am_nop, am_nop],
  [o_aload 0 17, o_getI 5 11 10 20, am_nop, am_nop, o_iload 1 21, o_iast 22, o_aload 0 23, o_dup 24, o_getI 5 11 10 27, am_nop, am_nop, o_push (.int 1) 28, o_bin (fun x y => x + y) 29, o_putI 5 11 10 32, am_nop, am_nop],
  [o_ret, am_nop, am_nop, am_nop, am_nop, am_nop, am_nop, am_nop, am_nop, am_nop, am_nop, am_nop, am_nop, am_nop, am_nop, am_nop]]
theorem rX5_put_0 : am_allR (fun pc o => am_ok am_tb0 cX5_put RX5 2 none false pc o ∧ am_mo o) 0 (am_nth [] tX5_put 0) :=
  And.intro ⟨ok_aload_n dX5_put_0 rfl rfl, mo_aload⟩ (
  And.intro ⟨ok_getI dX5_put_1 hclX5 inWX5 (by decide) (by decide) wd_165 (fun _ _ _ => rfl) rfl, mo_getI⟩ (
  And.intro ⟨ok_nop, mo_nop⟩ (
  And.intro ⟨ok_nop, mo_nop⟩ (
  And.intro ⟨ok_aload_n dX5_put_4 rfl rfl, mo_aload⟩ (
  And.intro ⟨ok_getR dX5_put_5 hclX5 inWX5 (by decide) (by decide) wd_164 (fun _ _ _ => rfl) rfl, mo_getR⟩ (
  And.intro ⟨ok_nop, mo_nop⟩ (
  And.intro ⟨ok_nop, mo_nop⟩ (
  And.intro ⟨ok_alenI dX5_put_8 rfl, mo_alen⟩ (
  And.intro ⟨ok_icmp_ge dX5_put_9 (by decide) rfl, mo_icmp⟩ (
  And.intro ⟨ok_nop, mo_nop⟩ (
  And.intro ⟨ok_nop, mo_nop⟩ (
  And.intro ⟨ok_aload_n dX5_put_12 rfl rfl, mo_aload⟩ (
  And.intro ⟨ok_getR dX5_put_13 hclX5 inWX5 (by decide) (by decide) wd_164 (fun _ _ _ => rfl) rfl, mo_getR⟩ (
  And.intro ⟨ok_nop, mo_nop⟩ (
  And.intro ⟨ok_nop, mo_nop⟩ (
  trivial))))))))))))))))
theorem rX5_put_1 : am_allR (fun pc o => am_ok am_tb0 cX5_put RX5 2 none false pc o ∧ am_mo o) 16 (am_nth [] tX5_put 1) :=
  And.intro ⟨ok_aload_n dX5_put_16 rfl rfl, mo_aload⟩ (
  And.intro ⟨ok_getI dX5_put_17 hclX5 inWX5 (by decide) (by decide) wd_165 (fun _ _ _ => rfl) rfl, mo_getI⟩ (
  And.intro ⟨ok_nop, mo_nop⟩ (
  And.intro ⟨ok_nop, mo_nop⟩ (
  And.intro ⟨ok_iload_n dX5_put_20 rfl rfl, mo_iload⟩ (
  And.intro ⟨ok_iast dX5_put_21 rfl, mo_iast⟩ (
  And.intro ⟨ok_aload_n dX5_put_22 rfl rfl, mo_aload⟩ (
  And.intro ⟨ok_dup dX5_put_23 rfl, mo_dup⟩ (
  And.intro ⟨ok_getI dX5_put_24 hclX5 inWX5 (by decide) (by decide) wd_165 (fun _ _ _ => rfl) rfl, mo_getI⟩ (
  And.intro ⟨ok_nop, mo_nop⟩ (
  And.intro ⟨ok_nop, mo_nop⟩ (
  And.intro ⟨ok_iconst dX5_put_27 rfl ic_1, mo_push⟩ (
  And.intro ⟨ok_iadd dX5_put_28 rfl, mo_bin⟩ (
  And.intro ⟨ok_putI dX5_put_29 hclX5 inWX5 tyX5_ok nmX5 (by decide) (by decide) wd_165 rfl (tyX5_ok 10 (by decide)) (fun _ _ _ => rfl) rfl, mo_putI⟩ (
  And.intro ⟨ok_nop, mo_nop⟩ (
  And.intro ⟨ok_nop, mo_nop⟩ (
  trivial))))))))))))))))
theorem rX5_put_2 : am_allR (fun pc o => am_ok am_tb0 cX5_put RX5 2 none false pc o ∧ am_mo o) 32 (am_nth [] tX5_put 2) :=
  And.intro ⟨ok_ret dX5_put_32 rfl, mo_ret⟩ (
  And.intro ⟨ok_nop, mo_nop⟩ (
  And.intro ⟨ok_nop, mo_nop⟩ (
  And.intro ⟨ok_nop, mo_nop⟩ (
  And.intro ⟨ok_nop, mo_nop⟩ (
  And.intro ⟨ok_nop, mo_nop⟩ (
  And.intro ⟨ok_nop, mo_nop⟩ (
  And.intro ⟨ok_nop, mo_nop⟩ (
  And.intro ⟨ok_nop, mo_nop⟩ (
  And.intro ⟨ok_nop, mo_nop⟩ (
  And.intro ⟨ok_nop, mo_nop⟩ (
  And.intro ⟨ok_nop, mo_nop⟩ (
  And.intro ⟨ok_nop, mo_nop⟩ (
  And.intro ⟨ok_nop, mo_nop⟩ (
  And.intro ⟨ok_nop, mo_nop⟩ (
  And.intro ⟨ok_nop, mo_nop⟩ (
  trivial))))))))))))))))
theorem kX5_put : am_M1 am_tb0 cX5_put RX5 2 none false tX5_put := And.intro rX5_put_0 (And.intro rX5_put_1 (And.intro rX5_put_2 (trivial)))
def tX6_init : List (List am_Op) := [[o_aload 0 1, o_oinit 4, am_nop, am_nop, o_aload 0 5, o_iload 1 6, o_putI 6 4 0 9, am_nop, am_nop, o_aload 0 10, o_iload 2 11, o_putI 6 4 1 14, am_nop, am_nop, o_aload 0 15, o_aload 3 16],
  [o_putR 6 4 2 19, am_nop, am_nop, o_aload 0 20, o_aload 3 21, o_alen 20 22, o_newa 20 24, am_nop, o_putR 6 4 3 27, am_nop, am_nop, o_ret, am_nop, am_nop, am_nop, am_nop]]
theorem rX6_init_0 : am_allR (fun pc o => am_ok am_tb0 cX6_init RX6 4 none true pc o ∧ am_mo o) 0 (am_nth [] tX6_init 0) :=
  And.intro ⟨ok_aload_n dX6_init_0 rfl rfl, mo_aload⟩ (
  And.intro ⟨ok_oinit dX6_init_1 wd_771 wd_24 wd_25 rfl, mo_oinit⟩ (
  And.intro ⟨ok_nop, mo_nop⟩ (
  And.intro ⟨ok_nop, mo_nop⟩ (
  And.intro ⟨ok_aload_n dX6_init_4 rfl rfl, mo_aload⟩ (
  And.intro ⟨ok_iload_n dX6_init_5 rfl rfl, mo_iload⟩ (
  And.intro ⟨ok_putIF dX6_init_6 hclX6 inWX6 tyX6_ok nmX6 (by decide) (by decide) wd_772 rfl rfl rfl (tyX6_ok 0 (by decide)) (fun _ _ _ => rfl) rfl, mo_putI⟩ (
  And.intro ⟨ok_nop, mo_nop⟩ (
  And.intro ⟨ok_nop, mo_nop⟩ (
  And.intro ⟨ok_aload_n dX6_init_9 rfl rfl, mo_aload⟩ (
  And.intro ⟨ok_iload_n dX6_init_10 rfl rfl, mo_iload⟩ (
  And.intro ⟨ok_putIF dX6_init_11 hclX6 inWX6 tyX6_ok nmX6 (by decide) (by decide) wd_775 rfl rfl rfl (tyX6_ok 1 (by decide)) (fun _ _ _ => rfl) rfl, mo_putI⟩ (
  And.intro ⟨ok_nop, mo_nop⟩ (
  And.intro ⟨ok_nop, mo_nop⟩ (
  And.intro ⟨ok_aload_n dX6_init_14 rfl rfl, mo_aload⟩ (
  And.intro ⟨ok_aload_n dX6_init_15 rfl rfl, mo_aload⟩ (
  trivial))))))))))))))))
theorem rX6_init_1 : am_allR (fun pc o => am_ok am_tb0 cX6_init RX6 4 none true pc o ∧ am_mo o) 16 (am_nth [] tX6_init 1) :=
  And.intro ⟨ok_putRF dX6_init_16 hclX6 inWX6 tyX6_ok nmX6 (by decide) (by decide) wd_777 rfl rfl rfl (tyX6_ok 2 (by decide)) (Or.inr ⟨_, rfl⟩) (fun _ _ _ => rfl) rfl, mo_putR⟩ (
  And.intro ⟨ok_nop, mo_nop⟩ (
  And.intro ⟨ok_nop, mo_nop⟩ (
  And.intro ⟨ok_aload_n dX6_init_19 rfl rfl, mo_aload⟩ (
  And.intro ⟨ok_aload_n dX6_init_20 rfl rfl, mo_aload⟩ (
  And.intro ⟨ok_alenI dX6_init_21 rfl, mo_alen⟩ (
  And.intro ⟨ok_newI dX6_init_22 wd_65 rfl, mo_newa⟩ (
  And.intro ⟨ok_nop, mo_nop⟩ (
  And.intro ⟨ok_putRF dX6_init_24 hclX6 inWX6 tyX6_ok nmX6 (by decide) (by decide) wd_778 rfl rfl rfl (tyX6_ok 3 (by decide)) (Or.inr ⟨_, rfl⟩) (fun _ _ _ => rfl) rfl, mo_putR⟩ (
  And.intro ⟨ok_nop, mo_nop⟩ (
  And.intro ⟨ok_nop, mo_nop⟩ (
  And.intro ⟨ok_ret dX6_init_27 rfl, mo_ret⟩ (
  And.intro ⟨ok_nop, mo_nop⟩ (
  And.intro ⟨ok_nop, mo_nop⟩ (
  And.intro ⟨ok_nop, mo_nop⟩ (
  And.intro ⟨ok_nop, mo_nop⟩ (
  trivial))))))))))))))))
theorem kX6_init : am_M1 am_tb0 cX6_init RX6 4 none true tX6_init := And.intro rX6_init_0 (And.intro rX6_init_1 (trivial))
def tX6_value : List (List am_Op) := [[o_push (.int 0) 1, o_istore 4 3, am_nop, o_push (.int 0) 4, o_istore 5 6, am_nop, o_iload 5 8, am_nop, o_aload 0 9, o_getR 6 4 2 12, am_nop, am_nop, o_alen 20 13, o_icmp (fun x y => y ≤ x) 151 16, am_nop, am_nop],
  [o_aload 0 17, o_getR 6 4 2 20, am_nop, am_nop, o_iload 5 22, am_nop, o_iald 20 23, o_istore 6 25, am_nop, o_iload 6 27, am_nop, o_push (.int (-3)) 29, am_nop, o_icmp (fun x y => x < y) 63 32, am_nop, am_nop],
  [o_iload 4 34, am_nop, o_aload 0 35, o_getR 6 4 3 38, am_nop, am_nop, o_alen 20 39, o_icmp (fun x y => y ≤ x) 63 42, am_nop, am_nop, o_aload 0 43, o_getR 6 4 3 46, am_nop, am_nop, o_iload 4 48, am_nop],
  [o_iload 6 50, am_nop, o_iload 1 51, o_iload 2 52, o_iload 3 53, o_cs 59 4 0 4 56, am_nop, am_nop, o_iast 57, o_iinc 4 1 60, am_nop, am_nop, o_goto 145, am_nop, am_nop, o_iload 6 65],
  [am_nop, o_push (.int (-33)) 67, am_nop, o_icmp (fun x y => ¬ x = y) 105 70, am_nop, am_nop, o_iload 4 72, am_nop, o_push (.int 1) 73, o_icmp (fun x y => x < y) 105 76, am_nop, am_nop, o_aload 0 77, o_getR 6 4 3 80, am_nop, am_nop],
  [o_iload 4 82, am_nop, o_push (.int 1) 83, o_bin (fun x y => x - y) 84, o_aload 0 85, o_getR 6 4 3 88, am_nop, am_nop, o_iload 4 90, am_nop, o_push (.int 1) 91, o_bin (fun x y => x - y) 92, o_iald 20 93, o_if (fun x => ¬ x = 0) 100 96, am_nop, am_nop],
  [o_push (.int 1) 97, o_goto 101, am_nop, am_nop, o_push (.int 0) 101, o_iast 102, o_goto 145, am_nop, am_nop, o_iload 4 107, am_nop, o_push (.int 2) 108, o_icmp (fun x y => x < y) 145 111, am_nop, am_nop, o_iinc 4 (-1) 114],
  [am_nop, am_nop, o_aload 0 115, o_getR 6 4 3 118, am_nop, am_nop, o_iload 4 120, am_nop, o_push (.int 1) 121, o_bin (fun x y => x - y) 122, o_iload 6 124, am_nop, o_un (fun x => -x) 125, o_aload 0 126, o_getR 6 4 3 129, am_nop],
  [am_nop, o_iload 4 131, am_nop, o_push (.int 1) 132, o_bin (fun x y => x - y) 133, o_iald 20 134, o_aload 0 135, o_getR 6 4 3 138, am_nop, am_nop, o_iload 4 140, am_nop, o_iald 20 141, o_cs 60 3 0 3 144, am_nop, am_nop],
  [o_iast 145, o_iinc 5 1 148, am_nop, am_nop, o_goto 6, am_nop, am_nop, o_iload 4 153, am_nop, o_push (.int 1) 154, o_icmp (fun x y => x < y) 169 157, am_nop, am_nop, o_aload 0 158, o_getR 6 4 3 161, am_nop],
  [am_nop, o_iload 4 163, am_nop, o_push (.int 1) 164, o_bin (fun x y => x - y) 165, o_iald 20 166, o_goto 170, am_nop, am_nop, o_push (.int 0) 170, o_iret, am_nop, am_nop, am_nop, am_nop, am_nop]]
theorem rX6_value_0 : am_allR (fun pc o => am_ok am_tb0 cX6_value RX6 7 (some .int) false pc o ∧ am_mo o) 0 (am_nth [] tX6_value 0) :=
  And.intro ⟨ok_iconst dX6_value_0 rfl ic_0, mo_push⟩ (
  And.intro ⟨ok_istore dX6_value_1 (by decide) rfl, mo_istore⟩ (
  And.intro ⟨ok_nop, mo_nop⟩ (
  And.intro ⟨ok_iconst dX6_value_3 rfl ic_0, mo_push⟩ (
  And.intro ⟨ok_istore dX6_value_4 (by decide) rfl, mo_istore⟩ (
  And.intro ⟨ok_nop, mo_nop⟩ (
  And.intro ⟨ok_iload dX6_value_6 rfl, mo_iload⟩ (
  And.intro ⟨ok_nop, mo_nop⟩ (
  And.intro ⟨ok_aload_n dX6_value_8 rfl rfl, mo_aload⟩ (
  And.intro ⟨ok_getR dX6_value_9 hclX6 inWX6 (by decide) (by decide) wd_777 (fun _ _ _ => rfl) rfl, mo_getR⟩ (
  And.intro ⟨ok_nop, mo_nop⟩ (
  And.intro ⟨ok_nop, mo_nop⟩ (
  And.intro ⟨ok_alenI dX6_value_12 rfl, mo_alen⟩ (
  And.intro ⟨ok_icmp_ge dX6_value_13 (by decide) rfl, mo_icmp⟩ (
  And.intro ⟨ok_nop, mo_nop⟩ (
  And.intro ⟨ok_nop, mo_nop⟩ (
  trivial))))))))))))))))
theorem rX6_value_1 : am_allR (fun pc o => am_ok am_tb0 cX6_value RX6 7 (some .int) false pc o ∧ am_mo o) 16 (am_nth [] tX6_value 1) :=
  And.intro ⟨ok_aload_n dX6_value_16 rfl rfl, mo_aload⟩ (
  And.intro ⟨ok_getR dX6_value_17 hclX6 inWX6 (by decide) (by decide) wd_777 (fun _ _ _ => rfl) rfl, mo_getR⟩ (
  And.intro ⟨ok_nop, mo_nop⟩ (
  And.intro ⟨ok_nop, mo_nop⟩ (
  And.intro ⟨ok_iload dX6_value_20 rfl, mo_iload⟩ (
  And.intro ⟨ok_nop, mo_nop⟩ (
  And.intro ⟨ok_iald dX6_value_22 rfl, mo_iald⟩ (
  And.intro ⟨ok_istore dX6_value_23 (by decide) rfl, mo_istore⟩ (
  And.intro ⟨ok_nop, mo_nop⟩ (
  And.intro ⟨ok_iload dX6_value_25 rfl, mo_iload⟩ (
  And.intro ⟨ok_nop, mo_nop⟩ (
  And.intro ⟨ok_bipush dX6_value_27 rfl bi_m3, mo_push⟩ (
  And.intro ⟨ok_nop, mo_nop⟩ (
  And.intro ⟨ok_icmp_lt dX6_value_29 (by decide) rfl, mo_icmp⟩ (
  And.intro ⟨ok_nop, mo_nop⟩ (
  And.intro ⟨ok_nop, mo_nop⟩ (
  trivial))))))))))))))))
theorem rX6_value_2 : am_allR (fun pc o => am_ok am_tb0 cX6_value RX6 7 (some .int) false pc o ∧ am_mo o) 32 (am_nth [] tX6_value 2) :=
  And.intro ⟨ok_iload dX6_value_32 rfl, mo_iload⟩ (
  And.intro ⟨ok_nop, mo_nop⟩ (
  And.intro ⟨ok_aload_n dX6_value_34 rfl rfl, mo_aload⟩ (
  And.intro ⟨ok_getR dX6_value_35 hclX6 inWX6 (by decide) (by decide) wd_778 (fun _ _ _ => rfl) rfl, mo_getR⟩ (
  And.intro ⟨ok_nop, mo_nop⟩ (
  And.intro ⟨ok_nop, mo_nop⟩ (
  And.intro ⟨ok_alenI dX6_value_38 rfl, mo_alen⟩ (
  And.intro ⟨ok_icmp_ge dX6_value_39 (by decide) rfl, mo_icmp⟩ (
  And.intro ⟨ok_nop, mo_nop⟩ (
  And.intro ⟨ok_nop, mo_nop⟩ (
  And.intro ⟨ok_aload_n dX6_value_42 rfl rfl, mo_aload⟩ (
  And.intro ⟨ok_getR dX6_value_43 hclX6 inWX6 (by decide) (by decide) wd_778 (fun _ _ _ => rfl) rfl, mo_getR⟩ (
  And.intro ⟨ok_nop, mo_nop⟩ (
  And.intro ⟨ok_nop, mo_nop⟩ (
  And.intro ⟨ok_iload dX6_value_46 rfl, mo_iload⟩ (
  And.intro ⟨ok_nop, mo_nop⟩ (
  trivial))))))))))))))))
theorem rX6_value_3 : am_allR (fun pc o => am_ok am_tb0 cX6_value RX6 7 (some .int) false pc o ∧ am_mo o) 48 (am_nth [] tX6_value 3) :=
  And.intro ⟨ok_iload dX6_value_48 rfl, mo_iload⟩ (
  And.intro ⟨ok_nop, mo_nop⟩ (
  And.intro ⟨ok_iload_n dX6_value_50 rfl rfl, mo_iload⟩ (
  And.intro ⟨ok_iload_n dX6_value_51 rfl rfl, mo_iload⟩ (
  And.intro ⟨ok_iload_n dX6_value_52 rfl rfl, mo_iload⟩ (
  And.intro ⟨ok_cs (z := 59) dX6_value_53 wd_355 wd_356 wd_9 wd_357 rfl (by decide) hy_X6_plain rfl, mo_cs⟩ (
  And.intro ⟨ok_nop, mo_nop⟩ (
  And.intro ⟨ok_nop, mo_nop⟩ (
  And.intro ⟨ok_iast dX6_value_56 rfl, mo_iast⟩ (
  And.intro ⟨ok_iinc dX6_value_57 ic_1 (by decide) rfl, mo_iinc⟩ (
  And.intro ⟨ok_nop, mo_nop⟩ (
  And.intro ⟨ok_nop, mo_nop⟩ (
  And.intro ⟨ok_goto dX6_value_60 (by decide), mo_goto⟩ (
  And.intro ⟨ok_nop, mo_nop⟩ (
  And.intro ⟨ok_nop, mo_nop⟩ (
  And.intro ⟨ok_iload dX6_value_63 rfl, mo_iload⟩ (
  trivial))))))))))))))))
theorem rX6_value_4 : am_allR (fun pc o => am_ok am_tb0 cX6_value RX6 7 (some .int) false pc o ∧ am_mo o) 64 (am_nth [] tX6_value 4) :=
  And.intro ⟨ok_nop, mo_nop⟩ (
  And.intro ⟨ok_bipush dX6_value_65 rfl bi_m33, mo_push⟩ (
  And.intro ⟨ok_nop, mo_nop⟩ (
  And.intro ⟨ok_icmp_ne dX6_value_67 (by decide) rfl, mo_icmp⟩ (
  And.intro ⟨ok_nop, mo_nop⟩ (
  And.intro ⟨ok_nop, mo_nop⟩ (
  And.intro ⟨ok_iload dX6_value_70 rfl, mo_iload⟩ (
  And.intro ⟨ok_nop, mo_nop⟩ (
  And.intro ⟨ok_iconst dX6_value_72 rfl ic_1, mo_push⟩ (
  And.intro ⟨ok_icmp_lt dX6_value_73 (by decide) rfl, mo_icmp⟩ (
  And.intro ⟨ok_nop, mo_nop⟩ (
  And.intro ⟨ok_nop, mo_nop⟩ (
  And.intro ⟨ok_aload_n dX6_value_76 rfl rfl, mo_aload⟩ (
  And.intro ⟨ok_getR dX6_value_77 hclX6 inWX6 (by decide) (by decide) wd_778 (fun _ _ _ => rfl) rfl, mo_getR⟩ (
  And.intro ⟨ok_nop, mo_nop⟩ (
  And.intro ⟨ok_nop, mo_nop⟩ (
  trivial))))))))))))))))
theorem rX6_value_5 : am_allR (fun pc o => am_ok am_tb0 cX6_value RX6 7 (some .int) false pc o ∧ am_mo o) 80 (am_nth [] tX6_value 5) :=
  And.intro ⟨ok_iload dX6_value_80 rfl, mo_iload⟩ (
  And.intro ⟨ok_nop, mo_nop⟩ (
  And.intro ⟨ok_iconst dX6_value_82 rfl ic_1, mo_push⟩ (
  And.intro ⟨ok_isub dX6_value_83 rfl, mo_bin⟩ (
  And.intro ⟨ok_aload_n dX6_value_84 rfl rfl, mo_aload⟩ (
  And.intro ⟨ok_getR dX6_value_85 hclX6 inWX6 (by decide) (by decide) wd_778 (fun _ _ _ => rfl) rfl, mo_getR⟩ (
  And.intro ⟨ok_nop, mo_nop⟩ (
  And.intro ⟨ok_nop, mo_nop⟩ (
  And.intro ⟨ok_iload dX6_value_88 rfl, mo_iload⟩ (
  And.intro ⟨ok_nop, mo_nop⟩ (
  And.intro ⟨ok_iconst dX6_value_90 rfl ic_1, mo_push⟩ (
  And.intro ⟨ok_isub dX6_value_91 rfl, mo_bin⟩ (
  And.intro ⟨ok_iald dX6_value_92 rfl, mo_iald⟩ (
  And.intro ⟨ok_if_ne dX6_value_93 (by decide) rfl, mo_if⟩ (
  And.intro ⟨ok_nop, mo_nop⟩ (
  And.intro ⟨ok_nop, mo_nop⟩ (
  trivial))))))))))))))))
theorem rX6_value_6 : am_allR (fun pc o => am_ok am_tb0 cX6_value RX6 7 (some .int) false pc o ∧ am_mo o) 96 (am_nth [] tX6_value 6) :=
  And.intro ⟨ok_iconst dX6_value_96 rfl ic_1, mo_push⟩ (
  And.intro ⟨ok_goto dX6_value_97 (by decide), mo_goto⟩ (
  And.intro ⟨ok_nop, mo_nop⟩ (
  And.intro ⟨ok_nop, mo_nop⟩ (
  And.intro ⟨ok_iconst dX6_value_100 rfl ic_0, mo_push⟩ (
  And.intro ⟨ok_iast dX6_value_101 rfl, mo_iast⟩ (
  And.intro ⟨ok_goto dX6_value_102 (by decide), mo_goto⟩ (
  And.intro ⟨ok_nop, mo_nop⟩ (
  And.intro ⟨ok_nop, mo_nop⟩ (
  And.intro ⟨ok_iload dX6_value_105 rfl, mo_iload⟩ (
  And.intro ⟨ok_nop, mo_nop⟩ (
  And.intro ⟨ok_iconst dX6_value_107 rfl ic_2, mo_push⟩ (
  And.intro ⟨ok_icmp_lt dX6_value_108 (by decide) rfl, mo_icmp⟩ (
  And.intro ⟨ok_nop, mo_nop⟩ (
  And.intro ⟨ok_nop, mo_nop⟩ (
  And.intro ⟨ok_iinc dX6_value_111 ic_m1 (by decide) rfl, mo_iinc⟩ (
  trivial))))))))))))))))
theorem rX6_value_7 : am_allR (fun pc o => am_ok am_tb0 cX6_value RX6 7 (some .int) false pc o ∧ am_mo o) 112 (am_nth [] tX6_value 7) :=
  And.intro ⟨ok_nop, mo_nop⟩ (
  And.intro ⟨ok_nop, mo_nop⟩ (
  And.intro ⟨ok_aload_n dX6_value_114 rfl rfl, mo_aload⟩ (
  And.intro ⟨ok_getR dX6_value_115 hclX6 inWX6 (by decide) (by decide) wd_778 (fun _ _ _ => rfl) rfl, mo_getR⟩ (
  And.intro ⟨ok_nop, mo_nop⟩ (
  And.intro ⟨ok_nop, mo_nop⟩ (
  And.intro ⟨ok_iload dX6_value_118 rfl, mo_iload⟩ (
  And.intro ⟨ok_nop, mo_nop⟩ (
  And.intro ⟨ok_iconst dX6_value_120 rfl ic_1, mo_push⟩ (
  And.intro ⟨ok_isub dX6_value_121 rfl, mo_bin⟩ (
  And.intro ⟨ok_iload dX6_value_122 rfl, mo_iload⟩ (
  And.intro ⟨ok_nop, mo_nop⟩ (
  And.intro ⟨ok_ineg dX6_value_124 rfl, mo_un⟩ (
  And.intro ⟨ok_aload_n dX6_value_125 rfl rfl, mo_aload⟩ (
  And.intro ⟨ok_getR dX6_value_126 hclX6 inWX6 (by decide) (by decide) wd_778 (fun _ _ _ => rfl) rfl, mo_getR⟩ (
  And.intro ⟨ok_nop, mo_nop⟩ (
  trivial))))))))))))))))
theorem rX6_value_8 : am_allR (fun pc o => am_ok am_tb0 cX6_value RX6 7 (some .int) false pc o ∧ am_mo o) 128 (am_nth [] tX6_value 8) :=
  And.intro ⟨ok_nop, mo_nop⟩ (
  And.intro ⟨ok_iload dX6_value_129 rfl, mo_iload⟩ (
  And.intro ⟨ok_nop, mo_nop⟩ (
  And.intro ⟨ok_iconst dX6_value_131 rfl ic_1, mo_push⟩ (
  And.intro ⟨ok_isub dX6_value_132 rfl, mo_bin⟩ (
  And.intro ⟨ok_iald dX6_value_133 rfl, mo_iald⟩ (
  And.intro ⟨ok_aload_n dX6_value_134 rfl rfl, mo_aload⟩ (
  And.intro ⟨ok_getR dX6_value_135 hclX6 inWX6 (by decide) (by decide) wd_778 (fun _ _ _ => rfl) rfl, mo_getR⟩ (
  And.intro ⟨ok_nop, mo_nop⟩ (
  And.intro ⟨ok_nop, mo_nop⟩ (
  And.intro ⟨ok_iload dX6_value_138 rfl, mo_iload⟩ (
  And.intro ⟨ok_nop, mo_nop⟩ (
  And.intro ⟨ok_iald dX6_value_140 rfl, mo_iald⟩ (
  And.intro ⟨ok_cs (z := 60) dX6_value_141 wd_358 wd_359 wd_9 wd_360 rfl (by decide) hy_X6_joined rfl, mo_cs⟩ (
  And.intro ⟨ok_nop, mo_nop⟩ (
  And.intro ⟨ok_nop, mo_nop⟩ (
  trivial))))))))))))))))
theorem rX6_value_9 : am_allR (fun pc o => am_ok am_tb0 cX6_value RX6 7 (some .int) false pc o ∧ am_mo o) 144 (am_nth [] tX6_value 9) :=
  And.intro ⟨ok_iast dX6_value_144 rfl, mo_iast⟩ (
  And.intro ⟨ok_iinc dX6_value_145 ic_1 (by decide) rfl, mo_iinc⟩ (
  And.intro ⟨ok_nop, mo_nop⟩ (
  And.intro ⟨ok_nop, mo_nop⟩ (
  And.intro ⟨ok_goto dX6_value_148 (by decide), mo_goto⟩ (
  And.intro ⟨ok_nop, mo_nop⟩ (
  And.intro ⟨ok_nop, mo_nop⟩ (
  And.intro ⟨ok_iload dX6_value_151 rfl, mo_iload⟩ (
  And.intro ⟨ok_nop, mo_nop⟩ (
  And.intro ⟨ok_iconst dX6_value_153 rfl ic_1, mo_push⟩ (
  And.intro ⟨ok_icmp_lt dX6_value_154 (by decide) rfl, mo_icmp⟩ (
  And.intro ⟨ok_nop, mo_nop⟩ (
  And.intro ⟨ok_nop, mo_nop⟩ (
  And.intro ⟨ok_aload_n dX6_value_157 rfl rfl, mo_aload⟩ (
  And.intro ⟨ok_getR dX6_value_158 hclX6 inWX6 (by decide) (by decide) wd_778 (fun _ _ _ => rfl) rfl, mo_getR⟩ (
  And.intro ⟨ok_nop, mo_nop⟩ (
  trivial))))))))))))))))
theorem rX6_value_10 : am_allR (fun pc o => am_ok am_tb0 cX6_value RX6 7 (some .int) false pc o ∧ am_mo o) 160 (am_nth [] tX6_value 10) :=
  And.intro ⟨ok_nop, mo_nop⟩ (
  And.intro ⟨ok_iload dX6_value_161 rfl, mo_iload⟩ (
  And.intro ⟨ok_nop, mo_nop⟩ (
  And.intro ⟨ok_iconst dX6_value_163 rfl ic_1, mo_push⟩ (
  And.intro ⟨ok_isub dX6_value_164 rfl, mo_bin⟩ (
  And.intro ⟨ok_iald dX6_value_165 rfl, mo_iald⟩ (
  And.intro ⟨ok_goto dX6_value_166 (by decide), mo_goto⟩ (
  And.intro ⟨ok_nop, mo_nop⟩ (
  And.intro ⟨ok_nop, mo_nop⟩ (
  And.intro ⟨ok_iconst dX6_value_169 rfl ic_0, mo_push⟩ (
  And.intro ⟨ok_iret dX6_value_170 rfl, mo_iret⟩ (
  And.intro ⟨ok_nop, mo_nop⟩ (
  And.intro ⟨ok_nop, mo_nop⟩ (
  And.intro ⟨ok_nop, mo_nop⟩ (
  And.intro ⟨ok_nop, mo_nop⟩ (
  And.intro ⟨ok_nop, mo_nop⟩ (
  trivial))))))))))))))))
theorem kX6_value : am_M1 am_tb0 cX6_value RX6 7 (some .int) false tX6_value := And.intro rX6_value_0 (And.intro rX6_value_1 (And.intro rX6_value_2 (And.intro rX6_value_3 (And.intro rX6_value_4 (And.intro rX6_value_5 (And.intro rX6_value_6 (And.intro rX6_value_7 (And.intro rX6_value_8 (And.intro rX6_value_9 (And.intro rX6_value_10 (trivial)))))))))))
def tX6_plain : List (List am_Op) := [[o_iload 0 1, o_sw [((-3), 32), ((-2), 30), ((-1), 28)] 34, am_nop, am_nop, am_nop, am_nop, am_nop, am_nop, am_nop, am_nop, am_nop, am_nop, am_nop, am_nop, am_nop, am_nop],
  [am_nop, am_nop, am_nop, am_nop, am_nop, am_nop, am_nop, am_nop, am_nop, am_nop, am_nop, am_nop, o_iload 1 29, o_iret, o_iload 2 31, o_iret],
  [o_iload 3 33, o_iret, o_iload 0 35, o_iret, am_nop, am_nop, am_nop, am_nop, am_nop, am_nop, am_nop, am_nop, am_nop, am_nop, am_nop, am_nop]]
theorem rX6_plain_0 : am_allR (fun pc o => am_ok am_tb0 cX6_plain RX6 4 (some .int) false pc o ∧ am_mo o) 0 (am_nth [] tX6_plain 0) :=
  And.intro ⟨ok_iload_n dX6_plain_0 rfl rfl, mo_iload⟩ (
  And.intro ⟨ok_table dX6_plain_1 (by decide) (by decide +kernel) (by decide +kernel), mo_sw⟩ (
  And.intro ⟨ok_nop, mo_nop⟩ (
  And.intro ⟨ok_nop, mo_nop⟩ (
  And.intro ⟨ok_nop, mo_nop⟩ (
  And.intro ⟨ok_nop, mo_nop⟩ (
  And.intro ⟨ok_nop, mo_nop⟩ (
  And.intro ⟨ok_nop, mo_nop⟩ (
  And.intro ⟨ok_nop, mo_nop⟩ (
  And.intro ⟨ok_nop, mo_nop⟩ (
  And.intro ⟨ok_nop, mo_nop⟩ (
  And.intro ⟨ok_nop, mo_nop⟩ (
  And.intro ⟨ok_nop, mo_nop⟩ (
  And.intro ⟨ok_nop, mo_nop⟩ (
  And.intro ⟨ok_nop, mo_nop⟩ (
  And.intro ⟨ok_nop, mo_nop⟩ (
  trivial))))))))))))))))
theorem rX6_plain_1 : am_allR (fun pc o => am_ok am_tb0 cX6_plain RX6 4 (some .int) false pc o ∧ am_mo o) 16 (am_nth [] tX6_plain 1) :=
  And.intro ⟨ok_nop, mo_nop⟩ (
  And.intro ⟨ok_nop, mo_nop⟩ (
  And.intro ⟨ok_nop, mo_nop⟩ (
  And.intro ⟨ok_nop, mo_nop⟩ (
  And.intro ⟨ok_nop, mo_nop⟩ (
  And.intro ⟨ok_nop, mo_nop⟩ (
  And.intro ⟨ok_nop, mo_nop⟩ (
  And.intro ⟨ok_nop, mo_nop⟩ (
  And.intro ⟨ok_nop, mo_nop⟩ (
  And.intro ⟨ok_nop, mo_nop⟩ (
  And.intro ⟨ok_nop, mo_nop⟩ (
  And.intro ⟨ok_nop, mo_nop⟩ (
  And.intro ⟨ok_iload_n dX6_plain_28 rfl rfl, mo_iload⟩ (
  And.intro ⟨ok_iret dX6_plain_29 rfl, mo_iret⟩ (
  And.intro ⟨ok_iload_n dX6_plain_30 rfl rfl, mo_iload⟩ (
  And.intro ⟨ok_iret dX6_plain_31 rfl, mo_iret⟩ (
  trivial))))))))))))))))
theorem rX6_plain_2 : am_allR (fun pc o => am_ok am_tb0 cX6_plain RX6 4 (some .int) false pc o ∧ am_mo o) 32 (am_nth [] tX6_plain 2) :=
  And.intro ⟨ok_iload_n dX6_plain_32 rfl rfl, mo_iload⟩ (
  And.intro ⟨ok_iret dX6_plain_33 rfl, mo_iret⟩ (
  And.intro ⟨ok_iload_n dX6_plain_34 rfl rfl, mo_iload⟩ (
  And.intro ⟨ok_iret dX6_plain_35 rfl, mo_iret⟩ (
  And.intro ⟨ok_nop, mo_nop⟩ (
  And.intro ⟨ok_nop, mo_nop⟩ (
  And.intro ⟨ok_nop, mo_nop⟩ (
  And.intro ⟨ok_nop, mo_nop⟩ (
  And.intro ⟨ok_nop, mo_nop⟩ (
  And.intro ⟨ok_nop, mo_nop⟩ (
  And.intro ⟨ok_nop, mo_nop⟩ (
  And.intro ⟨ok_nop, mo_nop⟩ (
  And.intro ⟨ok_nop, mo_nop⟩ (
  And.intro ⟨ok_nop, mo_nop⟩ (
  And.intro ⟨ok_nop, mo_nop⟩ (
  And.intro ⟨ok_nop, mo_nop⟩ (
  trivial))))))))))))))))
theorem kX6_plain : am_M1 am_tb0 cX6_plain RX6 4 (some .int) false tX6_plain := And.intro rX6_plain_0 (And.intro rX6_plain_1 (And.intro rX6_plain_2 (trivial)))
def tX6_joined : List (List am_Op) := [[o_iload 0 1, o_sw [(38, 90), (42, 145), (43, 137), (45, 141), (60, 104), (61, 115), (62, 126), (124, 76)] 149, am_nop, am_nop, am_nop, am_nop, am_nop, am_nop, am_nop, am_nop, am_nop, am_nop, am_nop, am_nop, am_nop, am_nop],
  [am_nop, am_nop, am_nop, am_nop, am_nop, am_nop, am_nop, am_nop, am_nop, am_nop, am_nop, am_nop, am_nop, am_nop, am_nop, am_nop],
  [am_nop, am_nop, am_nop, am_nop, am_nop, am_nop, am_nop, am_nop, am_nop, am_nop, am_nop, am_nop, am_nop, am_nop, am_nop, am_nop],
  [am_nop, am_nop, am_nop, am_nop, am_nop, am_nop, am_nop, am_nop, am_nop, am_nop, am_nop, am_nop, am_nop, am_nop, am_nop, am_nop],
  [am_nop, am_nop, am_nop, am_nop, am_nop, am_nop, am_nop, am_nop, am_nop, am_nop, am_nop, am_nop, o_iload 1 77, o_if (fun x => ¬ x = 0) 84 80, am_nop, am_nop],
  [o_iload 2 81, o_if (fun x => x = 0) 88 84, am_nop, am_nop, o_push (.int 1) 85, o_goto 89, am_nop, am_nop, o_push (.int 0) 89, o_iret, o_iload 1 91, o_if (fun x => x = 0) 102 94, am_nop, am_nop, o_iload 2 95, o_if (fun x => x = 0) 102 98],
  [am_nop, am_nop, o_push (.int 1) 99, o_goto 103, am_nop, am_nop, o_push (.int 0) 103, o_iret, o_iload 1 105, o_iload 2 106, o_icmp (fun x y => y ≤ x) 113 109, am_nop, am_nop, o_push (.int 1) 110, o_goto 114, am_nop],
  [am_nop, o_push (.int 0) 114, o_iret, o_iload 1 116, o_iload 2 117, o_icmp (fun x y => ¬ x = y) 124 120, am_nop, am_nop, o_push (.int 1) 121, o_goto 125, am_nop, am_nop, o_push (.int 0) 125, o_iret, o_iload 1 127, o_iload 2 128],
  [o_icmp (fun x y => x ≤ y) 135 131, am_nop, am_nop, o_push (.int 1) 132, o_goto 136, am_nop, am_nop, o_push (.int 0) 136, o_iret, o_iload 1 138, o_iload 2 139, o_bin (fun x y => x + y) 140, o_iret, o_iload 1 142, o_iload 2 143, o_bin (fun x y => x - y) 144],
  [o_iret, o_iload 1 146, o_iload 2 147, o_bin (fun x y => x * y) 148, o_iret, o_iload 2 150, o_if (fun x => ¬ x = 0) 157 153, am_nop, am_nop, o_push (.int 0) 154, o_goto 160, am_nop, am_nop, o_iload 1 158, o_iload 2 159, o_binS (fun x y => x / y) 160],
  [o_iret, am_nop, am_nop, am_nop, am_nop, am_nop, am_nop, am_nop, am_nop, am_nop, am_nop, am_nop, am_nop, am_nop, am_nop, am_nop]]
theorem rX6_joined_0 : am_allR (fun pc o => am_ok am_tb0 cX6_joined RX6 3 (some .int) false pc o ∧ am_mo o) 0 (am_nth [] tX6_joined 0) :=
  And.intro ⟨ok_iload_n dX6_joined_0 rfl rfl, mo_iload⟩ (
  And.intro ⟨ok_lookup dX6_joined_1 (by decide +kernel) (by decide) (by decide +kernel), mo_sw⟩ (
  And.intro ⟨ok_nop, mo_nop⟩ (
  And.intro ⟨ok_nop, mo_nop⟩ (
  And.intro ⟨ok_nop, mo_nop⟩ (
  And.intro ⟨ok_nop, mo_nop⟩ (
  And.intro ⟨ok_nop, mo_nop⟩ (
  And.intro ⟨ok_nop, mo_nop⟩ (
  And.intro ⟨ok_nop, mo_nop⟩ (
  And.intro ⟨ok_nop, mo_nop⟩ (
  And.intro ⟨ok_nop, mo_nop⟩ (
  And.intro ⟨ok_nop, mo_nop⟩ (
  And.intro ⟨ok_nop, mo_nop⟩ (
  And.intro ⟨ok_nop, mo_nop⟩ (
  And.intro ⟨ok_nop, mo_nop⟩ (
  And.intro ⟨ok_nop, mo_nop⟩ (
  trivial))))))))))))))))
theorem rX6_joined_1 : am_allR (fun pc o => am_ok am_tb0 cX6_joined RX6 3 (some .int) false pc o ∧ am_mo o) 16 (am_nth [] tX6_joined 1) :=
  And.intro ⟨ok_nop, mo_nop⟩ (
  And.intro ⟨ok_nop, mo_nop⟩ (
  And.intro ⟨ok_nop, mo_nop⟩ (
  And.intro ⟨ok_nop, mo_nop⟩ (
  And.intro ⟨ok_nop, mo_nop⟩ (
  And.intro ⟨ok_nop, mo_nop⟩ (
  And.intro ⟨ok_nop, mo_nop⟩ (
  And.intro ⟨ok_nop, mo_nop⟩ (
  And.intro ⟨ok_nop, mo_nop⟩ (
  And.intro ⟨ok_nop, mo_nop⟩ (
  And.intro ⟨ok_nop, mo_nop⟩ (
  And.intro ⟨ok_nop, mo_nop⟩ (
  And.intro ⟨ok_nop, mo_nop⟩ (
  And.intro ⟨ok_nop, mo_nop⟩ (
  And.intro ⟨ok_nop, mo_nop⟩ (
  And.intro ⟨ok_nop, mo_nop⟩ (
  trivial))))))))))))))))
theorem rX6_joined_2 : am_allR (fun pc o => am_ok am_tb0 cX6_joined RX6 3 (some .int) false pc o ∧ am_mo o) 32 (am_nth [] tX6_joined 2) :=
  And.intro ⟨ok_nop, mo_nop⟩ (
  And.intro ⟨ok_nop, mo_nop⟩ (
  And.intro ⟨ok_nop, mo_nop⟩ (
  And.intro ⟨ok_nop, mo_nop⟩ (
  And.intro ⟨ok_nop, mo_nop⟩ (
  And.intro ⟨ok_nop, mo_nop⟩ (
  And.intro ⟨ok_nop, mo_nop⟩ (
  And.intro ⟨ok_nop, mo_nop⟩ (
  And.intro ⟨ok_nop, mo_nop⟩ (
  And.intro ⟨ok_nop, mo_nop⟩ (
  And.intro ⟨ok_nop, mo_nop⟩ (
  And.intro ⟨ok_nop, mo_nop⟩ (
  And.intro ⟨ok_nop, mo_nop⟩ (
  And.intro ⟨ok_nop, mo_nop⟩ (
  And.intro ⟨ok_nop, mo_nop⟩ (
  And.intro ⟨ok_nop, mo_nop⟩ (
  trivial))))))))))))))))
theorem rX6_joined_3 : am_allR (fun pc o => am_ok am_tb0 cX6_joined RX6 3 (some .int) false pc o ∧ am_mo o) 48 (am_nth [] tX6_joined 3) :=
  And.intro ⟨ok_nop, mo_nop⟩ (
  And.intro ⟨ok_nop, mo_nop⟩ (
  And.intro ⟨ok_nop, mo_nop⟩ (
  And.intro ⟨ok_nop, mo_nop⟩ (
  And.intro ⟨ok_nop, mo_nop⟩ (
  And.intro ⟨ok_nop, mo_nop⟩ (
  And.intro ⟨ok_nop, mo_nop⟩ (
  And.intro ⟨ok_nop, mo_nop⟩ (
  And.intro ⟨ok_nop, mo_nop⟩ (
  And.intro ⟨ok_nop, mo_nop⟩ (
  And.intro ⟨ok_nop, mo_nop⟩ (
  And.intro ⟨ok_nop, mo_nop⟩ (
  And.intro ⟨ok_nop, mo_nop⟩ (
  And.intro ⟨ok_nop, mo_nop⟩ (
  And.intro ⟨ok_nop, mo_nop⟩ (
  And.intro ⟨ok_nop, mo_nop⟩ (
  trivial))))))))))))))))
theorem rX6_joined_4 : am_allR (fun pc o => am_ok am_tb0 cX6_joined RX6 3 (some .int) false pc o ∧ am_mo o) 64 (am_nth [] tX6_joined 4) :=
  And.intro ⟨ok_nop, mo_nop⟩ (
  And.intro ⟨ok_nop, mo_nop⟩ (
  And.intro ⟨ok_nop, mo_nop⟩ (
  And.intro ⟨ok_nop, mo_nop⟩ (
  And.intro ⟨ok_nop, mo_nop⟩ (
  And.intro ⟨ok_nop, mo_nop⟩ (
  And.intro ⟨ok_nop, mo_nop⟩ (
  And.intro ⟨ok_nop, mo_nop⟩ (
  And.intro ⟨ok_nop, mo_nop⟩ (
  And.intro ⟨ok_nop, mo_nop⟩ (
  And.intro ⟨ok_nop, mo_nop⟩ (
  And.intro ⟨ok_nop, mo_nop⟩ (
  And.intro ⟨ok_iload_n dX6_joined_76 rfl rfl, mo_iload⟩ (
  And.intro ⟨ok_if_ne dX6_joined_77 (by decide) rfl, mo_if⟩ (
  And.intro ⟨ok_nop, mo_nop⟩ (
  And.intro ⟨ok_nop, mo_nop⟩ (
  trivial))))))))))))))))
theorem rX6_joined_5 : am_allR (fun pc o => am_ok am_tb0 cX6_joined RX6 3 (some .int) false pc o ∧ am_mo o) 80 (am_nth [] tX6_joined 5) :=
  And.intro ⟨ok_iload_n dX6_joined_80 rfl rfl, mo_iload⟩ (
  And.intro ⟨ok_if_eq dX6_joined_81 (by decide) rfl, mo_if⟩ (
  And.intro ⟨ok_nop, mo_nop⟩ (
  And.intro ⟨ok_nop, mo_nop⟩ (
  And.intro ⟨ok_iconst dX6_joined_84 rfl ic_1, mo_push⟩ (
  And.intro ⟨ok_goto dX6_joined_85 (by decide), mo_goto⟩ (
  And.intro ⟨ok_nop, mo_nop⟩ (
  And.intro ⟨ok_nop, mo_nop⟩ (
  And.intro ⟨ok_iconst dX6_joined_88 rfl ic_0, mo_push⟩ (
  And.intro ⟨ok_iret dX6_joined_89 rfl, mo_iret⟩ (
  And.intro ⟨ok_iload_n dX6_joined_90 rfl rfl, mo_iload⟩ (
  And.intro ⟨ok_if_eq dX6_joined_91 (by decide) rfl, mo_if⟩ (
  And.intro ⟨ok_nop, mo_nop⟩ (
  And.intro ⟨ok_nop, mo_nop⟩ (
  And.intro ⟨ok_iload_n dX6_joined_94 rfl rfl, mo_iload⟩ (
  And.intro ⟨ok_if_eq dX6_joined_95 (by decide) rfl, mo_if⟩ (
  trivial))))))))))))))))
theorem rX6_joined_6 : am_allR (fun pc o => am_ok am_tb0 cX6_joined RX6 3 (some .int) false pc o ∧ am_mo o) 96 (am_nth [] tX6_joined 6) :=
  And.intro ⟨ok_nop, mo_nop⟩ (
  And.intro ⟨ok_nop, mo_nop⟩ (
  And.intro ⟨ok_iconst dX6_joined_98 rfl ic_1, mo_push⟩ (
  And.intro ⟨ok_goto dX6_joined_99 (by decide), mo_goto⟩ (
  And.intro ⟨ok_nop, mo_nop⟩ (
  And.intro ⟨ok_nop, mo_nop⟩ (
  And.intro ⟨ok_iconst dX6_joined_102 rfl ic_0, mo_push⟩ (
  And.intro ⟨ok_iret dX6_joined_103 rfl, mo_iret⟩ (
  And.intro ⟨ok_iload_n dX6_joined_104 rfl rfl, mo_iload⟩ (
  And.intro ⟨ok_iload_n dX6_joined_105 rfl rfl, mo_iload⟩ (
  And.intro ⟨ok_icmp_ge dX6_joined_106 (by decide) rfl, mo_icmp⟩ (
  And.intro ⟨ok_nop, mo_nop⟩ (
  And.intro ⟨ok_nop, mo_nop⟩ (
  And.intro ⟨ok_iconst dX6_joined_109 rfl ic_1, mo_push⟩ (
  And.intro ⟨ok_goto dX6_joined_110 (by decide), mo_goto⟩ (
  And.intro ⟨ok_nop, mo_nop⟩ (
  trivial))))))))))))))))
theorem rX6_joined_7 : am_allR (fun pc o => am_ok am_tb0 cX6_joined RX6 3 (some .int) false pc o ∧ am_mo o) 112 (am_nth [] tX6_joined 7) :=
  And.intro ⟨ok_nop, mo_nop⟩ (
  And.intro ⟨ok_iconst dX6_joined_113 rfl ic_0, mo_push⟩ (
  And.intro ⟨ok_iret dX6_joined_114 rfl, mo_iret⟩ (
  And.intro ⟨ok_iload_n dX6_joined_115 rfl rfl, mo_iload⟩ (
  And.intro ⟨ok_iload_n dX6_joined_116 rfl rfl, mo_iload⟩ (
  And.intro ⟨ok_icmp_ne dX6_joined_117 (by decide) rfl, mo_icmp⟩ (
  And.intro ⟨ok_nop, mo_nop⟩ (
  And.intro ⟨ok_nop, mo_nop⟩ (
  And.intro ⟨ok_iconst dX6_joined_120 rfl ic_1, mo_push⟩ (
  And.intro ⟨ok_goto dX6_joined_121 (by decide), mo_goto⟩ (
  And.intro ⟨ok_nop, mo_nop⟩ (
  And.intro ⟨ok_nop, mo_nop⟩ (
  And.intro ⟨ok_iconst dX6_joined_124 rfl ic_0, mo_push⟩ (
  And.intro ⟨ok_iret dX6_joined_125 rfl, mo_iret⟩ (
  And.intro ⟨ok_iload_n dX6_joined_126 rfl rfl, mo_iload⟩ (
  And.intro ⟨ok_iload_n dX6_joined_127 rfl rfl, mo_iload⟩ (
  trivial))))))))))))))))
theorem rX6_joined_8 : am_allR (fun pc o => am_ok am_tb0 cX6_joined RX6 3 (some .int) false pc o ∧ am_mo o) 128 (am_nth [] tX6_joined 8) :=
  And.intro ⟨ok_icmp_le dX6_joined_128 (by decide) rfl, mo_icmp⟩ (
  And.intro ⟨ok_nop, mo_nop⟩ (
  And.intro ⟨ok_nop, mo_nop⟩ (
  And.intro ⟨ok_iconst dX6_joined_131 rfl ic_1, mo_push⟩ (
  And.intro ⟨ok_goto dX6_joined_132 (by decide), mo_goto⟩ (
  And.intro ⟨ok_nop, mo_nop⟩ (
  And.intro ⟨ok_nop, mo_nop⟩ (
  And.intro ⟨ok_iconst dX6_joined_135 rfl ic_0, mo_push⟩ (
  And.intro ⟨ok_iret dX6_joined_136 rfl, mo_iret⟩ (
  And.intro ⟨ok_iload_n dX6_joined_137 rfl rfl, mo_iload⟩ (
  And.intro ⟨ok_iload_n dX6_joined_138 rfl rfl, mo_iload⟩ (
  And.intro ⟨ok_iadd dX6_joined_139 rfl, mo_bin⟩ (
  And.intro ⟨ok_iret dX6_joined_140 rfl, mo_iret⟩ (
  And.intro ⟨ok_iload_n dX6_joined_141 rfl rfl, mo_iload⟩ (
  And.intro ⟨ok_iload_n dX6_joined_142 rfl rfl, mo_iload⟩ (
  And.intro ⟨ok_isub dX6_joined_143 rfl, mo_bin⟩ (
  trivial))))))))))))))))
theorem rX6_joined_9 : am_allR (fun pc o => am_ok am_tb0 cX6_joined RX6 3 (some .int) false pc o ∧ am_mo o) 144 (am_nth [] tX6_joined 9) :=
  And.intro ⟨ok_iret dX6_joined_144 rfl, mo_iret⟩ (
  And.intro ⟨ok_iload_n dX6_joined_145 rfl rfl, mo_iload⟩ (
  And.intro ⟨ok_iload_n dX6_joined_146 rfl rfl, mo_iload⟩ (
  And.intro ⟨ok_imul dX6_joined_147 rfl, mo_bin⟩ (
  And.intro ⟨ok_iret dX6_joined_148 rfl, mo_iret⟩ (
  And.intro ⟨ok_iload_n dX6_joined_149 rfl rfl, mo_iload⟩ (
  And.intro ⟨ok_if_ne dX6_joined_150 (by decide) rfl, mo_if⟩ (
  And.intro ⟨ok_nop, mo_nop⟩ (
  And.intro ⟨ok_nop, mo_nop⟩ (
  And.intro ⟨ok_iconst dX6_joined_153 rfl ic_0, mo_push⟩ (
  And.intro ⟨ok_goto dX6_joined_154 (by decide), mo_goto⟩ (
  And.intro ⟨ok_nop, mo_nop⟩ (
  And.intro ⟨ok_nop, mo_nop⟩ (
  And.intro ⟨ok_iload_n dX6_joined_157 rfl rfl, mo_iload⟩ (
  And.intro ⟨ok_iload_n dX6_joined_158 rfl rfl, mo_iload⟩ (
  And.intro ⟨ok_idiv dX6_joined_159 rfl, mo_binS⟩ (
  trivial))))))))))))))))
theorem rX6_joined_10 : am_allR (fun pc o => am_ok am_tb0 cX6_joined RX6 3 (some .int) false pc o ∧ am_mo o) 160 (am_nth [] tX6_joined 10) :=
  And.intro ⟨ok_iret dX6_joined_160 rfl, mo_iret⟩ (
  And.intro ⟨ok_nop, mo_nop⟩ (
  And.intro ⟨ok_nop, mo_nop⟩ (
  And.intro ⟨ok_nop, mo_nop⟩ (
  And.intro ⟨ok_nop, mo_nop⟩ (
  And.intro ⟨ok_nop, mo_nop⟩ (
  And.intro ⟨ok_nop, mo_nop⟩ (
  And.intro ⟨ok_nop, mo_nop⟩ (
  And.intro ⟨ok_nop, mo_nop⟩ (
  And.intro ⟨ok_nop, mo_nop⟩ (
  And.intro ⟨ok_nop, mo_nop⟩ (
  And.intro ⟨ok_nop, mo_nop⟩ (
  And.intro ⟨ok_nop, mo_nop⟩ (
  And.intro ⟨ok_nop, mo_nop⟩ (
  And.intro ⟨ok_nop, mo_nop⟩ (
  And.intro ⟨ok_nop, mo_nop⟩ (
  trivial))))))))))))))))
theorem kX6_joined : am_M1 am_tb0 cX6_joined RX6 3 (some .int) false tX6_joined := And.intro rX6_joined_0 (And.intro rX6_joined_1 (And.intro rX6_joined_2 (And.intro rX6_joined_3 (And.intro rX6_joined_4 (And.intro rX6_joined_5 (And.intro rX6_joined_6 (And.intro rX6_joined_7 (And.intro rX6_joined_8 (And.intro rX6_joined_9 (And.intro rX6_joined_10 (trivial)))))))))))
end AM14B
