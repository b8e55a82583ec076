section AM14C
def tX7_init : List (List am_Op) := [[o_aload 0 1, o_oinit 4, am_nop, am_nop, o_aload 0 5, o_new 2 14 8, am_nop, am_nop, o_dup 9, o_cv 2 14 13 2 1 0 12, am_nop, am_nop, o_putR 7 11 0 15, am_nop, am_nop, o_aload 0 16],
  [o_new 2 14 19, am_nop, am_nop, o_dup 20, o_cv 2 14 13 2 1 0 23, am_nop, am_nop, o_putR 7 11 1 26, am_nop, am_nop, o_aload 0 27, o_new 2 14 30, am_nop, am_nop, o_dup 31, o_cv 2 14 13 2 1 0 34],
  [am_nop, am_nop, o_putR 7 11 2 37, am_nop, am_nop, o_aload 0 38, o_push (.int 0) 39, o_putZ 7 11 3 42, am_nop, am_nop, o_aload 0 43, o_new 0 4 46, am_nop, am_nop, o_dup 47, o_cv 0 4 0 1 0 0 50],
  [am_nop, am_nop, o_putR 7 11 4 53, am_nop, am_nop, o_aload 0 54, o_new 5 11 57, am_nop, am_nop, o_dup 58, o_cv 5 11 40 1 0 0 61, am_nop, am_nop, o_putR 7 11 5 64, am_nop, am_nop],
  [o_aload 0 65, o_push (.int 4) 66, o_newa 33 69, am_nop, am_nop, o_putR 7 11 6 72, am_nop, am_nop, o_aload 0 73, o_push (.int 5) 74, o_newa 34 77, am_nop, am_nop, o_putR 7 11 7 80, am_nop, am_nop],
  [o_aload 0 81, o_push (.int 60) 83, am_nop, o_newa 20 85, am_nop, o_putR 7 11 8 88, am_nop, am_nop, o_aload 0 89, o_push (.int 0) 90, o_putI 7 11 9 93, am_nop, am_nop, o_aload 0 94, o_push (.int 10) 96, am_nop],
  [o_newa 20 98, am_nop, o_putR 7 11 10 101, am_nop, am_nop, o_push (.int 0) 102, o_istore 1 103, o_iload 1 104, o_push (.int 4) 105, o_icmp (fun x y => y ≤ x) 127 108, am_nop, am_nop, o_aload 0 109, o_getR 7 11 6 112, am_nop, am_nop],
  [o_iload 1 113, o_new 3 3 116, am_nop, am_nop, o_dup 117, o_cv 3 3 33 1 0 0 120, am_nop, am_nop, o_aast 3 3 121, o_iinc 1 1 124, am_nop, am_nop, o_goto 103, am_nop, am_nop, o_push (.int 0) 128],
  [o_istore 1 129, o_iload 1 130, o_push (.int 5) 131, o_icmp (fun x y => y ≤ x) 153 134, am_nop, am_nop, o_aload 0 135, o_getR 7 11 7 138, am_nop, am_nop, o_iload 1 139, o_new 4 4 142, am_nop, am_nop, o_dup 143, o_cv 4 4 39 1 1 0 146],
  [am_nop, am_nop, o_aast 4 4 147, o_iinc 1 1 150, am_nop, am_nop, o_goto 129, am_nop, am_nop, o_ret, am_nop, am_nop, am_nop, am_nop, am_nop, am_nop]]
theorem rX7_init_0 : am_allR (fun pc o => am_ok am_tb0 cX7_init RX7 2 none true pc o ∧ am_mo o) 0 (am_nth [] tX7_init 0) :=
  And.intro ⟨ok_aload_n dX7_init_0 rfl rfl, mo_aload⟩ (
  And.intro ⟨ok_oinit dX7_init_1 wd_23 wd_24 wd_25 rfl, mo_oinit⟩ (
  And.intro ⟨ok_nop, mo_nop⟩ (
  And.intro ⟨ok_nop, mo_nop⟩ (
  And.intro ⟨ok_aload_n dX7_init_4 rfl rfl, mo_aload⟩ (
  And.intro ⟨ok_new dX7_init_5 hclX2 inWX2 tyX2_ok (by decide) hdfX2 wd_26 wd_27 wd_2 rfl, mo_new⟩ (
  And.intro ⟨ok_nop, mo_nop⟩ (
  And.intro ⟨ok_nop, mo_nop⟩ (
  And.intro ⟨ok_dup dX7_init_8 rfl, mo_dup⟩ (
  And.intro ⟨ok_ci (z := 13) dX7_init_9 (by decide) wd_28 wd_29 wd_2 wd_30 rfl (by decide) rfl rfl hy_X2_init rfl, mo_cv⟩ (
  And.intro ⟨ok_nop, mo_nop⟩ (
  And.intro ⟨ok_nop, mo_nop⟩ (
  And.intro ⟨ok_putRF dX7_init_12 hclX7 inWX7 tyX7_ok nmX7 (by decide) (by decide) wd_237 rfl rfl rfl (tyX7_ok 0 (by decide)) (Or.inl ⟨_, rfl⟩) (fun _ _ _ => rfl) rfl, mo_putR⟩ (
  And.intro ⟨ok_nop, mo_nop⟩ (
  And.intro ⟨ok_nop, mo_nop⟩ (
  And.intro ⟨ok_aload_n dX7_init_15 rfl rfl, mo_aload⟩ (
  trivial))))))))))))))))
theorem rX7_init_1 : am_allR (fun pc o => am_ok am_tb0 cX7_init RX7 2 none true pc o ∧ am_mo o) 16 (am_nth [] tX7_init 1) :=
  And.intro ⟨ok_new dX7_init_16 hclX2 inWX2 tyX2_ok (by decide) hdfX2 wd_26 wd_27 wd_2 rfl, mo_new⟩ (
  And.intro ⟨ok_nop, mo_nop⟩ (
  And.intro ⟨ok_nop, mo_nop⟩ (
  And.intro ⟨ok_dup dX7_init_19 rfl, mo_dup⟩ (
  And.intro ⟨ok_ci (z := 13) dX7_init_20 (by decide) wd_28 wd_29 wd_2 wd_30 rfl (by decide) rfl rfl hy_X2_init rfl, mo_cv⟩ (
  And.intro ⟨ok_nop, mo_nop⟩ (
  And.intro ⟨ok_nop, mo_nop⟩ (
  And.intro ⟨ok_putRF dX7_init_23 hclX7 inWX7 tyX7_ok nmX7 (by decide) (by decide) wd_238 rfl rfl rfl (tyX7_ok 1 (by decide)) (Or.inl ⟨_, rfl⟩) (fun _ _ _ => rfl) rfl, mo_putR⟩ (
  And.intro ⟨ok_nop, mo_nop⟩ (
  And.intro ⟨ok_nop, mo_nop⟩ (
  And.intro ⟨ok_aload_n dX7_init_26 rfl rfl, mo_aload⟩ (
  And.intro ⟨ok_new dX7_init_27 hclX2 inWX2 tyX2_ok (by decide) hdfX2 wd_26 wd_27 wd_2 rfl, mo_new⟩ (
  And.intro ⟨ok_nop, mo_nop⟩ (
  And.intro ⟨ok_nop, mo_nop⟩ (
  And.intro ⟨ok_dup dX7_init_30 rfl, mo_dup⟩ (
  And.intro ⟨ok_ci (z := 13) dX7_init_31 (by decide) wd_28 wd_29 wd_2 wd_30 rfl (by decide) rfl rfl hy_X2_init rfl, mo_cv⟩ (
  trivial))))))))))))))))
theorem rX7_init_2 : am_allR (fun pc o => am_ok am_tb0 cX7_init RX7 2 none true pc o ∧ am_mo o) 32 (am_nth [] tX7_init 2) :=
  And.intro ⟨ok_nop, mo_nop⟩ (
  And.intro ⟨ok_nop, mo_nop⟩ (
  And.intro ⟨ok_putRF dX7_init_34 hclX7 inWX7 tyX7_ok nmX7 (by decide) (by decide) wd_239 rfl rfl rfl (tyX7_ok 2 (by decide)) (Or.inl ⟨_, rfl⟩) (fun _ _ _ => rfl) rfl, mo_putR⟩ (
  And.intro ⟨ok_nop, mo_nop⟩ (
  And.intro ⟨ok_nop, mo_nop⟩ (
  And.intro ⟨ok_aload_n dX7_init_37 rfl rfl, mo_aload⟩ (
  And.intro ⟨ok_iconst dX7_init_38 rfl ic_0, mo_push⟩ (
  And.intro ⟨ok_putZ dX7_init_39 hclX7 inWX7 tyX7_ok nmX7 (by decide) (by decide) wd_240 rfl (tyX7_ok 3 (by decide)) (fun _ _ _ => rfl) rfl, mo_putZ⟩ (
  And.intro ⟨ok_nop, mo_nop⟩ (
  And.intro ⟨ok_nop, mo_nop⟩ (
  And.intro ⟨ok_aload_n dX7_init_42 rfl rfl, mo_aload⟩ (
  And.intro ⟨ok_new dX7_init_43 hclX0 inWX0 tyX0_ok (by decide) hdfX0 wd_127 wd_128 wd_4 rfl, mo_new⟩ (
  And.intro ⟨ok_nop, mo_nop⟩ (
  And.intro ⟨ok_nop, mo_nop⟩ (
  And.intro ⟨ok_dup dX7_init_46 rfl, mo_dup⟩ (
  And.intro ⟨ok_ciN (z := 0) dX7_init_47 (by decide) wn_129 wd_130 wd_4 wd_131 rfl (by decide) rfl rfl hy_X0_init rfl, mo_cv⟩ (
  trivial))))))))))))))))
theorem rX7_init_3 : am_allR (fun pc o => am_ok am_tb0 cX7_init RX7 2 none true pc o ∧ am_mo o) 48 (am_nth [] tX7_init 3) :=
  And.intro ⟨ok_nop, mo_nop⟩ (
  And.intro ⟨ok_nop, mo_nop⟩ (
  And.intro ⟨ok_putRF dX7_init_50 hclX7 inWX7 tyX7_ok nmX7 (by decide) (by decide) wd_241 rfl rfl rfl (tyX7_ok 4 (by decide)) (Or.inl ⟨_, rfl⟩) (fun _ _ _ => rfl) rfl, mo_putR⟩ (
  And.intro ⟨ok_nop, mo_nop⟩ (
  And.intro ⟨ok_nop, mo_nop⟩ (
  And.intro ⟨ok_aload_n dX7_init_53 rfl rfl, mo_aload⟩ (
  And.intro ⟨ok_new dX7_init_54 hclX5 inWX5 tyX5_ok (by decide) hdfX5 wd_147 wd_148 wd_5 rfl, mo_new⟩ (
  And.intro ⟨ok_nop, mo_nop⟩ (
  And.intro ⟨ok_nop, mo_nop⟩ (
  And.intro ⟨ok_dup dX7_init_57 rfl, mo_dup⟩ (
  And.intro ⟨ok_ciN (z := 40) dX7_init_58 (by decide) wn_149 wd_150 wd_5 wd_151 rfl (by decide) rfl rfl hy_X5_init rfl, mo_cv⟩ (
  And.intro ⟨ok_nop, mo_nop⟩ (
  And.intro ⟨ok_nop, mo_nop⟩ (
  And.intro ⟨ok_putRF dX7_init_61 hclX7 inWX7 tyX7_ok nmX7 (by decide) (by decide) wd_242 rfl rfl rfl (tyX7_ok 5 (by decide)) (Or.inl ⟨_, rfl⟩) (fun _ _ _ => rfl) rfl, mo_putR⟩ (
  And.intro ⟨ok_nop, mo_nop⟩ (
  And.intro ⟨ok_nop, mo_nop⟩ (
  trivial))))))))))))))))
theorem rX7_init_4 : am_allR (fun pc o => am_ok am_tb0 cX7_init RX7 2 none true pc o ∧ am_mo o) 64 (am_nth [] tX7_init 4) :=
  And.intro ⟨ok_aload_n dX7_init_64 rfl rfl, mo_aload⟩ (
  And.intro ⟨ok_iconst dX7_init_65 rfl ic_4, mo_push⟩ (
  And.intro ⟨ok_newq (ci := 3) dX7_init_66 (by decide) rfl wd_189 wn_190 rfl, mo_newa⟩ (
  And.intro ⟨ok_nop, mo_nop⟩ (
  And.intro ⟨ok_nop, mo_nop⟩ (
  And.intro ⟨ok_putRF dX7_init_69 hclX7 inWX7 tyX7_ok nmX7 (by decide) (by decide) wd_243 rfl rfl rfl (tyX7_ok 6 (by decide)) (Or.inr ⟨_, rfl⟩) (fun _ _ _ => rfl) rfl, mo_putR⟩ (
  And.intro ⟨ok_nop, mo_nop⟩ (
  And.intro ⟨ok_nop, mo_nop⟩ (
  And.intro ⟨ok_aload_n dX7_init_72 rfl rfl, mo_aload⟩ (
  And.intro ⟨ok_iconst dX7_init_73 rfl ic_5, mo_push⟩ (
  And.intro ⟨ok_newq (ci := 4) dX7_init_74 (by decide) rfl wd_191 wn_192 rfl, mo_newa⟩ (
  And.intro ⟨ok_nop, mo_nop⟩ (
  And.intro ⟨ok_nop, mo_nop⟩ (
  And.intro ⟨ok_putRF dX7_init_77 hclX7 inWX7 tyX7_ok nmX7 (by decide) (by decide) wd_244 rfl rfl rfl (tyX7_ok 7 (by decide)) (Or.inr ⟨_, rfl⟩) (fun _ _ _ => rfl) rfl, mo_putR⟩ (
  And.intro ⟨ok_nop, mo_nop⟩ (
  And.intro ⟨ok_nop, mo_nop⟩ (
  trivial))))))))))))))))
theorem rX7_init_5 : am_allR (fun pc o => am_ok am_tb0 cX7_init RX7 2 none true pc o ∧ am_mo o) 80 (am_nth [] tX7_init 5) :=
  And.intro ⟨ok_aload_n dX7_init_80 rfl rfl, mo_aload⟩ (
  And.intro ⟨ok_bipush dX7_init_81 rfl bi_60, mo_push⟩ (
  And.intro ⟨ok_nop, mo_nop⟩ (
  And.intro ⟨ok_newI dX7_init_83 wd_65 rfl, mo_newa⟩ (
  And.intro ⟨ok_nop, mo_nop⟩ (
  And.intro ⟨ok_putRF dX7_init_85 hclX7 inWX7 tyX7_ok nmX7 (by decide) (by decide) wd_245 rfl rfl rfl (tyX7_ok 8 (by decide)) (Or.inr ⟨_, rfl⟩) (fun _ _ _ => rfl) rfl, mo_putR⟩ (
  And.intro ⟨ok_nop, mo_nop⟩ (
  And.intro ⟨ok_nop, mo_nop⟩ (
  And.intro ⟨ok_aload_n dX7_init_88 rfl rfl, mo_aload⟩ (
  And.intro ⟨ok_iconst dX7_init_89 rfl ic_0, mo_push⟩ (
  And.intro ⟨ok_putI dX7_init_90 hclX7 inWX7 tyX7_ok nmX7 (by decide) (by decide) wd_246 rfl (tyX7_ok 9 (by decide)) (fun _ _ _ => rfl) rfl, mo_putI⟩ (
  And.intro ⟨ok_nop, mo_nop⟩ (
  And.intro ⟨ok_nop, mo_nop⟩ (
  And.intro ⟨ok_aload_n dX7_init_93 rfl rfl, mo_aload⟩ (
  And.intro ⟨ok_bipush dX7_init_94 rfl bi_10, mo_push⟩ (
  And.intro ⟨ok_nop, mo_nop⟩ (
  trivial))))))))))))))))
theorem rX7_init_6 : am_allR (fun pc o => am_ok am_tb0 cX7_init RX7 2 none true pc o ∧ am_mo o) 96 (am_nth [] tX7_init 6) :=
  And.intro ⟨ok_newI dX7_init_96 wd_65 rfl, mo_newa⟩ (
  And.intro ⟨ok_nop, mo_nop⟩ (
  And.intro ⟨ok_putRF dX7_init_98 hclX7 inWX7 tyX7_ok nmX7 (by decide) (by decide) wd_247 rfl rfl rfl (tyX7_ok 10 (by decide)) (Or.inr ⟨_, rfl⟩) (fun _ _ _ => rfl) rfl, mo_putR⟩ (
  And.intro ⟨ok_nop, mo_nop⟩ (
  And.intro ⟨ok_nop, mo_nop⟩ (
  And.intro ⟨ok_iconst dX7_init_101 rfl ic_0, mo_push⟩ (
  And.intro ⟨ok_istore_n dX7_init_102 rfl (by decide) rfl, mo_istore⟩ (
  And.intro ⟨ok_iload_n dX7_init_103 rfl rfl, mo_iload⟩ (
  And.intro ⟨ok_iconst dX7_init_104 rfl ic_4, mo_push⟩ (
  And.intro ⟨ok_icmp_ge dX7_init_105 (by decide) rfl, mo_icmp⟩ (
  And.intro ⟨ok_nop, mo_nop⟩ (
  And.intro ⟨ok_nop, mo_nop⟩ (
  And.intro ⟨ok_aload_n dX7_init_108 rfl rfl, mo_aload⟩ (
  And.intro ⟨ok_getR dX7_init_109 hclX7 inWX7 (by decide) (by decide) wd_243 (fun _ _ _ => rfl) rfl, mo_getR⟩ (
  And.intro ⟨ok_nop, mo_nop⟩ (
  And.intro ⟨ok_nop, mo_nop⟩ (
  trivial))))))))))))))))
theorem rX7_init_7 : am_allR (fun pc o => am_ok am_tb0 cX7_init RX7 2 none true pc o ∧ am_mo o) 112 (am_nth [] tX7_init 7) :=
  And.intro ⟨ok_iload_n dX7_init_112 rfl rfl, mo_iload⟩ (
  And.intro ⟨ok_new dX7_init_113 hclX3 inWX3 tyX3_ok (by decide) hdfX3 wd_189 wd_193 wd_6 rfl, mo_new⟩ (
  And.intro ⟨ok_nop, mo_nop⟩ (
  And.intro ⟨ok_nop, mo_nop⟩ (
  And.intro ⟨ok_dup dX7_init_116 rfl, mo_dup⟩ (
  And.intro ⟨ok_ciN (z := 33) dX7_init_117 (by decide) wn_194 wd_195 wd_6 wd_196 rfl (by decide) rfl rfl hy_X3_init rfl, mo_cv⟩ (
  And.intro ⟨ok_nop, mo_nop⟩ (
  And.intro ⟨ok_nop, mo_nop⟩ (
  And.intro ⟨ok_aast dX7_init_120 (by decide) hclX3 rfl rfl, mo_aast⟩ (
  And.intro ⟨ok_iinc dX7_init_121 ic_1 (by decide) rfl, mo_iinc⟩ (
  And.intro ⟨ok_nop, mo_nop⟩ (
  And.intro ⟨ok_nop, mo_nop⟩ (
  And.intro ⟨ok_goto dX7_init_124 (by decide), mo_goto⟩ (
  And.intro ⟨ok_nop, mo_nop⟩ (
  And.intro ⟨ok_nop, mo_nop⟩ (
  And.intro ⟨ok_iconst dX7_init_127 rfl ic_0, mo_push⟩ (
  trivial))))))))))))))))
theorem rX7_init_8 : am_allR (fun pc o => am_ok am_tb0 cX7_init RX7 2 none true pc o ∧ am_mo o) 128 (am_nth [] tX7_init 8) :=
  And.intro ⟨ok_istore_n dX7_init_128 rfl (by decide) rfl, mo_istore⟩ (
  And.intro ⟨ok_iload_n dX7_init_129 rfl rfl, mo_iload⟩ (
  And.intro ⟨ok_iconst dX7_init_130 rfl ic_5, mo_push⟩ (
  And.intro ⟨ok_icmp_ge dX7_init_131 (by decide) rfl, mo_icmp⟩ (
  And.intro ⟨ok_nop, mo_nop⟩ (
  And.intro ⟨ok_nop, mo_nop⟩ (
  And.intro ⟨ok_aload_n dX7_init_134 rfl rfl, mo_aload⟩ (
  And.intro ⟨ok_getR dX7_init_135 hclX7 inWX7 (by decide) (by decide) wd_244 (fun _ _ _ => rfl) rfl, mo_getR⟩ (
  And.intro ⟨ok_nop, mo_nop⟩ (
  And.intro ⟨ok_nop, mo_nop⟩ (
  And.intro ⟨ok_iload_n dX7_init_138 rfl rfl, mo_iload⟩ (
  And.intro ⟨ok_new dX7_init_139 hclX4 inWX4 tyX4_ok (by decide) hdfX4 wd_191 wd_211 wd_7 rfl, mo_new⟩ (
  And.intro ⟨ok_nop, mo_nop⟩ (
  And.intro ⟨ok_nop, mo_nop⟩ (
  And.intro ⟨ok_dup dX7_init_142 rfl, mo_dup⟩ (
  And.intro ⟨ok_ciN (z := 39) dX7_init_143 (by decide) wn_212 wd_213 wd_7 wd_214 rfl (by decide) rfl rfl hy_X4_init rfl, mo_cv⟩ (
  trivial))))))))))))))))
theorem rX7_init_9 : am_allR (fun pc o => am_ok am_tb0 cX7_init RX7 2 none true pc o ∧ am_mo o) 144 (am_nth [] tX7_init 9) :=
  And.intro ⟨ok_nop, mo_nop⟩ (
  And.intro ⟨ok_nop, mo_nop⟩ (
  And.intro ⟨ok_aast dX7_init_146 (by decide) hclX4 rfl rfl, mo_aast⟩ (
  And.intro ⟨ok_iinc dX7_init_147 ic_1 (by decide) rfl, mo_iinc⟩ (
  And.intro ⟨ok_nop, mo_nop⟩ (
  And.intro ⟨ok_nop, mo_nop⟩ (
  And.intro ⟨ok_goto dX7_init_150 (by decide), mo_goto⟩ (
  And.intro ⟨ok_nop, mo_nop⟩ (
  And.intro ⟨ok_nop, mo_nop⟩ (
  And.intro ⟨ok_ret dX7_init_153 rfl, mo_ret⟩ (
  And.intro ⟨ok_nop, mo_nop⟩ (
  And.intro ⟨ok_nop, mo_nop⟩ (
  And.intro ⟨ok_nop, mo_nop⟩ (
  And.intro ⟨ok_nop, mo_nop⟩ (
  And.intro ⟨ok_nop, mo_nop⟩ (
  And.intro ⟨ok_nop, mo_nop⟩ (
  trivial))))))))))))))))
theorem kX7_init : am_M1 am_tb0 cX7_init RX7 2 none true tX7_init := And.intro rX7_init_0 (And.intro rX7_init_1 (And.intro rX7_init_2 (And.intro rX7_init_3 (And.intro rX7_init_4 (And.intro rX7_init_5 (And.intro rX7_init_6 (And.intro rX7_init_7 (And.intro rX7_init_8 (And.intro rX7_init_9 (trivial))))))))))
def tX7_hole : List (List am_Op) := [[o_iload 1 1, o_push (.int 5) 2, o_cs 105 2 0 2 5, am_nop, am_nop, o_if (fun x => x = 0) 17 8, am_nop, am_nop, o_iload 2 9, o_push (.int 29) 11, am_nop, o_cs 105 2 0 2 14, am_nop, am_nop, o_if (fun x => ¬ x = 0) 20 17, am_nop],
  [am_nop, o_push (.int (-1000000001)) 19, am_nop, o_iret, o_iload 3 21, o_push (.int 99) 23, am_nop, o_cs 105 2 0 2 26, am_nop, am_nop, o_if (fun x => x = 0) 39 29, am_nop, am_nop, o_iload 4 31, am_nop, o_push (.int 7) 33],
  [am_nop, o_cs 105 2 0 2 36, am_nop, am_nop, o_if (fun x => ¬ x = 0) 42 39, am_nop, am_nop, o_push (.int (-1000000001)) 41, am_nop, o_iret, o_aload 0 43, o_getR 7 11 0 46, am_nop, am_nop, o_getI 2 14 1 49, am_nop],
  [am_nop, o_push (.int 10) 51, am_nop, o_icmp (fun x y => x < y) 57 54, am_nop, am_nop, o_push (.int (-1000000003)) 56, am_nop, o_iret, o_aload 0 58, o_getR 7 11 0 61, am_nop, am_nop, o_iload 1 62, o_iload 2 63, o_iload 3 64],
  [o_iload 4 66, am_nop, o_cv 2 14 16 6 1 4 69, am_nop, am_nop, o_iret, am_nop, am_nop, am_nop, am_nop, am_nop, am_nop, am_nop, am_nop, am_nop, am_nop]]
theorem rX7_hole_0 : am_allR (fun pc o => am_ok am_tb0 cX7_hole RX7 5 (some .int) false pc o ∧ am_mo o) 0 (am_nth [] tX7_hole 0) :=
  And.intro ⟨ok_iload_n dX7_hole_0 rfl rfl, mo_iload⟩ (
  And.intro ⟨ok_iconst dX7_hole_1 rfl ic_5, mo_push⟩ (
  And.intro ⟨ok_cs (z := 105) dX7_hole_2 wd_275 wd_276 wd_1 wd_277 rfl (by decide) hy_X7_within rfl, mo_cs⟩ (
  And.intro ⟨ok_nop, mo_nop⟩ (
  And.intro ⟨ok_nop, mo_nop⟩ (
  And.intro ⟨ok_if_eq dX7_hole_5 (by decide) rfl, mo_if⟩ (
  And.intro ⟨ok_nop, mo_nop⟩ (
  And.intro ⟨ok_nop, mo_nop⟩ (
  And.intro ⟨ok_iload_n dX7_hole_8 rfl rfl, mo_iload⟩ (
  And.intro ⟨ok_bipush dX7_hole_9 rfl bi_29, mo_push⟩ (
  And.intro ⟨ok_nop, mo_nop⟩ (
  And.intro ⟨ok_cs (z := 105) dX7_hole_11 wd_275 wd_276 wd_1 wd_277 rfl (by decide) hy_X7_within rfl, mo_cs⟩ (
  And.intro ⟨ok_nop, mo_nop⟩ (
  And.intro ⟨ok_nop, mo_nop⟩ (
  And.intro ⟨ok_if_ne dX7_hole_14 (by decide) rfl, mo_if⟩ (
  And.intro ⟨ok_nop, mo_nop⟩ (
  trivial))))))))))))))))
theorem rX7_hole_1 : am_allR (fun pc o => am_ok am_tb0 cX7_hole RX7 5 (some .int) false pc o ∧ am_mo o) 16 (am_nth [] tX7_hole 1) :=
  And.intro ⟨ok_nop, mo_nop⟩ (
  And.intro ⟨ok_ldc dX7_hole_17 rfl wd_278, mo_push⟩ (
  And.intro ⟨ok_nop, mo_nop⟩ (
  And.intro ⟨ok_iret dX7_hole_19 rfl, mo_iret⟩ (
  And.intro ⟨ok_iload_n dX7_hole_20 rfl rfl, mo_iload⟩ (
  And.intro ⟨ok_bipush dX7_hole_21 rfl bi_99, mo_push⟩ (
  And.intro ⟨ok_nop, mo_nop⟩ (
  And.intro ⟨ok_cs (z := 105) dX7_hole_23 wd_275 wd_276 wd_1 wd_277 rfl (by decide) hy_X7_within rfl, mo_cs⟩ (
  And.intro ⟨ok_nop, mo_nop⟩ (
  And.intro ⟨ok_nop, mo_nop⟩ (
  And.intro ⟨ok_if_eq dX7_hole_26 (by decide) rfl, mo_if⟩ (
  And.intro ⟨ok_nop, mo_nop⟩ (
  And.intro ⟨ok_nop, mo_nop⟩ (
  And.intro ⟨ok_iload dX7_hole_29 rfl, mo_iload⟩ (
  And.intro ⟨ok_nop, mo_nop⟩ (
  And.intro ⟨ok_bipush dX7_hole_31 rfl bi_7, mo_push⟩ (
  trivial))))))))))))))))
theorem rX7_hole_2 : am_allR (fun pc o => am_ok am_tb0 cX7_hole RX7 5 (some .int) false pc o ∧ am_mo o) 32 (am_nth [] tX7_hole 2) :=
  And.intro ⟨ok_nop, mo_nop⟩ (
  And.intro ⟨ok_cs (z := 105) dX7_hole_33 wd_275 wd_276 wd_1 wd_277 rfl (by decide) hy_X7_within rfl, mo_cs⟩ (
  And.intro ⟨ok_nop, mo_nop⟩ (
  And.intro ⟨ok_nop, mo_nop⟩ (
  And.intro ⟨ok_if_ne dX7_hole_36 (by decide) rfl, mo_if⟩ (
  And.intro ⟨ok_nop, mo_nop⟩ (
  And.intro ⟨ok_nop, mo_nop⟩ (
  And.intro ⟨ok_ldc dX7_hole_39 rfl wd_278, mo_push⟩ (
  And.intro ⟨ok_nop, mo_nop⟩ (
  And.intro ⟨ok_iret dX7_hole_41 rfl, mo_iret⟩ (
  And.intro ⟨ok_aload_n dX7_hole_42 rfl rfl, mo_aload⟩ (
  And.intro ⟨ok_getR dX7_hole_43 hclX7 inWX7 (by decide) (by decide) wd_237 (fun _ _ _ => rfl) rfl, mo_getR⟩ (
  And.intro ⟨ok_nop, mo_nop⟩ (
  And.intro ⟨ok_nop, mo_nop⟩ (
  And.intro ⟨ok_getIN dX7_hole_46 hclX2 inWX2 (by decide) (by decide) wn_70 (fun _ _ _ => rfl) rfl, mo_getI⟩ (
  And.intro ⟨ok_nop, mo_nop⟩ (
  trivial))))))))))))))))
theorem rX7_hole_3 : am_allR (fun pc o => am_ok am_tb0 cX7_hole RX7 5 (some .int) false pc o ∧ am_mo o) 48 (am_nth [] tX7_hole 3) :=
  And.intro ⟨ok_nop, mo_nop⟩ (
  And.intro ⟨ok_bipush dX7_hole_49 rfl bi_10, mo_push⟩ (
  And.intro ⟨ok_nop, mo_nop⟩ (
  And.intro ⟨ok_icmp_lt dX7_hole_51 (by decide) rfl, mo_icmp⟩ (
  And.intro ⟨ok_nop, mo_nop⟩ (
  And.intro ⟨ok_nop, mo_nop⟩ (
  And.intro ⟨ok_ldc dX7_hole_54 rfl wd_279, mo_push⟩ (
  And.intro ⟨ok_nop, mo_nop⟩ (
  And.intro ⟨ok_iret dX7_hole_56 rfl, mo_iret⟩ (
  And.intro ⟨ok_aload_n dX7_hole_57 rfl rfl, mo_aload⟩ (
  And.intro ⟨ok_getR dX7_hole_58 hclX7 inWX7 (by decide) (by decide) wd_237 (fun _ _ _ => rfl) rfl, mo_getR⟩ (
  And.intro ⟨ok_nop, mo_nop⟩ (
  And.intro ⟨ok_nop, mo_nop⟩ (
  And.intro ⟨ok_iload_n dX7_hole_61 rfl rfl, mo_iload⟩ (
  And.intro ⟨ok_iload_n dX7_hole_62 rfl rfl, mo_iload⟩ (
  And.intro ⟨ok_iload_n dX7_hole_63 rfl rfl, mo_iload⟩ (
  trivial))))))))))))))))
theorem rX7_hole_4 : am_allR (fun pc o => am_ok am_tb0 cX7_hole RX7 5 (some .int) false pc o ∧ am_mo o) 64 (am_nth [] tX7_hole 4) :=
  And.intro ⟨ok_iload dX7_hole_64 rfl, mo_iload⟩ (
  And.intro ⟨ok_nop, mo_nop⟩ (
  And.intro ⟨ok_cv (z := 16) dX7_hole_66 hclX2 (by decide) wd_280 wd_281 wd_282 wd_2 wd_283 rfl (by decide) ⟨rfl, hy_X2_open⟩ rfl, mo_cv⟩ (
  And.intro ⟨ok_nop, mo_nop⟩ (
  And.intro ⟨ok_nop, mo_nop⟩ (
  And.intro ⟨ok_iret dX7_hole_69 rfl, mo_iret⟩ (
  And.intro ⟨ok_nop, mo_nop⟩ (
  And.intro ⟨ok_nop, mo_nop⟩ (
  And.intro ⟨ok_nop, mo_nop⟩ (
  And.intro ⟨ok_nop, mo_nop⟩ (
  And.intro ⟨ok_nop, mo_nop⟩ (
  And.intro ⟨ok_nop, mo_nop⟩ (
  And.intro ⟨ok_nop, mo_nop⟩ (
  And.intro ⟨ok_nop, mo_nop⟩ (
  And.intro ⟨ok_nop, mo_nop⟩ (
  And.intro ⟨ok_nop, mo_nop⟩ (
  trivial))))))))))))))))
theorem kX7_hole : am_M1 am_tb0 cX7_hole RX7 5 (some .int) false tX7_hole := And.intro rX7_hole_0 (And.intro rX7_hole_1 (And.intro rX7_hole_2 (And.intro rX7_hole_3 (And.intro rX7_hole_4 (trivial)))))
def tX7_told : List (List am_Op) := [[o_aload 0 1, o_getR 7 11 0 4, am_nop, am_nop, o_iload 1 5, o_cv 2 14 15 2 0 1 8, am_nop, am_nop, o_astore 3 9, o_aload 3 10, o_null 21 13, am_nop, am_nop, o_iload 2 14, o_push (.int 5) 15, o_cs 105 2 0 2 18],
  [am_nop, am_nop, o_if (fun x => ¬ x = 0) 24 21, am_nop, am_nop, o_push (.int (-1000000001)) 23, am_nop, o_iret, o_aload 3 25, o_iload 2 26, o_cv 1 5 9 2 1 1 29, am_nop, am_nop, o_iret, am_nop, am_nop]]
theorem rX7_told_0 : am_allR (fun pc o => am_ok am_tb0 cX7_told RX7 4 (some .int) false pc o ∧ am_mo o) 0 (am_nth [] tX7_told 0) :=
  And.intro ⟨ok_aload_n dX7_told_0 rfl rfl, mo_aload⟩ (
  And.intro ⟨ok_getR dX7_told_1 hclX7 inWX7 (by decide) (by decide) wd_237 (fun _ _ _ => rfl) rfl, mo_getR⟩ (
  And.intro ⟨ok_nop, mo_nop⟩ (
  And.intro ⟨ok_nop, mo_nop⟩ (
  And.intro ⟨ok_iload_n dX7_told_4 rfl rfl, mo_iload⟩ (
  And.intro ⟨ok_cv (z := 15) dX7_told_5 hclX2 (by decide) wd_293 wd_294 wd_295 wd_2 wd_296 rfl (by decide) ⟨rfl, hy_X2_find⟩ rfl, mo_cv⟩ (
  And.intro ⟨ok_nop, mo_nop⟩ (
  And.intro ⟨ok_nop, mo_nop⟩ (
  And.intro ⟨ok_astore_n dX7_told_8 rfl (by decide) rfl, mo_astore⟩ (
  And.intro ⟨ok_aload_n dX7_told_9 rfl rfl, mo_aload⟩ (
  And.intro ⟨ok_ifnull dX7_told_10 (by decide) rfl, mo_null⟩ (
  And.intro ⟨ok_nop, mo_nop⟩ (
  And.intro ⟨ok_nop, mo_nop⟩ (
  And.intro ⟨ok_iload_n dX7_told_13 rfl rfl, mo_iload⟩ (
  And.intro ⟨ok_iconst dX7_told_14 rfl ic_5, mo_push⟩ (
  And.intro ⟨ok_cs (z := 105) dX7_told_15 wd_275 wd_276 wd_1 wd_277 rfl (by decide) hy_X7_within rfl, mo_cs⟩ (
  trivial))))))))))))))))
theorem rX7_told_1 : am_allR (fun pc o => am_ok am_tb0 cX7_told RX7 4 (some .int) false pc o ∧ am_mo o) 16 (am_nth [] tX7_told 1) :=
  And.intro ⟨ok_nop, mo_nop⟩ (
  And.intro ⟨ok_nop, mo_nop⟩ (
  And.intro ⟨ok_if_ne dX7_told_18 (by decide) rfl, mo_if⟩ (
  And.intro ⟨ok_nop, mo_nop⟩ (
  And.intro ⟨ok_nop, mo_nop⟩ (
  And.intro ⟨ok_ldc dX7_told_21 rfl wd_278, mo_push⟩ (
  And.intro ⟨ok_nop, mo_nop⟩ (
  And.intro ⟨ok_iret dX7_told_23 rfl, mo_iret⟩ (
  And.intro ⟨ok_aload_n dX7_told_24 rfl rfl, mo_aload⟩ (
  And.intro ⟨ok_iload_n dX7_told_25 rfl rfl, mo_iload⟩ (
  And.intro ⟨ok_cv (z := 9) dX7_told_26 hclX1 (by decide) wd_297 wd_298 wd_299 wd_3 wd_300 rfl (by decide) ⟨rfl, hy_X1_part⟩ rfl, mo_cv⟩ (
  And.intro ⟨ok_nop, mo_nop⟩ (
  And.intro ⟨ok_nop, mo_nop⟩ (
  And.intro ⟨ok_iret dX7_told_29 rfl, mo_iret⟩ (
  And.intro ⟨ok_nop, mo_nop⟩ (
  And.intro ⟨ok_nop, mo_nop⟩ (
  trivial))))))))))))))))
theorem kX7_told : am_M1 am_tb0 cX7_told RX7 4 (some .int) false tX7_told := And.intro rX7_told_0 (And.intro rX7_told_1 (trivial))
def tX7_as : List (List am_Op) := [[o_aload 0 1, o_getR 7 11 0 4, am_nop, am_nop, o_iload 1 5, o_cv 2 14 15 2 0 1 8, am_nop, am_nop, o_astore 3 9, o_aload 3 10, o_null 21 13, am_nop, am_nop, o_iload 2 14, o_push (.int 5) 15, o_cs 105 2 0 2 18],
  [am_nop, am_nop, o_if (fun x => ¬ x = 0) 24 21, am_nop, am_nop, o_push (.int (-1000000001)) 23, am_nop, o_iret, o_aload 3 25, o_iload 2 26, o_cv 1 5 11 4 0 1 29, am_nop, am_nop, o_if (fun x => x = 0) 39 32, am_nop, am_nop],
  [o_aload 3 33, o_getI 1 5 2 36, am_nop, am_nop, o_goto 41, am_nop, am_nop, o_push (.int (-1000000012)) 41, am_nop, o_iret, am_nop, am_nop, am_nop, am_nop, am_nop, am_nop]]
theorem rX7_as_0 : am_allR (fun pc o => am_ok am_tb0 cX7_as RX7 4 (some .int) false pc o ∧ am_mo o) 0 (am_nth [] tX7_as 0) :=
  And.intro ⟨ok_aload_n dX7_as_0 rfl rfl, mo_aload⟩ (
  And.intro ⟨ok_getR dX7_as_1 hclX7 inWX7 (by decide) (by decide) wd_237 (fun _ _ _ => rfl) rfl, mo_getR⟩ (
  And.intro ⟨ok_nop, mo_nop⟩ (
  And.intro ⟨ok_nop, mo_nop⟩ (
  And.intro ⟨ok_iload_n dX7_as_4 rfl rfl, mo_iload⟩ (
  And.intro ⟨ok_cv (z := 15) dX7_as_5 hclX2 (by decide) wd_293 wd_294 wd_295 wd_2 wd_296 rfl (by decide) ⟨rfl, hy_X2_find⟩ rfl, mo_cv⟩ (
  And.intro ⟨ok_nop, mo_nop⟩ (
  And.intro ⟨ok_nop, mo_nop⟩ (
  And.intro ⟨ok_astore_n dX7_as_8 rfl (by decide) rfl, mo_astore⟩ (
  And.intro ⟨ok_aload_n dX7_as_9 rfl rfl, mo_aload⟩ (
  And.intro ⟨ok_ifnull dX7_as_10 (by decide) rfl, mo_null⟩ (
  And.intro ⟨ok_nop, mo_nop⟩ (
  And.intro ⟨ok_nop, mo_nop⟩ (
  And.intro ⟨ok_iload_n dX7_as_13 rfl rfl, mo_iload⟩ (
  And.intro ⟨ok_iconst dX7_as_14 rfl ic_5, mo_push⟩ (
  And.intro ⟨ok_cs (z := 105) dX7_as_15 wd_275 wd_276 wd_1 wd_277 rfl (by decide) hy_X7_within rfl, mo_cs⟩ (
  trivial))))))))))))))))
theorem rX7_as_1 : am_allR (fun pc o => am_ok am_tb0 cX7_as RX7 4 (some .int) false pc o ∧ am_mo o) 16 (am_nth [] tX7_as 1) :=
  And.intro ⟨ok_nop, mo_nop⟩ (
  And.intro ⟨ok_nop, mo_nop⟩ (
  And.intro ⟨ok_if_ne dX7_as_18 (by decide) rfl, mo_if⟩ (
  And.intro ⟨ok_nop, mo_nop⟩ (
  And.intro ⟨ok_nop, mo_nop⟩ (
  And.intro ⟨ok_ldc dX7_as_21 rfl wd_278, mo_push⟩ (
  And.intro ⟨ok_nop, mo_nop⟩ (
  And.intro ⟨ok_iret dX7_as_23 rfl, mo_iret⟩ (
  And.intro ⟨ok_aload_n dX7_as_24 rfl rfl, mo_aload⟩ (
  And.intro ⟨ok_iload_n dX7_as_25 rfl rfl, mo_iload⟩ (
  And.intro ⟨ok_cv (z := 11) dX7_as_26 hclX1 (by decide) wd_309 wd_310 wd_311 wd_3 wd_312 rfl (by decide) ⟨rfl, hy_X1_isOf⟩ rfl, mo_cv⟩ (
  And.intro ⟨ok_nop, mo_nop⟩ (
  And.intro ⟨ok_nop, mo_nop⟩ (
  And.intro ⟨ok_if_eq dX7_as_29 (by decide) rfl, mo_if⟩ (
  And.intro ⟨ok_nop, mo_nop⟩ (
  And.intro ⟨ok_nop, mo_nop⟩ (
  trivial))))))))))))))))
theorem rX7_as_2 : am_allR (fun pc o => am_ok am_tb0 cX7_as RX7 4 (some .int) false pc o ∧ am_mo o) 32 (am_nth [] tX7_as 2) :=
  And.intro ⟨ok_aload_n dX7_as_32 rfl rfl, mo_aload⟩ (
  And.intro ⟨ok_getIN dX7_as_33 hclX1 inWX1 (by decide) (by decide) wn_48 (fun _ _ _ => rfl) rfl, mo_getI⟩ (
  And.intro ⟨ok_nop, mo_nop⟩ (
  And.intro ⟨ok_nop, mo_nop⟩ (
  And.intro ⟨ok_goto dX7_as_36 (by decide), mo_goto⟩ (
  And.intro ⟨ok_nop, mo_nop⟩ (
  And.intro ⟨ok_nop, mo_nop⟩ (
  And.intro ⟨ok_ldc dX7_as_39 rfl wd_315, mo_push⟩ (
  And.intro ⟨ok_nop, mo_nop⟩ (
  And.intro ⟨ok_iret dX7_as_41 rfl, mo_iret⟩ (
  And.intro ⟨ok_nop, mo_nop⟩ (
  And.intro ⟨ok_nop, mo_nop⟩ (
  And.intro ⟨ok_nop, mo_nop⟩ (
  And.intro ⟨ok_nop, mo_nop⟩ (
  And.intro ⟨ok_nop, mo_nop⟩ (
  And.intro ⟨ok_nop, mo_nop⟩ (
  trivial))))))))))))))))
theorem kX7_as : am_M1 am_tb0 cX7_as RX7 4 (some .int) false tX7_as := And.intro rX7_as_0 (And.intro rX7_as_1 (And.intro rX7_as_2 (trivial)))
def tX7_turns : List (List am_Op) := [[o_aload 0 1, o_getR 7 11 0 4, am_nop, am_nop, o_iload 1 5, o_cv 2 14 15 2 0 1 8, am_nop, am_nop, o_astore 3 9, o_aload 3 10, o_null 21 13, am_nop, am_nop, o_iload 2 14, o_push (.int 5) 15, o_cs 105 2 0 2 18],
  [am_nop, am_nop, o_if (fun x => ¬ x = 0) 24 21, am_nop, am_nop, o_push (.int (-1000000001)) 23, am_nop, o_iret, o_aload 3 25, o_getI 1 5 0 28, am_nop, am_nop, o_istore 4 30, am_nop, o_aload 3 31, o_iload 2 32],
  [o_putI 1 5 0 35, am_nop, am_nop, o_iload 4 37, am_nop, o_iret, am_nop, am_nop, am_nop, am_nop, am_nop, am_nop, am_nop, am_nop, am_nop, am_nop]]
theorem rX7_turns_0 : am_allR (fun pc o => am_ok am_tb0 cX7_turns RX7 5 (some .int) false pc o ∧ am_mo o) 0 (am_nth [] tX7_turns 0) :=
  And.intro ⟨ok_aload_n dX7_turns_0 rfl rfl, mo_aload⟩ (
  And.intro ⟨ok_getR dX7_turns_1 hclX7 inWX7 (by decide) (by decide) wd_237 (fun _ _ _ => rfl) rfl, mo_getR⟩ (
  And.intro ⟨ok_nop, mo_nop⟩ (
  And.intro ⟨ok_nop, mo_nop⟩ (
  And.intro ⟨ok_iload_n dX7_turns_4 rfl rfl, mo_iload⟩ (
  And.intro ⟨ok_cv (z := 15) dX7_turns_5 hclX2 (by decide) wd_293 wd_294 wd_295 wd_2 wd_296 rfl (by decide) ⟨rfl, hy_X2_find⟩ rfl, mo_cv⟩ (
  And.intro ⟨ok_nop, mo_nop⟩ (
  And.intro ⟨ok_nop, mo_nop⟩ (
  And.intro ⟨ok_astore_n dX7_turns_8 rfl (by decide) rfl, mo_astore⟩ (
  And.intro ⟨ok_aload_n dX7_turns_9 rfl rfl, mo_aload⟩ (
  And.intro ⟨ok_ifnull dX7_turns_10 (by decide) rfl, mo_null⟩ (
  And.intro ⟨ok_nop, mo_nop⟩ (
  And.intro ⟨ok_nop, mo_nop⟩ (
  And.intro ⟨ok_iload_n dX7_turns_13 rfl rfl, mo_iload⟩ (
  And.intro ⟨ok_iconst dX7_turns_14 rfl ic_5, mo_push⟩ (
  And.intro ⟨ok_cs (z := 105) dX7_turns_15 wd_275 wd_276 wd_1 wd_277 rfl (by decide) hy_X7_within rfl, mo_cs⟩ (
  trivial))))))))))))))))
theorem rX7_turns_1 : am_allR (fun pc o => am_ok am_tb0 cX7_turns RX7 5 (some .int) false pc o ∧ am_mo o) 16 (am_nth [] tX7_turns 1) :=
  And.intro ⟨ok_nop, mo_nop⟩ (
  And.intro ⟨ok_nop, mo_nop⟩ (
  And.intro ⟨ok_if_ne dX7_turns_18 (by decide) rfl, mo_if⟩ (
  And.intro ⟨ok_nop, mo_nop⟩ (
  And.intro ⟨ok_nop, mo_nop⟩ (
  And.intro ⟨ok_ldc dX7_turns_21 rfl wd_278, mo_push⟩ (
  And.intro ⟨ok_nop, mo_nop⟩ (
  And.intro ⟨ok_iret dX7_turns_23 rfl, mo_iret⟩ (
  And.intro ⟨ok_aload_n dX7_turns_24 rfl rfl, mo_aload⟩ (
  And.intro ⟨ok_getIN dX7_turns_25 hclX1 inWX1 (by decide) (by decide) wn_42 (fun _ _ _ => rfl) rfl, mo_getI⟩ (
  And.intro ⟨ok_nop, mo_nop⟩ (
  And.intro ⟨ok_nop, mo_nop⟩ (
  And.intro ⟨ok_istore dX7_turns_28 (by decide) rfl, mo_istore⟩ (
  And.intro ⟨ok_nop, mo_nop⟩ (
  And.intro ⟨ok_aload_n dX7_turns_30 rfl rfl, mo_aload⟩ (
  And.intro ⟨ok_iload_n dX7_turns_31 rfl rfl, mo_iload⟩ (
  trivial))))))))))))))))
theorem rX7_turns_2 : am_allR (fun pc o => am_ok am_tb0 cX7_turns RX7 5 (some .int) false pc o ∧ am_mo o) 32 (am_nth [] tX7_turns 2) :=
  And.intro ⟨ok_putIN dX7_turns_32 hclX1 inWX1 tyX1_ok nmX1 (by decide) (by decide) wn_42 rfl (tyX1_ok 0 (by decide)) (fun _ _ _ => rfl) rfl, mo_putI⟩ (
  And.intro ⟨ok_nop, mo_nop⟩ (
  And.intro ⟨ok_nop, mo_nop⟩ (
  And.intro ⟨ok_iload dX7_turns_35 rfl, mo_iload⟩ (
  And.intro ⟨ok_nop, mo_nop⟩ (
  And.intro ⟨ok_iret dX7_turns_37 rfl, mo_iret⟩ (
  And.intro ⟨ok_nop, mo_nop⟩ (
  And.intro ⟨ok_nop, mo_nop⟩ (
  And.intro ⟨ok_nop, mo_nop⟩ (
  And.intro ⟨ok_nop, mo_nop⟩ (
  And.intro ⟨ok_nop, mo_nop⟩ (
  And.intro ⟨ok_nop, mo_nop⟩ (
  And.intro ⟨ok_nop, mo_nop⟩ (
  And.intro ⟨ok_nop, mo_nop⟩ (
  And.intro ⟨ok_nop, mo_nop⟩ (
  And.intro ⟨ok_nop, mo_nop⟩ (
  trivial))))))))))))))))
theorem kX7_turns : am_M1 am_tb0 cX7_turns RX7 5 (some .int) false tX7_turns := And.intro rX7_turns_0 (And.intro rX7_turns_1 (And.intro rX7_turns_2 (trivial)))
def tX7_set : List (List am_Op) := [[o_aload 0 1, o_getR 7 11 0 4, am_nop, am_nop, o_iload 1 5, o_cv 2 14 15 2 0 1 8, am_nop, am_nop, o_astore 4 10, am_nop, o_aload 4 12, am_nop, o_null 26 15, am_nop, am_nop, o_iload 3 16],
  [o_iload 2 17, o_cs 108 1 0 1 20, am_nop, am_nop, o_cs 105 2 0 2 23, am_nop, am_nop, o_if (fun x => ¬ x = 0) 29 26, am_nop, am_nop, o_push (.int (-1000000001)) 28, am_nop, o_iret, o_aload 4 31, am_nop, o_iload 2 32],
  [o_cv 1 5 9 2 1 1 35, am_nop, am_nop, o_istore 5 37, am_nop, o_aload 4 39, am_nop, o_iload 2 40, o_iload 3 41, o_cv 1 5 10 3 0 2 44, am_nop, am_nop, o_iload 5 46, am_nop, o_iret, am_nop]]
theorem rX7_set_0 : am_allR (fun pc o => am_ok am_tb0 cX7_set RX7 6 (some .int) false pc o ∧ am_mo o) 0 (am_nth [] tX7_set 0) :=
  And.intro ⟨ok_aload_n dX7_set_0 rfl rfl, mo_aload⟩ (
  And.intro ⟨ok_getR dX7_set_1 hclX7 inWX7 (by decide) (by decide) wd_237 (fun _ _ _ => rfl) rfl, mo_getR⟩ (
  And.intro ⟨ok_nop, mo_nop⟩ (
  And.intro ⟨ok_nop, mo_nop⟩ (
  And.intro ⟨ok_iload_n dX7_set_4 rfl rfl, mo_iload⟩ (
  And.intro ⟨ok_cv (z := 15) dX7_set_5 hclX2 (by decide) wd_293 wd_294 wd_295 wd_2 wd_296 rfl (by decide) ⟨rfl, hy_X2_find⟩ rfl, mo_cv⟩ (
  And.intro ⟨ok_nop, mo_nop⟩ (
  And.intro ⟨ok_nop, mo_nop⟩ (
  And.intro ⟨ok_astore dX7_set_8 (by decide) rfl, mo_astore⟩ (
  And.intro ⟨ok_nop, mo_nop⟩ (
  And.intro ⟨ok_aload dX7_set_10 rfl, mo_aload⟩ (
  And.intro ⟨ok_nop, mo_nop⟩ (
  And.intro ⟨ok_ifnull dX7_set_12 (by decide) rfl, mo_null⟩ (
  And.intro ⟨ok_nop, mo_nop⟩ (
  And.intro ⟨ok_nop, mo_nop⟩ (
  And.intro ⟨ok_iload_n dX7_set_15 rfl rfl, mo_iload⟩ (
  trivial))))))))))))))))
theorem rX7_set_1 : am_allR (fun pc o => am_ok am_tb0 cX7_set RX7 6 (some .int) false pc o ∧ am_mo o) 16 (am_nth [] tX7_set 1) :=
  And.intro ⟨ok_iload_n dX7_set_16 rfl rfl, mo_iload⟩ (
  And.intro ⟨ok_cs (z := 108) dX7_set_17 wd_324 wd_325 wd_1 wd_326 rfl (by decide) hy_X7_mostOf rfl, mo_cs⟩ (
  And.intro ⟨ok_nop, mo_nop⟩ (
  And.intro ⟨ok_nop, mo_nop⟩ (
  And.intro ⟨ok_cs (z := 105) dX7_set_20 wd_275 wd_276 wd_1 wd_277 rfl (by decide) hy_X7_within rfl, mo_cs⟩ (
  And.intro ⟨ok_nop, mo_nop⟩ (
  And.intro ⟨ok_nop, mo_nop⟩ (
  And.intro ⟨ok_if_ne dX7_set_23 (by decide) rfl, mo_if⟩ (
  And.intro ⟨ok_nop, mo_nop⟩ (
  And.intro ⟨ok_nop, mo_nop⟩ (
  And.intro ⟨ok_ldc dX7_set_26 rfl wd_278, mo_push⟩ (
  And.intro ⟨ok_nop, mo_nop⟩ (
  And.intro ⟨ok_iret dX7_set_28 rfl, mo_iret⟩ (
  And.intro ⟨ok_aload dX7_set_29 rfl, mo_aload⟩ (
  And.intro ⟨ok_nop, mo_nop⟩ (
  And.intro ⟨ok_iload_n dX7_set_31 rfl rfl, mo_iload⟩ (
  trivial))))))))))))))))
theorem rX7_set_2 : am_allR (fun pc o => am_ok am_tb0 cX7_set RX7 6 (some .int) false pc o ∧ am_mo o) 32 (am_nth [] tX7_set 2) :=
  And.intro ⟨ok_cv (z := 9) dX7_set_32 hclX1 (by decide) wd_297 wd_298 wd_299 wd_3 wd_300 rfl (by decide) ⟨rfl, hy_X1_part⟩ rfl, mo_cv⟩ (
  And.intro ⟨ok_nop, mo_nop⟩ (
  And.intro ⟨ok_nop, mo_nop⟩ (
  And.intro ⟨ok_istore dX7_set_35 (by decide) rfl, mo_istore⟩ (
  And.intro ⟨ok_nop, mo_nop⟩ (
  And.intro ⟨ok_aload dX7_set_37 rfl, mo_aload⟩ (
  And.intro ⟨ok_nop, mo_nop⟩ (
  And.intro ⟨ok_iload_n dX7_set_39 rfl rfl, mo_iload⟩ (
  And.intro ⟨ok_iload_n dX7_set_40 rfl rfl, mo_iload⟩ (
  And.intro ⟨ok_cv (z := 10) dX7_set_41 hclX1 (by decide) wd_327 wd_328 wd_329 wd_3 wd_330 rfl (by decide) ⟨rfl, hy_X1_change⟩ rfl, mo_cv⟩ (
  And.intro ⟨ok_nop, mo_nop⟩ (
  And.intro ⟨ok_nop, mo_nop⟩ (
  And.intro ⟨ok_iload dX7_set_44 rfl, mo_iload⟩ (
  And.intro ⟨ok_nop, mo_nop⟩ (
  And.intro ⟨ok_iret dX7_set_46 rfl, mo_iret⟩ (
  And.intro ⟨ok_nop, mo_nop⟩ (
  trivial))))))))))))))))
theorem kX7_set : am_M1 am_tb0 cX7_set RX7 6 (some .int) false tX7_set := And.intro rX7_set_0 (And.intro rX7_set_1 (And.intro rX7_set_2 (trivial)))
def tX7_settles : List (List am_Op) := [[o_aload 0 1, o_getR 7 11 0 4, am_nop, am_nop, o_iload 1 5, o_cv 2 14 15 2 0 1 8, am_nop, am_nop, o_astore 3 9, o_aload 3 10, o_null 22 13, am_nop, am_nop, o_iload 2 14, o_push (.int 9) 16, am_nop],
  [o_cs 105 2 0 2 19, am_nop, am_nop, o_if (fun x => ¬ x = 0) 25 22, am_nop, am_nop, o_push (.int (-1000000001)) 24, am_nop, o_iret, o_aload 0 26, o_getR 7 11 0 29, am_nop, am_nop, o_aload 3 30, o_iload 2 31, o_cv 2 14 23 3 3 2 34],
  [am_nop, am_nop, o_iret, am_nop, am_nop, am_nop, am_nop, am_nop, am_nop, am_nop, am_nop, am_nop, am_nop, am_nop, am_nop, am_nop]]
theorem rX7_settles_0 : am_allR (fun pc o => am_ok am_tb0 cX7_settles RX7 4 (some .int) false pc o ∧ am_mo o) 0 (am_nth [] tX7_settles 0) :=
  And.intro ⟨ok_aload_n dX7_settles_0 rfl rfl, mo_aload⟩ (
  And.intro ⟨ok_getR dX7_settles_1 hclX7 inWX7 (by decide) (by decide) wd_237 (fun _ _ _ => rfl) rfl, mo_getR⟩ (
  And.intro ⟨ok_nop, mo_nop⟩ (
  And.intro ⟨ok_nop, mo_nop⟩ (
  And.intro ⟨ok_iload_n dX7_settles_4 rfl rfl, mo_iload⟩ (
  And.intro ⟨ok_cv (z := 15) dX7_settles_5 hclX2 (by decide) wd_293 wd_294 wd_295 wd_2 wd_296 rfl (by decide) ⟨rfl, hy_X2_find⟩ rfl, mo_cv⟩ (
  And.intro ⟨ok_nop, mo_nop⟩ (
  And.intro ⟨ok_nop, mo_nop⟩ (
  And.intro ⟨ok_astore_n dX7_settles_8 rfl (by decide) rfl, mo_astore⟩ (
  And.intro ⟨ok_aload_n dX7_settles_9 rfl rfl, mo_aload⟩ (
  And.intro ⟨ok_ifnull dX7_settles_10 (by decide) rfl, mo_null⟩ (
  And.intro ⟨ok_nop, mo_nop⟩ (
  And.intro ⟨ok_nop, mo_nop⟩ (
  And.intro ⟨ok_iload_n dX7_settles_13 rfl rfl, mo_iload⟩ (
  And.intro ⟨ok_bipush dX7_settles_14 rfl bi_9, mo_push⟩ (
  And.intro ⟨ok_nop, mo_nop⟩ (
  trivial))))))))))))))))
theorem rX7_settles_1 : am_allR (fun pc o => am_ok am_tb0 cX7_settles RX7 4 (some .int) false pc o ∧ am_mo o) 16 (am_nth [] tX7_settles 1) :=
  And.intro ⟨ok_cs (z := 105) dX7_settles_16 wd_275 wd_276 wd_1 wd_277 rfl (by decide) hy_X7_within rfl, mo_cs⟩ (
  And.intro ⟨ok_nop, mo_nop⟩ (
  And.intro ⟨ok_nop, mo_nop⟩ (
  And.intro ⟨ok_if_ne dX7_settles_19 (by decide) rfl, mo_if⟩ (
  And.intro ⟨ok_nop, mo_nop⟩ (
  And.intro ⟨ok_nop, mo_nop⟩ (
  And.intro ⟨ok_ldc dX7_settles_22 rfl wd_278, mo_push⟩ (
  And.intro ⟨ok_nop, mo_nop⟩ (
  And.intro ⟨ok_iret dX7_settles_24 rfl, mo_iret⟩ (
  And.intro ⟨ok_aload_n dX7_settles_25 rfl rfl, mo_aload⟩ (
  And.intro ⟨ok_getR dX7_settles_26 hclX7 inWX7 (by decide) (by decide) wd_237 (fun _ _ _ => rfl) rfl, mo_getR⟩ (
  And.intro ⟨ok_nop, mo_nop⟩ (
  And.intro ⟨ok_nop, mo_nop⟩ (
  And.intro ⟨ok_aload_n dX7_settles_29 rfl rfl, mo_aload⟩ (
  And.intro ⟨ok_iload_n dX7_settles_30 rfl rfl, mo_iload⟩ (
  And.intro ⟨ok_cv (z := 23) dX7_settles_31 hclX2 (by decide) wd_335 wd_336 wd_337 wd_2 wd_338 rfl (by decide) ⟨rfl, hy_X2_sinks⟩ rfl, mo_cv⟩ (
  trivial))))))))))))))))
theorem rX7_settles_2 : am_allR (fun pc o => am_ok am_tb0 cX7_settles RX7 4 (some .int) false pc o ∧ am_mo o) 32 (am_nth [] tX7_settles 2) :=
  And.intro ⟨ok_nop, mo_nop⟩ (
  And.intro ⟨ok_nop, mo_nop⟩ (
  And.intro ⟨ok_iret dX7_settles_34 rfl, mo_iret⟩ (
  And.intro ⟨ok_nop, mo_nop⟩ (
  And.intro ⟨ok_nop, mo_nop⟩ (
  And.intro ⟨ok_nop, mo_nop⟩ (
  And.intro ⟨ok_nop, mo_nop⟩ (
  And.intro ⟨ok_nop, mo_nop⟩ (
  And.intro ⟨ok_nop, mo_nop⟩ (
  And.intro ⟨ok_nop, mo_nop⟩ (
  And.intro ⟨ok_nop, mo_nop⟩ (
  And.intro ⟨ok_nop, mo_nop⟩ (
  And.intro ⟨ok_nop, mo_nop⟩ (
  And.intro ⟨ok_nop, mo_nop⟩ (
  And.intro ⟨ok_nop, mo_nop⟩ (
  And.intro ⟨ok_nop, mo_nop⟩ (
  trivial))))))))))))))))
theorem kX7_settles : am_M1 am_tb0 cX7_settles RX7 4 (some .int) false tX7_settles := And.intro rX7_settles_0 (And.intro rX7_settles_1 (And.intro rX7_settles_2 (trivial)))
def tX7_rule : List (List am_Op) := [[o_iload 1 1, o_if (fun x => ¬ x = 0) 31 4, am_nop, am_nop, o_iload 2 5, o_push (.int 29) 7, am_nop, o_cs 105 2 0 2 10, am_nop, am_nop, o_if (fun x => x = 0) 31 13, am_nop, am_nop, o_aload 0 14, o_getR 7 11 0 17, am_nop],
  [am_nop, o_getI 2 14 8 20, am_nop, am_nop, o_istore 3 21, o_aload 0 22, o_getR 7 11 0 25, am_nop, am_nop, o_iload 2 26, o_putI 2 14 8 29, am_nop, am_nop, o_iload 3 30, o_iret, o_iload 1 32],
  [o_push (.int 1) 33, o_icmp (fun x y => ¬ x = y) 67 36, am_nop, am_nop, o_iload 2 37, o_push (.int 50) 39, am_nop, o_icmp (fun x y => x < y) 67 42, am_nop, am_nop, o_iload 2 43, o_push (.int 200) 46, am_nop, am_nop, o_icmp (fun x y => y < x) 67 49, am_nop],
  [am_nop, o_aload 0 50, o_getR 7 11 0 53, am_nop, am_nop, o_getI 2 14 9 56, am_nop, am_nop, o_istore 3 57, o_aload 0 58, o_getR 7 11 0 61, am_nop, am_nop, o_iload 2 62, o_putI 2 14 9 65, am_nop],
  [am_nop, o_iload 3 66, o_iret, o_push (.int (-1000000001)) 69, am_nop, o_iret, am_nop, am_nop, am_nop, am_nop, am_nop, am_nop, am_nop, am_nop, am_nop, am_nop]]
theorem rX7_rule_0 : am_allR (fun pc o => am_ok am_tb0 cX7_rule RX7 4 (some .int) false pc o ∧ am_mo o) 0 (am_nth [] tX7_rule 0) :=
  And.intro ⟨ok_iload_n dX7_rule_0 rfl rfl, mo_iload⟩ (
  And.intro ⟨ok_if_ne dX7_rule_1 (by decide) rfl, mo_if⟩ (
  And.intro ⟨ok_nop, mo_nop⟩ (
  And.intro ⟨ok_nop, mo_nop⟩ (
  And.intro ⟨ok_iload_n dX7_rule_4 rfl rfl, mo_iload⟩ (
  And.intro ⟨ok_bipush dX7_rule_5 rfl bi_29, mo_push⟩ (
  And.intro ⟨ok_nop, mo_nop⟩ (
  And.intro ⟨ok_cs (z := 105) dX7_rule_7 wd_275 wd_276 wd_1 wd_277 rfl (by decide) hy_X7_within rfl, mo_cs⟩ (
  And.intro ⟨ok_nop, mo_nop⟩ (
  And.intro ⟨ok_nop, mo_nop⟩ (
  And.intro ⟨ok_if_eq dX7_rule_10 (by decide) rfl, mo_if⟩ (
  And.intro ⟨ok_nop, mo_nop⟩ (
  And.intro ⟨ok_nop, mo_nop⟩ (
  And.intro ⟨ok_aload_n dX7_rule_13 rfl rfl, mo_aload⟩ (
  And.intro ⟨ok_getR dX7_rule_14 hclX7 inWX7 (by decide) (by decide) wd_237 (fun _ _ _ => rfl) rfl, mo_getR⟩ (
  And.intro ⟨ok_nop, mo_nop⟩ (
  trivial))))))))))))))))
theorem rX7_rule_1 : am_allR (fun pc o => am_ok am_tb0 cX7_rule RX7 4 (some .int) false pc o ∧ am_mo o) 16 (am_nth [] tX7_rule 1) :=
  And.intro ⟨ok_nop, mo_nop⟩ (
  And.intro ⟨ok_getIN dX7_rule_17 hclX2 inWX2 (by decide) (by decide) wn_87 (fun _ _ _ => rfl) rfl, mo_getI⟩ (
  And.intro ⟨ok_nop, mo_nop⟩ (
  And.intro ⟨ok_nop, mo_nop⟩ (
  And.intro ⟨ok_istore_n dX7_rule_20 rfl (by decide) rfl, mo_istore⟩ (
  And.intro ⟨ok_aload_n dX7_rule_21 rfl rfl, mo_aload⟩ (
  And.intro ⟨ok_getR dX7_rule_22 hclX7 inWX7 (by decide) (by decide) wd_237 (fun _ _ _ => rfl) rfl, mo_getR⟩ (
  And.intro ⟨ok_nop, mo_nop⟩ (
  And.intro ⟨ok_nop, mo_nop⟩ (
  And.intro ⟨ok_iload_n dX7_rule_25 rfl rfl, mo_iload⟩ (
  And.intro ⟨ok_putIN dX7_rule_26 hclX2 inWX2 tyX2_ok nmX2 (by decide) (by decide) wn_87 rfl (tyX2_ok 8 (by decide)) (fun _ _ _ => rfl) rfl, mo_putI⟩ (
  And.intro ⟨ok_nop, mo_nop⟩ (
  And.intro ⟨ok_nop, mo_nop⟩ (
  And.intro ⟨ok_iload_n dX7_rule_29 rfl rfl, mo_iload⟩ (
  And.intro ⟨ok_iret dX7_rule_30 rfl, mo_iret⟩ (
  And.intro ⟨ok_iload_n dX7_rule_31 rfl rfl, mo_iload⟩ (
  trivial))))))))))))))))
theorem rX7_rule_2 : am_allR (fun pc o => am_ok am_tb0 cX7_rule RX7 4 (some .int) false pc o ∧ am_mo o) 32 (am_nth [] tX7_rule 2) :=
  And.intro ⟨ok_iconst dX7_rule_32 rfl ic_1, mo_push⟩ (
  And.intro ⟨ok_icmp_ne dX7_rule_33 (by decide) rfl, mo_icmp⟩ (
  And.intro ⟨ok_nop, mo_nop⟩ (
  And.intro ⟨ok_nop, mo_nop⟩ (
  And.intro ⟨ok_iload_n dX7_rule_36 rfl rfl, mo_iload⟩ (
  And.intro ⟨ok_bipush dX7_rule_37 rfl bi_50, mo_push⟩ (
  And.intro ⟨ok_nop, mo_nop⟩ (
  And.intro ⟨ok_icmp_lt dX7_rule_39 (by decide) rfl, mo_icmp⟩ (
  And.intro ⟨ok_nop, mo_nop⟩ (
  And.intro ⟨ok_nop, mo_nop⟩ (
  And.intro ⟨ok_iload_n dX7_rule_42 rfl rfl, mo_iload⟩ (
  And.intro ⟨ok_sipush dX7_rule_43 rfl si_200, mo_push⟩ (
  And.intro ⟨ok_nop, mo_nop⟩ (
  And.intro ⟨ok_nop, mo_nop⟩ (
  And.intro ⟨ok_icmp_gt dX7_rule_46 (by decide) rfl, mo_icmp⟩ (
  And.intro ⟨ok_nop, mo_nop⟩ (
  trivial))))))))))))))))
theorem rX7_rule_3 : am_allR (fun pc o => am_ok am_tb0 cX7_rule RX7 4 (some .int) false pc o ∧ am_mo o) 48 (am_nth [] tX7_rule 3) :=
  And.intro ⟨ok_nop, mo_nop⟩ (
  And.intro ⟨ok_aload_n dX7_rule_49 rfl rfl, mo_aload⟩ (
  And.intro ⟨ok_getR dX7_rule_50 hclX7 inWX7 (by decide) (by decide) wd_237 (fun _ _ _ => rfl) rfl, mo_getR⟩ (
  And.intro ⟨ok_nop, mo_nop⟩ (
  And.intro ⟨ok_nop, mo_nop⟩ (
  And.intro ⟨ok_getIN dX7_rule_53 hclX2 inWX2 (by decide) (by decide) wn_89 (fun _ _ _ => rfl) rfl, mo_getI⟩ (
  And.intro ⟨ok_nop, mo_nop⟩ (
  And.intro ⟨ok_nop, mo_nop⟩ (
  And.intro ⟨ok_istore_n dX7_rule_56 rfl (by decide) rfl, mo_istore⟩ (
  And.intro ⟨ok_aload_n dX7_rule_57 rfl rfl, mo_aload⟩ (
  And.intro ⟨ok_getR dX7_rule_58 hclX7 inWX7 (by decide) (by decide) wd_237 (fun _ _ _ => rfl) rfl, mo_getR⟩ (
  And.intro ⟨ok_nop, mo_nop⟩ (
  And.intro ⟨ok_nop, mo_nop⟩ (
  And.intro ⟨ok_iload_n dX7_rule_61 rfl rfl, mo_iload⟩ (
  And.intro ⟨ok_putIN dX7_rule_62 hclX2 inWX2 tyX2_ok nmX2 (by decide) (by decide) wn_89 rfl (tyX2_ok 9 (by decide)) (fun _ _ _ => rfl) rfl, mo_putI⟩ (
  And.intro ⟨ok_nop, mo_nop⟩ (
  trivial))))))))))))))))
theorem rX7_rule_4 : am_allR (fun pc o => am_ok am_tb0 cX7_rule RX7 4 (some .int) false pc o ∧ am_mo o) 64 (am_nth [] tX7_rule 4) :=
  And.intro ⟨ok_nop, mo_nop⟩ (
  And.intro ⟨ok_iload_n dX7_rule_65 rfl rfl, mo_iload⟩ (
  And.intro ⟨ok_iret dX7_rule_66 rfl, mo_iret⟩ (
  And.intro ⟨ok_ldc dX7_rule_67 rfl wd_278, mo_push⟩ (
  And.intro ⟨ok_nop, mo_nop⟩ (
  And.intro ⟨ok_iret dX7_rule_69 rfl, mo_iret⟩ (
  And.intro ⟨ok_nop, mo_nop⟩ (
  And.intro ⟨ok_nop, mo_nop⟩ (
  And.intro ⟨ok_nop, mo_nop⟩ (
  And.intro ⟨ok_nop, mo_nop⟩ (
  And.intro ⟨ok_nop, mo_nop⟩ (
  And.intro ⟨ok_nop, mo_nop⟩ (
  And.intro ⟨ok_nop, mo_nop⟩ (
  And.intro ⟨ok_nop, mo_nop⟩ (
  And.intro ⟨ok_nop, mo_nop⟩ (
  And.intro ⟨ok_nop, mo_nop⟩ (
  trivial))))))))))))))))
theorem kX7_rule : am_M1 am_tb0 cX7_rule RX7 4 (some .int) false tX7_rule := And.intro rX7_rule_0 (And.intro rX7_rule_1 (And.intro rX7_rule_2 (And.intro rX7_rule_3 (And.intro rX7_rule_4 (trivial)))))
def tX7_deal : List (List am_Op) := [[o_iload 1 1, o_push (.int 1) 2, o_icmp (fun x y => x < y) 11 5, am_nop, am_nop, o_iload 1 6, o_push (.int 10) 8, am_nop, o_icmp (fun x y => x ≤ y) 14 11, am_nop, am_nop, o_push (.int (-1000000001)) 13, am_nop, o_iret, o_iload 1 15, o_push (.int 10) 17],
  [am_nop, o_aload 0 18, o_getR 7 11 0 21, am_nop, am_nop, o_getI 2 14 1 24, am_nop, am_nop, o_bin (fun x y => x - y) 25, o_mbin (fun x y => if y < x then y else x) 28, am_nop, am_nop, o_istore 2 29, o_push (.int 0) 30, o_istore 3 31, o_iload 3 32],
  [o_iload 2 33, o_icmp (fun x y => y ≤ x) 49 36, am_nop, am_nop, o_aload 0 37, o_getR 7 11 0 40, am_nop, am_nop, o_cv 2 14 17 5 2 0 43, am_nop, am_nop, o_iinc 3 1 46, am_nop, am_nop, o_goto 31, am_nop],
  [am_nop, o_iload 2 50, o_iret, am_nop, am_nop, am_nop, am_nop, am_nop, am_nop, am_nop, am_nop, am_nop, am_nop, am_nop, am_nop, am_nop]]
theorem rX7_deal_0 : am_allR (fun pc o => am_ok am_tb0 cX7_deal RX7 4 (some .int) false pc o ∧ am_mo o) 0 (am_nth [] tX7_deal 0) :=
  And.intro ⟨ok_iload_n dX7_deal_0 rfl rfl, mo_iload⟩ (
  And.intro ⟨ok_iconst dX7_deal_1 rfl ic_1, mo_push⟩ (
  And.intro ⟨ok_icmp_lt dX7_deal_2 (by decide) rfl, mo_icmp⟩ (
  And.intro ⟨ok_nop, mo_nop⟩ (
  And.intro ⟨ok_nop, mo_nop⟩ (
  And.intro ⟨ok_iload_n dX7_deal_5 rfl rfl, mo_iload⟩ (
  And.intro ⟨ok_bipush dX7_deal_6 rfl bi_10, mo_push⟩ (
  And.intro ⟨ok_nop, mo_nop⟩ (
  And.intro ⟨ok_icmp_le dX7_deal_8 (by decide) rfl, mo_icmp⟩ (
  And.intro ⟨ok_nop, mo_nop⟩ (
  And.intro ⟨ok_nop, mo_nop⟩ (
  And.intro ⟨ok_ldc dX7_deal_11 rfl wd_278, mo_push⟩ (
  And.intro ⟨ok_nop, mo_nop⟩ (
  And.intro ⟨ok_iret dX7_deal_13 rfl, mo_iret⟩ (
  And.intro ⟨ok_iload_n dX7_deal_14 rfl rfl, mo_iload⟩ (
  And.intro ⟨ok_bipush dX7_deal_15 rfl bi_10, mo_push⟩ (
  trivial))))))))))))))))
theorem rX7_deal_1 : am_allR (fun pc o => am_ok am_tb0 cX7_deal RX7 4 (some .int) false pc o ∧ am_mo o) 16 (am_nth [] tX7_deal 1) :=
  And.intro ⟨ok_nop, mo_nop⟩ (
  And.intro ⟨ok_aload_n dX7_deal_17 rfl rfl, mo_aload⟩ (
  And.intro ⟨ok_getR dX7_deal_18 hclX7 inWX7 (by decide) (by decide) wd_237 (fun _ _ _ => rfl) rfl, mo_getR⟩ (
  And.intro ⟨ok_nop, mo_nop⟩ (
  And.intro ⟨ok_nop, mo_nop⟩ (
  And.intro ⟨ok_getIN dX7_deal_21 hclX2 inWX2 (by decide) (by decide) wn_70 (fun _ _ _ => rfl) rfl, mo_getI⟩ (
  And.intro ⟨ok_nop, mo_nop⟩ (
  And.intro ⟨ok_nop, mo_nop⟩ (
  And.intro ⟨ok_isub dX7_deal_24 rfl, mo_bin⟩ (
  And.intro ⟨ok_mmin dX7_deal_25 wd_364 wd_365 wd_10 wm_mmin rfl, mo_mbin⟩ (
  And.intro ⟨ok_nop, mo_nop⟩ (
  And.intro ⟨ok_nop, mo_nop⟩ (
  And.intro ⟨ok_istore_n dX7_deal_28 rfl (by decide) rfl, mo_istore⟩ (
  And.intro ⟨ok_iconst dX7_deal_29 rfl ic_0, mo_push⟩ (
  And.intro ⟨ok_istore_n dX7_deal_30 rfl (by decide) rfl, mo_istore⟩ (
  And.intro ⟨ok_iload_n dX7_deal_31 rfl rfl, mo_iload⟩ (
  trivial))))))))))))))))
theorem rX7_deal_2 : am_allR (fun pc o => am_ok am_tb0 cX7_deal RX7 4 (some .int) false pc o ∧ am_mo o) 32 (am_nth [] tX7_deal 2) :=
  And.intro ⟨ok_iload_n dX7_deal_32 rfl rfl, mo_iload⟩ (
  And.intro ⟨ok_icmp_ge dX7_deal_33 (by decide) rfl, mo_icmp⟩ (
  And.intro ⟨ok_nop, mo_nop⟩ (
  And.intro ⟨ok_nop, mo_nop⟩ (
  And.intro ⟨ok_aload_n dX7_deal_36 rfl rfl, mo_aload⟩ (
  And.intro ⟨ok_getR dX7_deal_37 hclX7 inWX7 (by decide) (by decide) wd_237 (fun _ _ _ => rfl) rfl, mo_getR⟩ (
  And.intro ⟨ok_nop, mo_nop⟩ (
  And.intro ⟨ok_nop, mo_nop⟩ (
  And.intro ⟨ok_cv (z := 17) dX7_deal_40 hclX2 (by decide) wd_379 wd_380 wd_381 wd_2 wd_382 rfl (by decide) ⟨rfl, hy_X2_openByLot⟩ rfl, mo_cv⟩ (
  And.intro ⟨ok_nop, mo_nop⟩ (
  And.intro ⟨ok_nop, mo_nop⟩ (
  And.intro ⟨ok_iinc dX7_deal_43 ic_1 (by decide) rfl, mo_iinc⟩ (
  And.intro ⟨ok_nop, mo_nop⟩ (
  And.intro ⟨ok_nop, mo_nop⟩ (
  And.intro ⟨ok_goto dX7_deal_46 (by decide), mo_goto⟩ (
  And.intro ⟨ok_nop, mo_nop⟩ (
  trivial))))))))))))))))
theorem rX7_deal_3 : am_allR (fun pc o => am_ok am_tb0 cX7_deal RX7 4 (some .int) false pc o ∧ am_mo o) 48 (am_nth [] tX7_deal 3) :=
  And.intro ⟨ok_nop, mo_nop⟩ (
  And.intro ⟨ok_iload_n dX7_deal_49 rfl rfl, mo_iload⟩ (
  And.intro ⟨ok_iret dX7_deal_50 rfl, mo_iret⟩ (
  And.intro ⟨ok_nop, mo_nop⟩ (
  And.intro ⟨ok_nop, mo_nop⟩ (
  And.intro ⟨ok_nop, mo_nop⟩ (
  And.intro ⟨ok_nop, mo_nop⟩ (
  And.intro ⟨ok_nop, mo_nop⟩ (
  And.intro ⟨ok_nop, mo_nop⟩ (
  And.intro ⟨ok_nop, mo_nop⟩ (
  And.intro ⟨ok_nop, mo_nop⟩ (
  And.intro ⟨ok_nop, mo_nop⟩ (
  And.intro ⟨ok_nop, mo_nop⟩ (
  And.intro ⟨ok_nop, mo_nop⟩ (
  And.intro ⟨ok_nop, mo_nop⟩ (
  And.intro ⟨ok_nop, mo_nop⟩ (
  trivial))))))))))))))))
theorem kX7_deal : am_M1 am_tb0 cX7_deal RX7 4 (some .int) false tX7_deal := And.intro rX7_deal_0 (And.intro rX7_deal_1 (And.intro rX7_deal_2 (And.intro rX7_deal_3 (trivial))))
def tX7_seed : List (List am_Op) := [[o_aload 0 1, o_getR 7 11 0 4, am_nop, am_nop, o_getI 2 14 13 7, am_nop, am_nop, o_istore 2 8, o_aload 0 9, o_getR 7 11 0 12, am_nop, am_nop, o_iload 1 13, o_putI 2 14 13 16, am_nop, am_nop],
  [o_iload 2 17, o_iret, am_nop, am_nop, am_nop, am_nop, am_nop, am_nop, am_nop, am_nop, am_nop, am_nop, am_nop, am_nop, am_nop, am_nop]]
theorem rX7_seed_0 : am_allR (fun pc o => am_ok am_tb0 cX7_seed RX7 3 (some .int) false pc o ∧ am_mo o) 0 (am_nth [] tX7_seed 0) :=
  And.intro ⟨ok_aload_n dX7_seed_0 rfl rfl, mo_aload⟩ (
  And.intro ⟨ok_getR dX7_seed_1 hclX7 inWX7 (by decide) (by decide) wd_237 (fun _ _ _ => rfl) rfl, mo_getR⟩ (
  And.intro ⟨ok_nop, mo_nop⟩ (
  And.intro ⟨ok_nop, mo_nop⟩ (
  And.intro ⟨ok_getIN dX7_seed_4 hclX2 inWX2 (by decide) (by decide) wn_97 (fun _ _ _ => rfl) rfl, mo_getI⟩ (
  And.intro ⟨ok_nop, mo_nop⟩ (
  And.intro ⟨ok_nop, mo_nop⟩ (
  And.intro ⟨ok_istore_n dX7_seed_7 rfl (by decide) rfl, mo_istore⟩ (
  And.intro ⟨ok_aload_n dX7_seed_8 rfl rfl, mo_aload⟩ (
  And.intro ⟨ok_getR dX7_seed_9 hclX7 inWX7 (by decide) (by decide) wd_237 (fun _ _ _ => rfl) rfl, mo_getR⟩ (
  And.intro ⟨ok_nop, mo_nop⟩ (
  And.intro ⟨ok_nop, mo_nop⟩ (
  And.intro ⟨ok_iload_n dX7_seed_12 rfl rfl, mo_iload⟩ (
  And.intro ⟨ok_putIN dX7_seed_13 hclX2 inWX2 tyX2_ok nmX2 (by decide) (by decide) wn_97 rfl (tyX2_ok 13 (by decide)) (fun _ _ _ => rfl) rfl, mo_putI⟩ (
  And.intro ⟨ok_nop, mo_nop⟩ (
  And.intro ⟨ok_nop, mo_nop⟩ (
  trivial))))))))))))))))
theorem rX7_seed_1 : am_allR (fun pc o => am_ok am_tb0 cX7_seed RX7 3 (some .int) false pc o ∧ am_mo o) 16 (am_nth [] tX7_seed 1) :=
  And.intro ⟨ok_iload_n dX7_seed_16 rfl rfl, mo_iload⟩ (
  And.intro ⟨ok_iret dX7_seed_17 rfl, mo_iret⟩ (
  And.intro ⟨ok_nop, mo_nop⟩ (
  And.intro ⟨ok_nop, mo_nop⟩ (
  And.intro ⟨ok_nop, mo_nop⟩ (
  And.intro ⟨ok_nop, mo_nop⟩ (
  And.intro ⟨ok_nop, mo_nop⟩ (
  And.intro ⟨ok_nop, mo_nop⟩ (
  And.intro ⟨ok_nop, mo_nop⟩ (
  And.intro ⟨ok_nop, mo_nop⟩ (
  And.intro ⟨ok_nop, mo_nop⟩ (
  And.intro ⟨ok_nop, mo_nop⟩ (
  And.intro ⟨ok_nop, mo_nop⟩ (
  And.intro ⟨ok_nop, mo_nop⟩ (
  And.intro ⟨ok_nop, mo_nop⟩ (
  And.intro ⟨ok_nop, mo_nop⟩ (
  trivial))))))))))))))))
theorem kX7_seed : am_M1 am_tb0 cX7_seed RX7 3 (some .int) false tX7_seed := And.intro rX7_seed_0 (And.intro rX7_seed_1 (trivial))
def tX7_takes : List (List am_Op) := [[o_iload 1 1, o_push (.int 29) 3, am_nop, o_cs 105 2 0 2 6, am_nop, am_nop, o_if (fun x => x = 0) 16 9, am_nop, am_nop, o_iload 2 10, o_cs 106 1 0 1 13, am_nop, am_nop, o_if (fun x => ¬ x = 0) 19 16, am_nop, am_nop],
  [o_push (.int (-1000000001)) 18, am_nop, o_iret, o_aload 0 20, o_getR 7 11 0 23, am_nop, am_nop, o_iload 2 24, o_cv 2 14 20 2 0 1 27, am_nop, am_nop, o_istore 3 28, o_push (.int 0) 29, o_istore 4 31, am_nop, o_push (.int 0) 32],
  [o_istore 5 34, am_nop, o_iload 5 36, am_nop, o_aload 0 37, o_getR 7 11 0 40, am_nop, am_nop, o_getI 2 14 1 43, am_nop, am_nop, o_icmp (fun x y => y ≤ x) 83 46, am_nop, am_nop, o_aload 0 47, o_getR 7 11 0 50],
  [am_nop, am_nop, o_aload 0 51, o_getR 7 11 0 54, am_nop, am_nop, o_getR 2 14 0 57, am_nop, am_nop, o_iload 5 59, am_nop, o_aald 31 60, o_iload 3 61, o_iload 1 62, o_cv 2 14 21 7 3 3 65, am_nop],
  [am_nop, o_if (fun x => x = 0) 77 68, am_nop, am_nop, o_iload 4 70, am_nop, o_push (.int 1) 71, o_iload 5 73, am_nop, o_bin (fun x y => x <<< (y &&& 31)) 74, o_bin (fun x y => x ||| y) 75, o_istore 4 77, am_nop, o_iinc 5 1 80, am_nop, am_nop],
  [o_goto 34, am_nop, am_nop, o_iload 4 85, am_nop, o_iret, am_nop, am_nop, am_nop, am_nop, am_nop, am_nop, am_nop, am_nop, am_nop, am_nop]]
theorem rX7_takes_0 : am_allR (fun pc o => am_ok am_tb0 cX7_takes RX7 6 (some .int) false pc o ∧ am_mo o) 0 (am_nth [] tX7_takes 0) :=
  And.intro ⟨ok_iload_n dX7_takes_0 rfl rfl, mo_iload⟩ (
  And.intro ⟨ok_bipush dX7_takes_1 rfl bi_29, mo_push⟩ (
  And.intro ⟨ok_nop, mo_nop⟩ (
  And.intro ⟨ok_cs (z := 105) dX7_takes_3 wd_275 wd_276 wd_1 wd_277 rfl (by decide) hy_X7_within rfl, mo_cs⟩ (
  And.intro ⟨ok_nop, mo_nop⟩ (
  And.intro ⟨ok_nop, mo_nop⟩ (
  And.intro ⟨ok_if_eq dX7_takes_6 (by decide) rfl, mo_if⟩ (
  And.intro ⟨ok_nop, mo_nop⟩ (
  And.intro ⟨ok_nop, mo_nop⟩ (
  And.intro ⟨ok_iload_n dX7_takes_9 rfl rfl, mo_iload⟩ (
  And.intro ⟨ok_cs (z := 106) dX7_takes_10 wd_397 wd_398 wd_1 wd_399 rfl (by decide) hy_X7_isSpades rfl, mo_cs⟩ (
  And.intro ⟨ok_nop, mo_nop⟩ (
  And.intro ⟨ok_nop, mo_nop⟩ (
  And.intro ⟨ok_if_ne dX7_takes_13 (by decide) rfl, mo_if⟩ (
  And.intro ⟨ok_nop, mo_nop⟩ (
  And.intro ⟨ok_nop, mo_nop⟩ (
  trivial))))))))))))))))
theorem rX7_takes_1 : am_allR (fun pc o => am_ok am_tb0 cX7_takes RX7 6 (some .int) false pc o ∧ am_mo o) 16 (am_nth [] tX7_takes 1) :=
  And.intro ⟨ok_ldc dX7_takes_16 rfl wd_278, mo_push⟩ (
  And.intro ⟨ok_nop, mo_nop⟩ (
  And.intro ⟨ok_iret dX7_takes_18 rfl, mo_iret⟩ (
  And.intro ⟨ok_aload_n dX7_takes_19 rfl rfl, mo_aload⟩ (
  And.intro ⟨ok_getR dX7_takes_20 hclX7 inWX7 (by decide) (by decide) wd_237 (fun _ _ _ => rfl) rfl, mo_getR⟩ (
  And.intro ⟨ok_nop, mo_nop⟩ (
  And.intro ⟨ok_nop, mo_nop⟩ (
  And.intro ⟨ok_iload_n dX7_takes_23 rfl rfl, mo_iload⟩ (
  And.intro ⟨ok_cv (z := 20) dX7_takes_24 hclX2 (by decide) wd_400 wd_401 wd_402 wd_2 wd_403 rfl (by decide) ⟨rfl, hy_X2_earthOf⟩ rfl, mo_cv⟩ (
  And.intro ⟨ok_nop, mo_nop⟩ (
  And.intro ⟨ok_nop, mo_nop⟩ (
  And.intro ⟨ok_istore_n dX7_takes_27 rfl (by decide) rfl, mo_istore⟩ (
  And.intro ⟨ok_iconst dX7_takes_28 rfl ic_0, mo_push⟩ (
  And.intro ⟨ok_istore dX7_takes_29 (by decide) rfl, mo_istore⟩ (
  And.intro ⟨ok_nop, mo_nop⟩ (
  And.intro ⟨ok_iconst dX7_takes_31 rfl ic_0, mo_push⟩ (
  trivial))))))))))))))))
theorem rX7_takes_2 : am_allR (fun pc o => am_ok am_tb0 cX7_takes RX7 6 (some .int) false pc o ∧ am_mo o) 32 (am_nth [] tX7_takes 2) :=
  And.intro ⟨ok_istore dX7_takes_32 (by decide) rfl, mo_istore⟩ (
  And.intro ⟨ok_nop, mo_nop⟩ (
  And.intro ⟨ok_iload dX7_takes_34 rfl, mo_iload⟩ (
  And.intro ⟨ok_nop, mo_nop⟩ (
  And.intro ⟨ok_aload_n dX7_takes_36 rfl rfl, mo_aload⟩ (
  And.intro ⟨ok_getR dX7_takes_37 hclX7 inWX7 (by decide) (by decide) wd_237 (fun _ _ _ => rfl) rfl, mo_getR⟩ (
  And.intro ⟨ok_nop, mo_nop⟩ (
  And.intro ⟨ok_nop, mo_nop⟩ (
  And.intro ⟨ok_getIN dX7_takes_40 hclX2 inWX2 (by decide) (by decide) wn_70 (fun _ _ _ => rfl) rfl, mo_getI⟩ (
  And.intro ⟨ok_nop, mo_nop⟩ (
  And.intro ⟨ok_nop, mo_nop⟩ (
  And.intro ⟨ok_icmp_ge dX7_takes_43 (by decide) rfl, mo_icmp⟩ (
  And.intro ⟨ok_nop, mo_nop⟩ (
  And.intro ⟨ok_nop, mo_nop⟩ (
  And.intro ⟨ok_aload_n dX7_takes_46 rfl rfl, mo_aload⟩ (
  And.intro ⟨ok_getR dX7_takes_47 hclX7 inWX7 (by decide) (by decide) wd_237 (fun _ _ _ => rfl) rfl, mo_getR⟩ (
  trivial))))))))))))))))
theorem rX7_takes_3 : am_allR (fun pc o => am_ok am_tb0 cX7_takes RX7 6 (some .int) false pc o ∧ am_mo o) 48 (am_nth [] tX7_takes 3) :=
  And.intro ⟨ok_nop, mo_nop⟩ (
  And.intro ⟨ok_nop, mo_nop⟩ (
  And.intro ⟨ok_aload_n dX7_takes_50 rfl rfl, mo_aload⟩ (
  And.intro ⟨ok_getR dX7_takes_51 hclX7 inWX7 (by decide) (by decide) wd_237 (fun _ _ _ => rfl) rfl, mo_getR⟩ (
  And.intro ⟨ok_nop, mo_nop⟩ (
  And.intro ⟨ok_nop, mo_nop⟩ (
  And.intro ⟨ok_getRN dX7_takes_54 hclX2 inWX2 (by decide) (by decide) wn_68 (fun _ _ _ => rfl) rfl, mo_getR⟩ (
  And.intro ⟨ok_nop, mo_nop⟩ (
  And.intro ⟨ok_nop, mo_nop⟩ (
  And.intro ⟨ok_iload dX7_takes_57 rfl, mo_iload⟩ (
  And.intro ⟨ok_nop, mo_nop⟩ (
  And.intro ⟨ok_aald (ci := 1) dX7_takes_59 (by decide) rfl rfl, mo_aald⟩ (
  And.intro ⟨ok_iload_n dX7_takes_60 rfl rfl, mo_iload⟩ (
  And.intro ⟨ok_iload_n dX7_takes_61 rfl rfl, mo_iload⟩ (
  And.intro ⟨ok_cv (z := 21) dX7_takes_62 hclX2 (by decide) wd_404 wd_405 wd_406 wd_2 wd_407 rfl (by decide) ⟨rfl, hy_X2_canFill⟩ rfl, mo_cv⟩ (
  And.intro ⟨ok_nop, mo_nop⟩ (
  trivial))))))))))))))))
theorem rX7_takes_4 : am_allR (fun pc o => am_ok am_tb0 cX7_takes RX7 6 (some .int) false pc o ∧ am_mo o) 64 (am_nth [] tX7_takes 4) :=
  And.intro ⟨ok_nop, mo_nop⟩ (
  And.intro ⟨ok_if_eq dX7_takes_65 (by decide) rfl, mo_if⟩ (
  And.intro ⟨ok_nop, mo_nop⟩ (
  And.intro ⟨ok_nop, mo_nop⟩ (
  And.intro ⟨ok_iload dX7_takes_68 rfl, mo_iload⟩ (
  And.intro ⟨ok_nop, mo_nop⟩ (
  And.intro ⟨ok_iconst dX7_takes_70 rfl ic_1, mo_push⟩ (
  And.intro ⟨ok_iload dX7_takes_71 rfl, mo_iload⟩ (
  And.intro ⟨ok_nop, mo_nop⟩ (
  And.intro ⟨ok_ishl dX7_takes_73 rfl, mo_bin⟩ (
  And.intro ⟨ok_ior dX7_takes_74 rfl, mo_bin⟩ (
  And.intro ⟨ok_istore dX7_takes_75 (by decide) rfl, mo_istore⟩ (
  And.intro ⟨ok_nop, mo_nop⟩ (
  And.intro ⟨ok_iinc dX7_takes_77 ic_1 (by decide) rfl, mo_iinc⟩ (
  And.intro ⟨ok_nop, mo_nop⟩ (
  And.intro ⟨ok_nop, mo_nop⟩ (
  trivial))))))))))))))))
theorem rX7_takes_5 : am_allR (fun pc o => am_ok am_tb0 cX7_takes RX7 6 (some .int) false pc o ∧ am_mo o) 80 (am_nth [] tX7_takes 5) :=
  And.intro ⟨ok_goto dX7_takes_80 (by decide), mo_goto⟩ (
  And.intro ⟨ok_nop, mo_nop⟩ (
  And.intro ⟨ok_nop, mo_nop⟩ (
  And.intro ⟨ok_iload dX7_takes_83 rfl, mo_iload⟩ (
  And.intro ⟨ok_nop, mo_nop⟩ (
  And.intro ⟨ok_iret dX7_takes_85 rfl, mo_iret⟩ (
  And.intro ⟨ok_nop, mo_nop⟩ (
  And.intro ⟨ok_nop, mo_nop⟩ (
  And.intro ⟨ok_nop, mo_nop⟩ (
  And.intro ⟨ok_nop, mo_nop⟩ (
  And.intro ⟨ok_nop, mo_nop⟩ (
  And.intro ⟨ok_nop, mo_nop⟩ (
  And.intro ⟨ok_nop, mo_nop⟩ (
  And.intro ⟨ok_nop, mo_nop⟩ (
  And.intro ⟨ok_nop, mo_nop⟩ (
  And.intro ⟨ok_nop, mo_nop⟩ (
  trivial))))))))))))))))
theorem kX7_takes : am_M1 am_tb0 cX7_takes RX7 6 (some .int) false tX7_takes := And.intro rX7_takes_0 (And.intro rX7_takes_1 (And.intro rX7_takes_2 (And.intro rX7_takes_3 (And.intro rX7_takes_4 (And.intro rX7_takes_5 (trivial))))))
def tX7_dig : List (List am_Op) := [[o_aload 0 1, o_getR 7 11 0 4, am_nop, am_nop, o_iload 3 5, o_cv 2 14 15 2 0 1 8, am_nop, am_nop, o_astore 5 10, am_nop, o_aload 5 12, am_nop, o_null 41 15, am_nop, am_nop, o_iload 1 16],
  [o_push (.int 29) 18, am_nop, o_cs 105 2 0 2 21, am_nop, am_nop, o_if (fun x => x = 0) 41 24, am_nop, am_nop, o_iload 2 25, o_cs 106 1 0 1 28, am_nop, am_nop, o_if (fun x => x = 0) 41 31, am_nop, am_nop, o_iload 4 33],
  [am_nop, o_push (.int 7) 35, am_nop, o_cs 105 2 0 2 38, am_nop, am_nop, o_if (fun x => ¬ x = 0) 44 41, am_nop, am_nop, o_push (.int (-1000000001)) 43, am_nop, o_iret, o_aload 0 45, o_getR 7 11 0 48, am_nop, am_nop],
  [o_iload 2 49, o_cv 2 14 20 2 0 1 52, am_nop, am_nop, o_istore 6 54, am_nop, o_aload 0 55, o_getR 7 11 0 58, am_nop, am_nop, o_aload 5 60, am_nop, o_iload 6 62, am_nop, o_iload 1 63, o_cv 2 14 21 7 3 3 66],
  [am_nop, am_nop, o_if (fun x => ¬ x = 0) 72 69, am_nop, am_nop, o_push (.int (-1000000002)) 71, am_nop, o_iret, o_aload 0 73, o_getR 7 11 0 76, am_nop, am_nop, o_aload 5 78, am_nop, o_iload 6 80, am_nop],
  [o_cv 2 14 19 5 0 2 83, am_nop, am_nop, o_istore 7 85, am_nop, o_iload 7 87, am_nop, o_if (fun x => x < 0) 97 90, am_nop, am_nop, o_iload 7 92, am_nop, o_push (.int 10) 94, am_nop, o_icmp (fun x y => x < y) 100 97, am_nop],
  [am_nop, o_push (.int (-1000000003)) 99, am_nop, o_iret, o_aload 5 102, am_nop, o_dup 103, o_getI 1 5 2 106, am_nop, am_nop, o_iload 6 108, am_nop, o_bin (fun x y => x - y) 109, o_putI 1 5 2 112, am_nop, am_nop],
  [o_aload 0 113, o_getR 7 11 0 116, am_nop, am_nop, o_dup 117, o_getI 2 14 11 120, am_nop, am_nop, o_iload 2 121, o_bin (fun x y => x + y) 122, o_putI 2 14 11 125, am_nop, am_nop, o_iload 7 127, am_nop, o_aload 0 128],
  [o_getR 7 11 0 131, am_nop, am_nop, o_getI 2 14 1 134, am_nop, am_nop, o_icmp (fun x y => ¬ x = y) 150 137, am_nop, am_nop, o_aload 0 138, o_getR 7 11 0 141, am_nop, am_nop, o_push (.int 0) 142, o_iload 1 143, o_iload 2 144],
  [o_iload 4 146, am_nop, o_cv 2 14 16 6 1 4 149, am_nop, am_nop, o_iret, o_aload 0 151, o_getR 7 11 0 154, am_nop, am_nop, o_getR 2 14 0 157, am_nop, am_nop, o_iload 7 159, am_nop, o_aald 31 160],
  [o_push (.int 0) 161, o_iload 1 162, o_iload 2 163, o_iload 4 165, am_nop, o_cv 1 5 7 5 0 4 168, am_nop, am_nop, o_iload 7 170, am_nop, o_iret, am_nop, am_nop, am_nop, am_nop, am_nop]]
theorem rX7_dig_0 : am_allR (fun pc o => am_ok am_tb0 cX7_dig RX7 8 (some .int) false pc o ∧ am_mo o) 0 (am_nth [] tX7_dig 0) :=
  And.intro ⟨ok_aload_n dX7_dig_0 rfl rfl, mo_aload⟩ (
  And.intro ⟨ok_getR dX7_dig_1 hclX7 inWX7 (by decide) (by decide) wd_237 (fun _ _ _ => rfl) rfl, mo_getR⟩ (
  And.intro ⟨ok_nop, mo_nop⟩ (
  And.intro ⟨ok_nop, mo_nop⟩ (
  And.intro ⟨ok_iload_n dX7_dig_4 rfl rfl, mo_iload⟩ (
  And.intro ⟨ok_cv (z := 15) dX7_dig_5 hclX2 (by decide) wd_293 wd_294 wd_295 wd_2 wd_296 rfl (by decide) ⟨rfl, hy_X2_find⟩ rfl, mo_cv⟩ (
  And.intro ⟨ok_nop, mo_nop⟩ (
  And.intro ⟨ok_nop, mo_nop⟩ (
  And.intro ⟨ok_astore dX7_dig_8 (by decide) rfl, mo_astore⟩ (
  And.intro ⟨ok_nop, mo_nop⟩ (
  And.intro ⟨ok_aload dX7_dig_10 rfl, mo_aload⟩ (
  And.intro ⟨ok_nop, mo_nop⟩ (
  And.intro ⟨ok_ifnull dX7_dig_12 (by decide) rfl, mo_null⟩ (
  And.intro ⟨ok_nop, mo_nop⟩ (
  And.intro ⟨ok_nop, mo_nop⟩ (
  And.intro ⟨ok_iload_n dX7_dig_15 rfl rfl, mo_iload⟩ (
  trivial))))))))))))))))
theorem rX7_dig_1 : am_allR (fun pc o => am_ok am_tb0 cX7_dig RX7 8 (some .int) false pc o ∧ am_mo o) 16 (am_nth [] tX7_dig 1) :=
  And.intro ⟨ok_bipush dX7_dig_16 rfl bi_29, mo_push⟩ (
  And.intro ⟨ok_nop, mo_nop⟩ (
  And.intro ⟨ok_cs (z := 105) dX7_dig_18 wd_275 wd_276 wd_1 wd_277 rfl (by decide) hy_X7_within rfl, mo_cs⟩ (
  And.intro ⟨ok_nop, mo_nop⟩ (
  And.intro ⟨ok_nop, mo_nop⟩ (
  And.intro ⟨ok_if_eq dX7_dig_21 (by decide) rfl, mo_if⟩ (
  And.intro ⟨ok_nop, mo_nop⟩ (
  And.intro ⟨ok_nop, mo_nop⟩ (
  And.intro ⟨ok_iload_n dX7_dig_24 rfl rfl, mo_iload⟩ (
  And.intro ⟨ok_cs (z := 106) dX7_dig_25 wd_397 wd_398 wd_1 wd_399 rfl (by decide) hy_X7_isSpades rfl, mo_cs⟩ (
  And.intro ⟨ok_nop, mo_nop⟩ (
  And.intro ⟨ok_nop, mo_nop⟩ (
  And.intro ⟨ok_if_eq dX7_dig_28 (by decide) rfl, mo_if⟩ (
  And.intro ⟨ok_nop, mo_nop⟩ (
  And.intro ⟨ok_nop, mo_nop⟩ (
  And.intro ⟨ok_iload dX7_dig_31 rfl, mo_iload⟩ (
  trivial))))))))))))))))
theorem rX7_dig_2 : am_allR (fun pc o => am_ok am_tb0 cX7_dig RX7 8 (some .int) false pc o ∧ am_mo o) 32 (am_nth [] tX7_dig 2) :=
  And.intro ⟨ok_nop, mo_nop⟩ (
  And.intro ⟨ok_bipush dX7_dig_33 rfl bi_7, mo_push⟩ (
  And.intro ⟨ok_nop, mo_nop⟩ (
  And.intro ⟨ok_cs (z := 105) dX7_dig_35 wd_275 wd_276 wd_1 wd_277 rfl (by decide) hy_X7_within rfl, mo_cs⟩ (
  And.intro ⟨ok_nop, mo_nop⟩ (
  And.intro ⟨ok_nop, mo_nop⟩ (
  And.intro ⟨ok_if_ne dX7_dig_38 (by decide) rfl, mo_if⟩ (
  And.intro ⟨ok_nop, mo_nop⟩ (
  And.intro ⟨ok_nop, mo_nop⟩ (
  And.intro ⟨ok_ldc dX7_dig_41 rfl wd_278, mo_push⟩ (
  And.intro ⟨ok_nop, mo_nop⟩ (
  And.intro ⟨ok_iret dX7_dig_43 rfl, mo_iret⟩ (
  And.intro ⟨ok_aload_n dX7_dig_44 rfl rfl, mo_aload⟩ (
  And.intro ⟨ok_getR dX7_dig_45 hclX7 inWX7 (by decide) (by decide) wd_237 (fun _ _ _ => rfl) rfl, mo_getR⟩ (
  And.intro ⟨ok_nop, mo_nop⟩ (
  And.intro ⟨ok_nop, mo_nop⟩ (
  trivial))))))))))))))))
theorem rX7_dig_3 : am_allR (fun pc o => am_ok am_tb0 cX7_dig RX7 8 (some .int) false pc o ∧ am_mo o) 48 (am_nth [] tX7_dig 3) :=
  And.intro ⟨ok_iload_n dX7_dig_48 rfl rfl, mo_iload⟩ (
  And.intro ⟨ok_cv (z := 20) dX7_dig_49 hclX2 (by decide) wd_400 wd_401 wd_402 wd_2 wd_403 rfl (by decide) ⟨rfl, hy_X2_earthOf⟩ rfl, mo_cv⟩ (
  And.intro ⟨ok_nop, mo_nop⟩ (
  And.intro ⟨ok_nop, mo_nop⟩ (
  And.intro ⟨ok_istore dX7_dig_52 (by decide) rfl, mo_istore⟩ (
  And.intro ⟨ok_nop, mo_nop⟩ (
  And.intro ⟨ok_aload_n dX7_dig_54 rfl rfl, mo_aload⟩ (
  And.intro ⟨ok_getR dX7_dig_55 hclX7 inWX7 (by decide) (by decide) wd_237 (fun _ _ _ => rfl) rfl, mo_getR⟩ (
  And.intro ⟨ok_nop, mo_nop⟩ (
  And.intro ⟨ok_nop, mo_nop⟩ (
  And.intro ⟨ok_aload dX7_dig_58 rfl, mo_aload⟩ (
  And.intro ⟨ok_nop, mo_nop⟩ (
  And.intro ⟨ok_iload dX7_dig_60 rfl, mo_iload⟩ (
  And.intro ⟨ok_nop, mo_nop⟩ (
  And.intro ⟨ok_iload_n dX7_dig_62 rfl rfl, mo_iload⟩ (
  And.intro ⟨ok_cv (z := 21) dX7_dig_63 hclX2 (by decide) wd_404 wd_405 wd_406 wd_2 wd_407 rfl (by decide) ⟨rfl, hy_X2_canFill⟩ rfl, mo_cv⟩ (
  trivial))))))))))))))))
theorem rX7_dig_4 : am_allR (fun pc o => am_ok am_tb0 cX7_dig RX7 8 (some .int) false pc o ∧ am_mo o) 64 (am_nth [] tX7_dig 4) :=
  And.intro ⟨ok_nop, mo_nop⟩ (
  And.intro ⟨ok_nop, mo_nop⟩ (
  And.intro ⟨ok_if_ne dX7_dig_66 (by decide) rfl, mo_if⟩ (
  And.intro ⟨ok_nop, mo_nop⟩ (
  And.intro ⟨ok_nop, mo_nop⟩ (
  And.intro ⟨ok_ldc dX7_dig_69 rfl wd_419, mo_push⟩ (
  And.intro ⟨ok_nop, mo_nop⟩ (
  And.intro ⟨ok_iret dX7_dig_71 rfl, mo_iret⟩ (
  And.intro ⟨ok_aload_n dX7_dig_72 rfl rfl, mo_aload⟩ (
  And.intro ⟨ok_getR dX7_dig_73 hclX7 inWX7 (by decide) (by decide) wd_237 (fun _ _ _ => rfl) rfl, mo_getR⟩ (
  And.intro ⟨ok_nop, mo_nop⟩ (
  And.intro ⟨ok_nop, mo_nop⟩ (
  And.intro ⟨ok_aload dX7_dig_76 rfl, mo_aload⟩ (
  And.intro ⟨ok_nop, mo_nop⟩ (
  And.intro ⟨ok_iload dX7_dig_78 rfl, mo_iload⟩ (
  And.intro ⟨ok_nop, mo_nop⟩ (
  trivial))))))))))))))))
theorem rX7_dig_5 : am_allR (fun pc o => am_ok am_tb0 cX7_dig RX7 8 (some .int) false pc o ∧ am_mo o) 80 (am_nth [] tX7_dig 5) :=
  And.intro ⟨ok_cv (z := 19) dX7_dig_80 hclX2 (by decide) wd_420 wd_421 wd_422 wd_2 wd_423 rfl (by decide) ⟨rfl, hy_X2_roomAfter⟩ rfl, mo_cv⟩ (
  And.intro ⟨ok_nop, mo_nop⟩ (
  And.intro ⟨ok_nop, mo_nop⟩ (
  And.intro ⟨ok_istore dX7_dig_83 (by decide) rfl, mo_istore⟩ (
  And.intro ⟨ok_nop, mo_nop⟩ (
  And.intro ⟨ok_iload dX7_dig_85 rfl, mo_iload⟩ (
  And.intro ⟨ok_nop, mo_nop⟩ (
  And.intro ⟨ok_if_lt dX7_dig_87 (by decide) rfl, mo_if⟩ (
  And.intro ⟨ok_nop, mo_nop⟩ (
  And.intro ⟨ok_nop, mo_nop⟩ (
  And.intro ⟨ok_iload dX7_dig_90 rfl, mo_iload⟩ (
  And.intro ⟨ok_nop, mo_nop⟩ (
  And.intro ⟨ok_bipush dX7_dig_92 rfl bi_10, mo_push⟩ (
  And.intro ⟨ok_nop, mo_nop⟩ (
  And.intro ⟨ok_icmp_lt dX7_dig_94 (by decide) rfl, mo_icmp⟩ (
  And.intro ⟨ok_nop, mo_nop⟩ (
  trivial))))))))))))))))
theorem rX7_dig_6 : am_allR (fun pc o => am_ok am_tb0 cX7_dig RX7 8 (some .int) false pc o ∧ am_mo o) 96 (am_nth [] tX7_dig 6) :=
  And.intro ⟨ok_nop, mo_nop⟩ (
  And.intro ⟨ok_ldc dX7_dig_97 rfl wd_279, mo_push⟩ (
  And.intro ⟨ok_nop, mo_nop⟩ (
  And.intro ⟨ok_iret dX7_dig_99 rfl, mo_iret⟩ (
  And.intro ⟨ok_aload dX7_dig_100 rfl, mo_aload⟩ (
  And.intro ⟨ok_nop, mo_nop⟩ (
  And.intro ⟨ok_dup dX7_dig_102 rfl, mo_dup⟩ (
  And.intro ⟨ok_getIN dX7_dig_103 hclX1 inWX1 (by decide) (by decide) wn_48 (fun _ _ _ => rfl) rfl, mo_getI⟩ (
  And.intro ⟨ok_nop, mo_nop⟩ (
  And.intro ⟨ok_nop, mo_nop⟩ (
  And.intro ⟨ok_iload dX7_dig_106 rfl, mo_iload⟩ (
  And.intro ⟨ok_nop, mo_nop⟩ (
  And.intro ⟨ok_isub dX7_dig_108 rfl, mo_bin⟩ (
  And.intro ⟨ok_putIN dX7_dig_109 hclX1 inWX1 tyX1_ok nmX1 (by decide) (by decide) wn_48 rfl (tyX1_ok 2 (by decide)) (fun _ _ _ => rfl) rfl, mo_putI⟩ (
  And.intro ⟨ok_nop, mo_nop⟩ (
  And.intro ⟨ok_nop, mo_nop⟩ (
  trivial))))))))))))))))
theorem rX7_dig_7 : am_allR (fun pc o => am_ok am_tb0 cX7_dig RX7 8 (some .int) false pc o ∧ am_mo o) 112 (am_nth [] tX7_dig 7) :=
  And.intro ⟨ok_aload_n dX7_dig_112 rfl rfl, mo_aload⟩ (
  And.intro ⟨ok_getR dX7_dig_113 hclX7 inWX7 (by decide) (by decide) wd_237 (fun _ _ _ => rfl) rfl, mo_getR⟩ (
  And.intro ⟨ok_nop, mo_nop⟩ (
  And.intro ⟨ok_nop, mo_nop⟩ (
  And.intro ⟨ok_dup dX7_dig_116 rfl, mo_dup⟩ (
  And.intro ⟨ok_getIN dX7_dig_117 hclX2 inWX2 (by decide) (by decide) wn_93 (fun _ _ _ => rfl) rfl, mo_getI⟩ (
  And.intro ⟨ok_nop, mo_nop⟩ (
  And.intro ⟨ok_nop, mo_nop⟩ (
  And.intro ⟨ok_iload_n dX7_dig_120 rfl rfl, mo_iload⟩ (
  And.intro ⟨ok_iadd dX7_dig_121 rfl, mo_bin⟩ (
  And.intro ⟨ok_putIN dX7_dig_122 hclX2 inWX2 tyX2_ok nmX2 (by decide) (by decide) wn_93 rfl (tyX2_ok 11 (by decide)) (fun _ _ _ => rfl) rfl, mo_putI⟩ (
  And.intro ⟨ok_nop, mo_nop⟩ (
  And.intro ⟨ok_nop, mo_nop⟩ (
  And.intro ⟨ok_iload dX7_dig_125 rfl, mo_iload⟩ (
  And.intro ⟨ok_nop, mo_nop⟩ (
  And.intro ⟨ok_aload_n dX7_dig_127 rfl rfl, mo_aload⟩ (
  trivial))))))))))))))))
theorem rX7_dig_8 : am_allR (fun pc o => am_ok am_tb0 cX7_dig RX7 8 (some .int) false pc o ∧ am_mo o) 128 (am_nth [] tX7_dig 8) :=
  And.intro ⟨ok_getR dX7_dig_128 hclX7 inWX7 (by decide) (by decide) wd_237 (fun _ _ _ => rfl) rfl, mo_getR⟩ (
  And.intro ⟨ok_nop, mo_nop⟩ (
  And.intro ⟨ok_nop, mo_nop⟩ (
  And.intro ⟨ok_getIN dX7_dig_131 hclX2 inWX2 (by decide) (by decide) wn_70 (fun _ _ _ => rfl) rfl, mo_getI⟩ (
  And.intro ⟨ok_nop, mo_nop⟩ (
  And.intro ⟨ok_nop, mo_nop⟩ (
  And.intro ⟨ok_icmp_ne dX7_dig_134 (by decide) rfl, mo_icmp⟩ (
  And.intro ⟨ok_nop, mo_nop⟩ (
  And.intro ⟨ok_nop, mo_nop⟩ (
  And.intro ⟨ok_aload_n dX7_dig_137 rfl rfl, mo_aload⟩ (
  And.intro ⟨ok_getR dX7_dig_138 hclX7 inWX7 (by decide) (by decide) wd_237 (fun _ _ _ => rfl) rfl, mo_getR⟩ (
  And.intro ⟨ok_nop, mo_nop⟩ (
  And.intro ⟨ok_nop, mo_nop⟩ (
  And.intro ⟨ok_iconst dX7_dig_141 rfl ic_0, mo_push⟩ (
  And.intro ⟨ok_iload_n dX7_dig_142 rfl rfl, mo_iload⟩ (
  And.intro ⟨ok_iload_n dX7_dig_143 rfl rfl, mo_iload⟩ (
  trivial))))))))))))))))
theorem rX7_dig_9 : am_allR (fun pc o => am_ok am_tb0 cX7_dig RX7 8 (some .int) false pc o ∧ am_mo o) 144 (am_nth [] tX7_dig 9) :=
  And.intro ⟨ok_iload dX7_dig_144 rfl, mo_iload⟩ (
  And.intro ⟨ok_nop, mo_nop⟩ (
  And.intro ⟨ok_cv (z := 16) dX7_dig_146 hclX2 (by decide) wd_280 wd_281 wd_282 wd_2 wd_283 rfl (by decide) ⟨rfl, hy_X2_open⟩ rfl, mo_cv⟩ (
  And.intro ⟨ok_nop, mo_nop⟩ (
  And.intro ⟨ok_nop, mo_nop⟩ (
  And.intro ⟨ok_iret dX7_dig_149 rfl, mo_iret⟩ (
  And.intro ⟨ok_aload_n dX7_dig_150 rfl rfl, mo_aload⟩ (
  And.intro ⟨ok_getR dX7_dig_151 hclX7 inWX7 (by decide) (by decide) wd_237 (fun _ _ _ => rfl) rfl, mo_getR⟩ (
  And.intro ⟨ok_nop, mo_nop⟩ (
  And.intro ⟨ok_nop, mo_nop⟩ (
  And.intro ⟨ok_getRN dX7_dig_154 hclX2 inWX2 (by decide) (by decide) wn_68 (fun _ _ _ => rfl) rfl, mo_getR⟩ (
  And.intro ⟨ok_nop, mo_nop⟩ (
  And.intro ⟨ok_nop, mo_nop⟩ (
  And.intro ⟨ok_iload dX7_dig_157 rfl, mo_iload⟩ (
  And.intro ⟨ok_nop, mo_nop⟩ (
  And.intro ⟨ok_aald (ci := 1) dX7_dig_159 (by decide) rfl rfl, mo_aald⟩ (
  trivial))))))))))))))))
theorem rX7_dig_10 : am_allR (fun pc o => am_ok am_tb0 cX7_dig RX7 8 (some .int) false pc o ∧ am_mo o) 160 (am_nth [] tX7_dig 10) :=
  And.intro ⟨ok_iconst dX7_dig_160 rfl ic_0, mo_push⟩ (
  And.intro ⟨ok_iload_n dX7_dig_161 rfl rfl, mo_iload⟩ (
  And.intro ⟨ok_iload_n dX7_dig_162 rfl rfl, mo_iload⟩ (
  And.intro ⟨ok_iload dX7_dig_163 rfl, mo_iload⟩ (
  And.intro ⟨ok_nop, mo_nop⟩ (
  And.intro ⟨ok_cv (z := 7) dX7_dig_165 hclX1 (by decide) wd_424 wd_286 wd_287 wd_3 wd_288 rfl (by decide) ⟨rfl, hy_X1_start⟩ rfl, mo_cv⟩ (
  And.intro ⟨ok_nop, mo_nop⟩ (
  And.intro ⟨ok_nop, mo_nop⟩ (
  And.intro ⟨ok_iload dX7_dig_168 rfl, mo_iload⟩ (
  And.intro ⟨ok_nop, mo_nop⟩ (
  And.intro ⟨ok_iret dX7_dig_170 rfl, mo_iret⟩ (
  And.intro ⟨ok_nop, mo_nop⟩ (
  And.intro ⟨ok_nop, mo_nop⟩ (
  And.intro ⟨ok_nop, mo_nop⟩ (
  And.intro ⟨ok_nop, mo_nop⟩ (
  And.intro ⟨ok_nop, mo_nop⟩ (
  trivial))))))))))))))))
theorem kX7_dig : am_M1 am_tb0 cX7_dig RX7 8 (some .int) false tX7_dig := And.intro rX7_dig_0 (And.intro rX7_dig_1 (And.intro rX7_dig_2 (And.intro rX7_dig_3 (And.intro rX7_dig_4 (And.intro rX7_dig_5 (And.intro rX7_dig_6 (And.intro rX7_dig_7 (And.intro rX7_dig_8 (And.intro rX7_dig_9 (And.intro rX7_dig_10 (trivial)))))))))))
def tX7_want : List (List am_Op) := [[o_iload 1 1, o_push (.int 29) 3, am_nop, o_cs 105 2 0 2 6, am_nop, am_nop, o_if (fun x => x = 0) 16 9, am_nop, am_nop, o_iload 2 10, o_cs 106 1 0 1 13, am_nop, am_nop, o_if (fun x => ¬ x = 0) 19 16, am_nop, am_nop],
  [o_push (.int (-1000000001)) 18, am_nop, o_iret, o_aload 0 20, o_getR 7 11 0 23, am_nop, am_nop, o_getI 2 14 4 26, am_nop, am_nop, o_istore 3 27, o_iload 3 28, o_push (.int 6) 30, am_nop, o_icmp (fun x y => x < y) 36 33, am_nop],
  [am_nop, o_push (.int (-1000000003)) 35, am_nop, o_iret, o_aload 0 37, o_getR 7 11 0 40, am_nop, am_nop, o_getR 2 14 2 43, am_nop, am_nop, o_iload 3 44, o_iload 1 45, o_iast 46, o_aload 0 47, o_getR 7 11 0 50],
  [am_nop, am_nop, o_getR 2 14 3 53, am_nop, am_nop, o_iload 3 54, o_iload 2 55, o_iast 56, o_aload 0 57, o_getR 7 11 0 60, am_nop, am_nop, o_iload 3 61, o_push (.int 1) 62, o_bin (fun x y => x + y) 63, o_putI 2 14 4 66],
  [am_nop, am_nop, o_iload 3 67, o_iret, am_nop, am_nop, am_nop, am_nop, am_nop, am_nop, am_nop, am_nop, am_nop, am_nop, am_nop, am_nop]]
theorem rX7_want_0 : am_allR (fun pc o => am_ok am_tb0 cX7_want RX7 4 (some .int) false pc o ∧ am_mo o) 0 (am_nth [] tX7_want 0) :=
  And.intro ⟨ok_iload_n dX7_want_0 rfl rfl, mo_iload⟩ (
  And.intro ⟨ok_bipush dX7_want_1 rfl bi_29, mo_push⟩ (
  And.intro ⟨ok_nop, mo_nop⟩ (
  And.intro ⟨ok_cs (z := 105) dX7_want_3 wd_275 wd_276 wd_1 wd_277 rfl (by decide) hy_X7_within rfl, mo_cs⟩ (
  And.intro ⟨ok_nop, mo_nop⟩ (
  And.intro ⟨ok_nop, mo_nop⟩ (
  And.intro ⟨ok_if_eq dX7_want_6 (by decide) rfl, mo_if⟩ (
  And.intro ⟨ok_nop, mo_nop⟩ (
  And.intro ⟨ok_nop, mo_nop⟩ (
  And.intro ⟨ok_iload_n dX7_want_9 rfl rfl, mo_iload⟩ (
  And.intro ⟨ok_cs (z := 106) dX7_want_10 wd_397 wd_398 wd_1 wd_399 rfl (by decide) hy_X7_isSpades rfl, mo_cs⟩ (
  And.intro ⟨ok_nop, mo_nop⟩ (
  And.intro ⟨ok_nop, mo_nop⟩ (
  And.intro ⟨ok_if_ne dX7_want_13 (by decide) rfl, mo_if⟩ (
  And.intro ⟨ok_nop, mo_nop⟩ (
  And.intro ⟨ok_nop, mo_nop⟩ (
  trivial))))))))))))))))
theorem rX7_want_1 : am_allR (fun pc o => am_ok am_tb0 cX7_want RX7 4 (some .int) false pc o ∧ am_mo o) 16 (am_nth [] tX7_want 1) :=
  And.intro ⟨ok_ldc dX7_want_16 rfl wd_278, mo_push⟩ (
  And.intro ⟨ok_nop, mo_nop⟩ (
  And.intro ⟨ok_iret dX7_want_18 rfl, mo_iret⟩ (
  And.intro ⟨ok_aload_n dX7_want_19 rfl rfl, mo_aload⟩ (
  And.intro ⟨ok_getR dX7_want_20 hclX7 inWX7 (by decide) (by decide) wd_237 (fun _ _ _ => rfl) rfl, mo_getR⟩ (
  And.intro ⟨ok_nop, mo_nop⟩ (
  And.intro ⟨ok_nop, mo_nop⟩ (
  And.intro ⟨ok_getIN dX7_want_23 hclX2 inWX2 (by decide) (by decide) wn_80 (fun _ _ _ => rfl) rfl, mo_getI⟩ (
  And.intro ⟨ok_nop, mo_nop⟩ (
  And.intro ⟨ok_nop, mo_nop⟩ (
  And.intro ⟨ok_istore_n dX7_want_26 rfl (by decide) rfl, mo_istore⟩ (
  And.intro ⟨ok_iload_n dX7_want_27 rfl rfl, mo_iload⟩ (
  And.intro ⟨ok_bipush dX7_want_28 rfl bi_6, mo_push⟩ (
  And.intro ⟨ok_nop, mo_nop⟩ (
  And.intro ⟨ok_icmp_lt dX7_want_30 (by decide) rfl, mo_icmp⟩ (
  And.intro ⟨ok_nop, mo_nop⟩ (
  trivial))))))))))))))))
theorem rX7_want_2 : am_allR (fun pc o => am_ok am_tb0 cX7_want RX7 4 (some .int) false pc o ∧ am_mo o) 32 (am_nth [] tX7_want 2) :=
  And.intro ⟨ok_nop, mo_nop⟩ (
  And.intro ⟨ok_ldc dX7_want_33 rfl wd_279, mo_push⟩ (
  And.intro ⟨ok_nop, mo_nop⟩ (
  And.intro ⟨ok_iret dX7_want_35 rfl, mo_iret⟩ (
  And.intro ⟨ok_aload_n dX7_want_36 rfl rfl, mo_aload⟩ (
  And.intro ⟨ok_getR dX7_want_37 hclX7 inWX7 (by decide) (by decide) wd_237 (fun _ _ _ => rfl) rfl, mo_getR⟩ (
  And.intro ⟨ok_nop, mo_nop⟩ (
  And.intro ⟨ok_nop, mo_nop⟩ (
  And.intro ⟨ok_getRN dX7_want_40 hclX2 inWX2 (by decide) (by decide) wn_74 (fun _ _ _ => rfl) rfl, mo_getR⟩ (
  And.intro ⟨ok_nop, mo_nop⟩ (
  And.intro ⟨ok_nop, mo_nop⟩ (
  And.intro ⟨ok_iload_n dX7_want_43 rfl rfl, mo_iload⟩ (
  And.intro ⟨ok_iload_n dX7_want_44 rfl rfl, mo_iload⟩ (
  And.intro ⟨ok_iast dX7_want_45 rfl, mo_iast⟩ (
  And.intro ⟨ok_aload_n dX7_want_46 rfl rfl, mo_aload⟩ (
  And.intro ⟨ok_getR dX7_want_47 hclX7 inWX7 (by decide) (by decide) wd_237 (fun _ _ _ => rfl) rfl, mo_getR⟩ (
  trivial))))))))))))))))
theorem rX7_want_3 : am_allR (fun pc o => am_ok am_tb0 cX7_want RX7 4 (some .int) false pc o ∧ am_mo o) 48 (am_nth [] tX7_want 3) :=
  And.intro ⟨ok_nop, mo_nop⟩ (
  And.intro ⟨ok_nop, mo_nop⟩ (
  And.intro ⟨ok_getRN dX7_want_50 hclX2 inWX2 (by decide) (by decide) wn_77 (fun _ _ _ => rfl) rfl, mo_getR⟩ (
  And.intro ⟨ok_nop, mo_nop⟩ (
  And.intro ⟨ok_nop, mo_nop⟩ (
  And.intro ⟨ok_iload_n dX7_want_53 rfl rfl, mo_iload⟩ (
  And.intro ⟨ok_iload_n dX7_want_54 rfl rfl, mo_iload⟩ (
  And.intro ⟨ok_iast dX7_want_55 rfl, mo_iast⟩ (
  And.intro ⟨ok_aload_n dX7_want_56 rfl rfl, mo_aload⟩ (
  And.intro ⟨ok_getR dX7_want_57 hclX7 inWX7 (by decide) (by decide) wd_237 (fun _ _ _ => rfl) rfl, mo_getR⟩ (
  And.intro ⟨ok_nop, mo_nop⟩ (
  And.intro ⟨ok_nop, mo_nop⟩ (
  And.intro ⟨ok_iload_n dX7_want_60 rfl rfl, mo_iload⟩ (
  And.intro ⟨ok_iconst dX7_want_61 rfl ic_1, mo_push⟩ (
  And.intro ⟨ok_iadd dX7_want_62 rfl, mo_bin⟩ (
  And.intro ⟨ok_putIN dX7_want_63 hclX2 inWX2 tyX2_ok nmX2 (by decide) (by decide) wn_80 rfl (tyX2_ok 4 (by decide)) (fun _ _ _ => rfl) rfl, mo_putI⟩ (
  trivial))))))))))))))))
theorem rX7_want_4 : am_allR (fun pc o => am_ok am_tb0 cX7_want RX7 4 (some .int) false pc o ∧ am_mo o) 64 (am_nth [] tX7_want 4) :=
  And.intro ⟨ok_nop, mo_nop⟩ (
  And.intro ⟨ok_nop, mo_nop⟩ (
  And.intro ⟨ok_iload_n dX7_want_66 rfl rfl, mo_iload⟩ (
  And.intro ⟨ok_iret dX7_want_67 rfl, mo_iret⟩ (
  And.intro ⟨ok_nop, mo_nop⟩ (
  And.intro ⟨ok_nop, mo_nop⟩ (
  And.intro ⟨ok_nop, mo_nop⟩ (
  And.intro ⟨ok_nop, mo_nop⟩ (
  And.intro ⟨ok_nop, mo_nop⟩ (
  And.intro ⟨ok_nop, mo_nop⟩ (
  And.intro ⟨ok_nop, mo_nop⟩ (
  And.intro ⟨ok_nop, mo_nop⟩ (
  And.intro ⟨ok_nop, mo_nop⟩ (
  And.intro ⟨ok_nop, mo_nop⟩ (
  And.intro ⟨ok_nop, mo_nop⟩ (
  And.intro ⟨ok_nop, mo_nop⟩ (
  trivial))))))))))))))))
theorem kX7_want : am_M1 am_tb0 cX7_want RX7 4 (some .int) false tX7_want := And.intro rX7_want_0 (And.intro rX7_want_1 (And.intro rX7_want_2 (And.intro rX7_want_3 (And.intro rX7_want_4 (trivial)))))
def tX7_forget : List (List am_Op) := [[o_aload 0 1, o_getR 7 11 0 4, am_nop, am_nop, o_getI 2 14 4 7, am_nop, am_nop, o_istore 1 8, o_aload 0 9, o_getR 7 11 0 12, am_nop, am_nop, o_push (.int 0) 13, o_putI 2 14 4 16, am_nop, am_nop],
  [o_iload 1 17, o_iret, am_nop, am_nop, am_nop, am_nop, am_nop, am_nop, am_nop, am_nop, am_nop, am_nop, am_nop, am_nop, am_nop, am_nop]]
theorem rX7_forget_0 : am_allR (fun pc o => am_ok am_tb0 cX7_forget RX7 2 (some .int) false pc o ∧ am_mo o) 0 (am_nth [] tX7_forget 0) :=
  And.intro ⟨ok_aload_n dX7_forget_0 rfl rfl, mo_aload⟩ (
  And.intro ⟨ok_getR dX7_forget_1 hclX7 inWX7 (by decide) (by decide) wd_237 (fun _ _ _ => rfl) rfl, mo_getR⟩ (
  And.intro ⟨ok_nop, mo_nop⟩ (
  And.intro ⟨ok_nop, mo_nop⟩ (
  And.intro ⟨ok_getIN dX7_forget_4 hclX2 inWX2 (by decide) (by decide) wn_80 (fun _ _ _ => rfl) rfl, mo_getI⟩ (
  And.intro ⟨ok_nop, mo_nop⟩ (
  And.intro ⟨ok_nop, mo_nop⟩ (
  And.intro ⟨ok_istore_n dX7_forget_7 rfl (by decide) rfl, mo_istore⟩ (
  And.intro ⟨ok_aload_n dX7_forget_8 rfl rfl, mo_aload⟩ (
  And.intro ⟨ok_getR dX7_forget_9 hclX7 inWX7 (by decide) (by decide) wd_237 (fun _ _ _ => rfl) rfl, mo_getR⟩ (
  And.intro ⟨ok_nop, mo_nop⟩ (
  And.intro ⟨ok_nop, mo_nop⟩ (
  And.intro ⟨ok_iconst dX7_forget_12 rfl ic_0, mo_push⟩ (
  And.intro ⟨ok_putIN dX7_forget_13 hclX2 inWX2 tyX2_ok nmX2 (by decide) (by decide) wn_80 rfl (tyX2_ok 4 (by decide)) (fun _ _ _ => rfl) rfl, mo_putI⟩ (
  And.intro ⟨ok_nop, mo_nop⟩ (
  And.intro ⟨ok_nop, mo_nop⟩ (
  trivial))))))))))))))))
theorem rX7_forget_1 : am_allR (fun pc o => am_ok am_tb0 cX7_forget RX7 2 (some .int) false pc o ∧ am_mo o) 16 (am_nth [] tX7_forget 1) :=
  And.intro ⟨ok_iload_n dX7_forget_16 rfl rfl, mo_iload⟩ (
  And.intro ⟨ok_iret dX7_forget_17 rfl, mo_iret⟩ (
  And.intro ⟨ok_nop, mo_nop⟩ (
  And.intro ⟨ok_nop, mo_nop⟩ (
  And.intro ⟨ok_nop, mo_nop⟩ (
  And.intro ⟨ok_nop, mo_nop⟩ (
  And.intro ⟨ok_nop, mo_nop⟩ (
  And.intro ⟨ok_nop, mo_nop⟩ (
  And.intro ⟨ok_nop, mo_nop⟩ (
  And.intro ⟨ok_nop, mo_nop⟩ (
  And.intro ⟨ok_nop, mo_nop⟩ (
  And.intro ⟨ok_nop, mo_nop⟩ (
  And.intro ⟨ok_nop, mo_nop⟩ (
  And.intro ⟨ok_nop, mo_nop⟩ (
  And.intro ⟨ok_nop, mo_nop⟩ (
  And.intro ⟨ok_nop, mo_nop⟩ (
  trivial))))))))))))))))
theorem kX7_forget : am_M1 am_tb0 cX7_forget RX7 2 (some .int) false tX7_forget := And.intro rX7_forget_0 (And.intro rX7_forget_1 (trivial))
def tX7_dealing : List (List am_Op) := [[o_iload 1 1, o_aload 0 2, o_getR 7 11 0 5, am_nop, am_nop, o_getI 2 14 4 8, am_nop, am_nop, o_push (.int 1) 9, o_bin (fun x y => x + y) 10, o_cs 105 2 0 2 13, am_nop, am_nop, o_if (fun x => ¬ x = 0) 19 16, am_nop, am_nop],
  [o_push (.int (-1000000001)) 18, am_nop, o_iret, o_aload 0 20, o_getR 7 11 4 23, am_nop, am_nop, o_aload 0 24, o_getR 7 11 0 27, am_nop, am_nop, o_push (.int (-1)) 28, o_push (.int (-1)) 29, o_cv 0 4 1 5 5 3 32, am_nop, am_nop],
  [o_istore 2 33, o_iload 1 34, o_if (fun x => ¬ x = 0) 39 37, am_nop, am_nop, o_iload 2 38, o_iret, o_iload 1 40, o_push (.int 1) 41, o_icmp (fun x y => ¬ x = y) 54 44, am_nop, am_nop, o_aload 0 45, o_getR 7 11 4 48, am_nop, am_nop],
  [o_cv 0 4 4 1 0 0 51, am_nop, am_nop, o_goto 64, am_nop, am_nop, o_aload 0 55, o_getR 7 11 4 58, am_nop, am_nop, o_iload 1 59, o_push (.int 2) 60, o_bin (fun x y => x - y) 61, o_cv 0 4 5 3 0 1 64, am_nop, am_nop],
  [o_iret, am_nop, am_nop, am_nop, am_nop, am_nop, am_nop, am_nop, am_nop, am_nop, am_nop, am_nop, am_nop, am_nop, am_nop, am_nop]]
theorem rX7_dealing_0 : am_allR (fun pc o => am_ok am_tb0 cX7_dealing RX7 3 (some .int) false pc o ∧ am_mo o) 0 (am_nth [] tX7_dealing 0) :=
  And.intro ⟨ok_iload_n dX7_dealing_0 rfl rfl, mo_iload⟩ (
  And.intro ⟨ok_aload_n dX7_dealing_1 rfl rfl, mo_aload⟩ (
  And.intro ⟨ok_getR dX7_dealing_2 hclX7 inWX7 (by decide) (by decide) wd_237 (fun _ _ _ => rfl) rfl, mo_getR⟩ (
  And.intro ⟨ok_nop, mo_nop⟩ (
  And.intro ⟨ok_nop, mo_nop⟩ (
  And.intro ⟨ok_getIN dX7_dealing_5 hclX2 inWX2 (by decide) (by decide) wn_80 (fun _ _ _ => rfl) rfl, mo_getI⟩ (
  And.intro ⟨ok_nop, mo_nop⟩ (
  And.intro ⟨ok_nop, mo_nop⟩ (
  And.intro ⟨ok_iconst dX7_dealing_8 rfl ic_1, mo_push⟩ (
  And.intro ⟨ok_iadd dX7_dealing_9 rfl, mo_bin⟩ (
  And.intro ⟨ok_cs (z := 105) dX7_dealing_10 wd_275 wd_276 wd_1 wd_277 rfl (by decide) hy_X7_within rfl, mo_cs⟩ (
  And.intro ⟨ok_nop, mo_nop⟩ (
  And.intro ⟨ok_nop, mo_nop⟩ (
  And.intro ⟨ok_if_ne dX7_dealing_13 (by decide) rfl, mo_if⟩ (
  And.intro ⟨ok_nop, mo_nop⟩ (
  And.intro ⟨ok_nop, mo_nop⟩ (
  trivial))))))))))))))))
theorem rX7_dealing_1 : am_allR (fun pc o => am_ok am_tb0 cX7_dealing RX7 3 (some .int) false pc o ∧ am_mo o) 16 (am_nth [] tX7_dealing 1) :=
  And.intro ⟨ok_ldc dX7_dealing_16 rfl wd_278, mo_push⟩ (
  And.intro ⟨ok_nop, mo_nop⟩ (
  And.intro ⟨ok_iret dX7_dealing_18 rfl, mo_iret⟩ (
  And.intro ⟨ok_aload_n dX7_dealing_19 rfl rfl, mo_aload⟩ (
  And.intro ⟨ok_getR dX7_dealing_20 hclX7 inWX7 (by decide) (by decide) wd_241 (fun _ _ _ => rfl) rfl, mo_getR⟩ (
  And.intro ⟨ok_nop, mo_nop⟩ (
  And.intro ⟨ok_nop, mo_nop⟩ (
  And.intro ⟨ok_aload_n dX7_dealing_23 rfl rfl, mo_aload⟩ (
  And.intro ⟨ok_getR dX7_dealing_24 hclX7 inWX7 (by decide) (by decide) wd_237 (fun _ _ _ => rfl) rfl, mo_getR⟩ (
  And.intro ⟨ok_nop, mo_nop⟩ (
  And.intro ⟨ok_nop, mo_nop⟩ (
  And.intro ⟨ok_iconst dX7_dealing_27 rfl ic_m1, mo_push⟩ (
  And.intro ⟨ok_iconst dX7_dealing_28 rfl ic_m1, mo_push⟩ (
  And.intro ⟨ok_cv (z := 1) dX7_dealing_29 hclX0 (by decide) wd_437 wd_438 wd_439 wd_4 wd_440 rfl (by decide) ⟨rfl, hy_X0_solve⟩ rfl, mo_cv⟩ (
  And.intro ⟨ok_nop, mo_nop⟩ (
  And.intro ⟨ok_nop, mo_nop⟩ (
  trivial))))))))))))))))
theorem rX7_dealing_2 : am_allR (fun pc o => am_ok am_tb0 cX7_dealing RX7 3 (some .int) false pc o ∧ am_mo o) 32 (am_nth [] tX7_dealing 2) :=
  And.intro ⟨ok_istore_n dX7_dealing_32 rfl (by decide) rfl, mo_istore⟩ (
  And.intro ⟨ok_iload_n dX7_dealing_33 rfl rfl, mo_iload⟩ (
  And.intro ⟨ok_if_ne dX7_dealing_34 (by decide) rfl, mo_if⟩ (
  And.intro ⟨ok_nop, mo_nop⟩ (
  And.intro ⟨ok_nop, mo_nop⟩ (
  And.intro ⟨ok_iload_n dX7_dealing_37 rfl rfl, mo_iload⟩ (
  And.intro ⟨ok_iret dX7_dealing_38 rfl, mo_iret⟩ (
  And.intro ⟨ok_iload_n dX7_dealing_39 rfl rfl, mo_iload⟩ (
  And.intro ⟨ok_iconst dX7_dealing_40 rfl ic_1, mo_push⟩ (
  And.intro ⟨ok_icmp_ne dX7_dealing_41 (by decide) rfl, mo_icmp⟩ (
  And.intro ⟨ok_nop, mo_nop⟩ (
  And.intro ⟨ok_nop, mo_nop⟩ (
  And.intro ⟨ok_aload_n dX7_dealing_44 rfl rfl, mo_aload⟩ (
  And.intro ⟨ok_getR dX7_dealing_45 hclX7 inWX7 (by decide) (by decide) wd_241 (fun _ _ _ => rfl) rfl, mo_getR⟩ (
  And.intro ⟨ok_nop, mo_nop⟩ (
  And.intro ⟨ok_nop, mo_nop⟩ (
  trivial))))))))))))))))
theorem rX7_dealing_3 : am_allR (fun pc o => am_ok am_tb0 cX7_dealing RX7 3 (some .int) false pc o ∧ am_mo o) 48 (am_nth [] tX7_dealing 3) :=
  And.intro ⟨ok_cv (z := 4) dX7_dealing_48 hclX0 (by decide) wd_464 wd_465 wd_466 wd_4 wd_467 rfl (by decide) ⟨rfl, hy_X0_miles⟩ rfl, mo_cv⟩ (
  And.intro ⟨ok_nop, mo_nop⟩ (
  And.intro ⟨ok_nop, mo_nop⟩ (
  And.intro ⟨ok_goto dX7_dealing_51 (by decide), mo_goto⟩ (
  And.intro ⟨ok_nop, mo_nop⟩ (
  And.intro ⟨ok_nop, mo_nop⟩ (
  And.intro ⟨ok_aload_n dX7_dealing_54 rfl rfl, mo_aload⟩ (
  And.intro ⟨ok_getR dX7_dealing_55 hclX7 inWX7 (by decide) (by decide) wd_241 (fun _ _ _ => rfl) rfl, mo_getR⟩ (
  And.intro ⟨ok_nop, mo_nop⟩ (
  And.intro ⟨ok_nop, mo_nop⟩ (
  And.intro ⟨ok_iload_n dX7_dealing_58 rfl rfl, mo_iload⟩ (
  And.intro ⟨ok_iconst dX7_dealing_59 rfl ic_2, mo_push⟩ (
  And.intro ⟨ok_isub dX7_dealing_60 rfl, mo_bin⟩ (
  And.intro ⟨ok_cv (z := 5) dX7_dealing_61 hclX0 (by decide) wd_468 wd_469 wd_470 wd_4 wd_471 rfl (by decide) ⟨rfl, hy_X0_holeOf⟩ rfl, mo_cv⟩ (
  And.intro ⟨ok_nop, mo_nop⟩ (
  And.intro ⟨ok_nop, mo_nop⟩ (
  trivial))))))))))))))))
theorem rX7_dealing_4 : am_allR (fun pc o => am_ok am_tb0 cX7_dealing RX7 3 (some .int) false pc o ∧ am_mo o) 64 (am_nth [] tX7_dealing 4) :=
  And.intro ⟨ok_iret dX7_dealing_64 rfl, mo_iret⟩ (
  And.intro ⟨ok_nop, mo_nop⟩ (
  And.intro ⟨ok_nop, mo_nop⟩ (
  And.intro ⟨ok_nop, mo_nop⟩ (
  And.intro ⟨ok_nop, mo_nop⟩ (
  And.intro ⟨ok_nop, mo_nop⟩ (
  And.intro ⟨ok_nop, mo_nop⟩ (
  And.intro ⟨ok_nop, mo_nop⟩ (
  And.intro ⟨ok_nop, mo_nop⟩ (
  And.intro ⟨ok_nop, mo_nop⟩ (
  And.intro ⟨ok_nop, mo_nop⟩ (
  And.intro ⟨ok_nop, mo_nop⟩ (
  And.intro ⟨ok_nop, mo_nop⟩ (
  And.intro ⟨ok_nop, mo_nop⟩ (
  And.intro ⟨ok_nop, mo_nop⟩ (
  And.intro ⟨ok_nop, mo_nop⟩ (
  trivial))))))))))))))))
theorem kX7_dealing : am_M1 am_tb0 cX7_dealing RX7 3 (some .int) false tX7_dealing := And.intro rX7_dealing_0 (And.intro rX7_dealing_1 (And.intro rX7_dealing_2 (And.intro rX7_dealing_3 (And.intro rX7_dealing_4 (trivial)))))
def tX7_adds : List (List am_Op) := [[o_aload 0 1, o_getR 7 11 0 4, am_nop, am_nop, o_iload 1 5, o_cv 2 14 15 2 0 1 8, am_nop, am_nop, o_null 11 14, am_nop, am_nop, o_push (.int (-1000000001)) 13, am_nop, o_iret, o_aload 0 15, o_getR 7 11 4 18],
  [am_nop, am_nop, o_aload 0 19, o_getR 7 11 0 22, am_nop, am_nop, o_push (.int (-1)) 23, o_push (.int (-1)) 24, o_cv 0 4 1 5 5 3 27, am_nop, am_nop, o_aload 0 28, o_getR 7 11 4 31, am_nop, am_nop, o_aload 0 32],
  [o_getR 7 11 0 35, am_nop, am_nop, o_iload 1 36, o_push (.int (-1)) 37, o_cv 0 4 1 5 5 3 40, am_nop, am_nop, o_bin (fun x y => x - y) 41, o_iret, am_nop, am_nop, am_nop, am_nop, am_nop, am_nop]]
theorem rX7_adds_0 : am_allR (fun pc o => am_ok am_tb0 cX7_adds RX7 2 (some .int) false pc o ∧ am_mo o) 0 (am_nth [] tX7_adds 0) :=
  And.intro ⟨ok_aload_n dX7_adds_0 rfl rfl, mo_aload⟩ (
  And.intro ⟨ok_getR dX7_adds_1 hclX7 inWX7 (by decide) (by decide) wd_237 (fun _ _ _ => rfl) rfl, mo_getR⟩ (
  And.intro ⟨ok_nop, mo_nop⟩ (
  And.intro ⟨ok_nop, mo_nop⟩ (
  And.intro ⟨ok_iload_n dX7_adds_4 rfl rfl, mo_iload⟩ (
  And.intro ⟨ok_cv (z := 15) dX7_adds_5 hclX2 (by decide) wd_293 wd_294 wd_295 wd_2 wd_296 rfl (by decide) ⟨rfl, hy_X2_find⟩ rfl, mo_cv⟩ (
  And.intro ⟨ok_nop, mo_nop⟩ (
  And.intro ⟨ok_nop, mo_nop⟩ (
  And.intro ⟨ok_ifnonnull dX7_adds_8 (by decide) rfl, mo_null⟩ (
  And.intro ⟨ok_nop, mo_nop⟩ (
  And.intro ⟨ok_nop, mo_nop⟩ (
  And.intro ⟨ok_ldc dX7_adds_11 rfl wd_278, mo_push⟩ (
  And.intro ⟨ok_nop, mo_nop⟩ (
  And.intro ⟨ok_iret dX7_adds_13 rfl, mo_iret⟩ (
  And.intro ⟨ok_aload_n dX7_adds_14 rfl rfl, mo_aload⟩ (
  And.intro ⟨ok_getR dX7_adds_15 hclX7 inWX7 (by decide) (by decide) wd_241 (fun _ _ _ => rfl) rfl, mo_getR⟩ (
  trivial))))))))))))))))
theorem rX7_adds_1 : am_allR (fun pc o => am_ok am_tb0 cX7_adds RX7 2 (some .int) false pc o ∧ am_mo o) 16 (am_nth [] tX7_adds 1) :=
  And.intro ⟨ok_nop, mo_nop⟩ (
  And.intro ⟨ok_nop, mo_nop⟩ (
  And.intro ⟨ok_aload_n dX7_adds_18 rfl rfl, mo_aload⟩ (
  And.intro ⟨ok_getR dX7_adds_19 hclX7 inWX7 (by decide) (by decide) wd_237 (fun _ _ _ => rfl) rfl, mo_getR⟩ (
  And.intro ⟨ok_nop, mo_nop⟩ (
  And.intro ⟨ok_nop, mo_nop⟩ (
  And.intro ⟨ok_iconst dX7_adds_22 rfl ic_m1, mo_push⟩ (
  And.intro ⟨ok_iconst dX7_adds_23 rfl ic_m1, mo_push⟩ (
  And.intro ⟨ok_cv (z := 1) dX7_adds_24 hclX0 (by decide) wd_437 wd_438 wd_439 wd_4 wd_440 rfl (by decide) ⟨rfl, hy_X0_solve⟩ rfl, mo_cv⟩ (
  And.intro ⟨ok_nop, mo_nop⟩ (
  And.intro ⟨ok_nop, mo_nop⟩ (
  And.intro ⟨ok_aload_n dX7_adds_27 rfl rfl, mo_aload⟩ (
  And.intro ⟨ok_getR dX7_adds_28 hclX7 inWX7 (by decide) (by decide) wd_241 (fun _ _ _ => rfl) rfl, mo_getR⟩ (
  And.intro ⟨ok_nop, mo_nop⟩ (
  And.intro ⟨ok_nop, mo_nop⟩ (
  And.intro ⟨ok_aload_n dX7_adds_31 rfl rfl, mo_aload⟩ (
  trivial))))))))))))))))
theorem rX7_adds_2 : am_allR (fun pc o => am_ok am_tb0 cX7_adds RX7 2 (some .int) false pc o ∧ am_mo o) 32 (am_nth [] tX7_adds 2) :=
  And.intro ⟨ok_getR dX7_adds_32 hclX7 inWX7 (by decide) (by decide) wd_237 (fun _ _ _ => rfl) rfl, mo_getR⟩ (
  And.intro ⟨ok_nop, mo_nop⟩ (
  And.intro ⟨ok_nop, mo_nop⟩ (
  And.intro ⟨ok_iload_n dX7_adds_35 rfl rfl, mo_iload⟩ (
  And.intro ⟨ok_iconst dX7_adds_36 rfl ic_m1, mo_push⟩ (
  And.intro ⟨ok_cv (z := 1) dX7_adds_37 hclX0 (by decide) wd_437 wd_438 wd_439 wd_4 wd_440 rfl (by decide) ⟨rfl, hy_X0_solve⟩ rfl, mo_cv⟩ (
  And.intro ⟨ok_nop, mo_nop⟩ (
  And.intro ⟨ok_nop, mo_nop⟩ (
  And.intro ⟨ok_isub dX7_adds_40 rfl, mo_bin⟩ (
  And.intro ⟨ok_iret dX7_adds_41 rfl, mo_iret⟩ (
  And.intro ⟨ok_nop, mo_nop⟩ (
  And.intro ⟨ok_nop, mo_nop⟩ (
  And.intro ⟨ok_nop, mo_nop⟩ (
  And.intro ⟨ok_nop, mo_nop⟩ (
  And.intro ⟨ok_nop, mo_nop⟩ (
  And.intro ⟨ok_nop, mo_nop⟩ (
  trivial))))))))))))))))
theorem kX7_adds : am_M1 am_tb0 cX7_adds RX7 2 (some .int) false tX7_adds := And.intro rX7_adds_0 (And.intro rX7_adds_1 (And.intro rX7_adds_2 (trivial)))
def tX7_frees : List (List am_Op) := [[o_iload 1 1, o_push (.int 29) 3, am_nop, o_cs 105 2 0 2 6, am_nop, am_nop, o_if (fun x => ¬ x = 0) 12 9, am_nop, am_nop, o_push (.int (-1000000001)) 11, am_nop, o_iret, o_aload 0 13, o_getR 7 11 4 16, am_nop, am_nop],
  [o_aload 0 17, o_getR 7 11 0 20, am_nop, am_nop, o_push (.int (-1)) 21, o_push (.int (-1)) 22, o_cv 0 4 1 5 5 3 25, am_nop, am_nop, o_istore 2 26, o_push (.int 100) 28, am_nop, o_istore 3 29, o_push (.int 0) 30, o_istore 4 32, am_nop],
  [o_iload 4 34, am_nop, o_aload 0 35, o_getR 7 11 0 38, am_nop, am_nop, o_getI 2 14 4 41, am_nop, am_nop, o_icmp (fun x y => y ≤ x) 137 44, am_nop, am_nop, o_push (.int 1) 45, o_aload 0 46, o_getR 7 11 0 49, am_nop],
  [am_nop, o_aload 0 50, o_getR 7 11 0 53, am_nop, am_nop, o_getR 2 14 3 56, am_nop, am_nop, o_iload 4 58, am_nop, o_iald 20 59, o_cv 2 14 20 2 0 1 62, am_nop, am_nop, o_mbin (fun x y => if x < y then y else x) 65, am_nop],
  [am_nop, o_istore 5 67, am_nop, o_iload 1 68, o_aload 0 69, o_getR 7 11 0 72, am_nop, am_nop, o_getR 2 14 2 75, am_nop, am_nop, o_iload 4 77, am_nop, o_iald 20 78, o_bin (fun x y => x - y) 79, o_mabs 82],
  [am_nop, am_nop, o_aload 0 83, o_getR 7 11 0 86, am_nop, am_nop, o_getI 2 14 8 89, am_nop, am_nop, o_icmp (fun x y => y < x) 96 92, am_nop, am_nop, o_push (.int 1) 93, o_goto 97, am_nop, am_nop],
  [o_push (.int 0) 97, o_istore 6 99, am_nop, o_iload 6 101, am_nop, o_if (fun x => x = 0) 131 104, am_nop, am_nop, o_iload 5 106, am_nop, o_iload 3 107, o_icmp (fun x y => y ≤ x) 131 110, am_nop, am_nop, o_aload 0 111, o_getR 7 11 4 114],
  [am_nop, am_nop, o_aload 0 115, o_getR 7 11 0 118, am_nop, am_nop, o_push (.int (-1)) 119, o_iload 4 121, am_nop, o_cv 0 4 1 5 5 3 124, am_nop, am_nop, o_iload 2 125, o_icmp (fun x y => ¬ x = y) 131 128, am_nop, am_nop],
  [o_iload 5 130, am_nop, o_istore 3 131, o_iinc 4 1 134, am_nop, am_nop, o_goto 32, am_nop, am_nop, o_iload 3 138, o_push (.int 99) 140, am_nop, o_icmp (fun x y => y < x) 147 143, am_nop, am_nop, o_iload 3 144],
  [o_goto 149, am_nop, am_nop, o_push (.int (-1000000005)) 149, am_nop, o_iret, am_nop, am_nop, am_nop, am_nop, am_nop, am_nop, am_nop, am_nop, am_nop, am_nop]]
theorem rX7_frees_0 : am_allR (fun pc o => am_ok am_tb0 cX7_frees RX7 7 (some .int) false pc o ∧ am_mo o) 0 (am_nth [] tX7_frees 0) :=
  And.intro ⟨ok_iload_n dX7_frees_0 rfl rfl, mo_iload⟩ (
  And.intro ⟨ok_bipush dX7_frees_1 rfl bi_29, mo_push⟩ (
  And.intro ⟨ok_nop, mo_nop⟩ (
  And.intro ⟨ok_cs (z := 105) dX7_frees_3 wd_275 wd_276 wd_1 wd_277 rfl (by decide) hy_X7_within rfl, mo_cs⟩ (
  And.intro ⟨ok_nop, mo_nop⟩ (
  And.intro ⟨ok_nop, mo_nop⟩ (
  And.intro ⟨ok_if_ne dX7_frees_6 (by decide) rfl, mo_if⟩ (
  And.intro ⟨ok_nop, mo_nop⟩ (
  And.intro ⟨ok_nop, mo_nop⟩ (
  And.intro ⟨ok_ldc dX7_frees_9 rfl wd_278, mo_push⟩ (
  And.intro ⟨ok_nop, mo_nop⟩ (
  And.intro ⟨ok_iret dX7_frees_11 rfl, mo_iret⟩ (
  And.intro ⟨ok_aload_n dX7_frees_12 rfl rfl, mo_aload⟩ (
  And.intro ⟨ok_getR dX7_frees_13 hclX7 inWX7 (by decide) (by decide) wd_241 (fun _ _ _ => rfl) rfl, mo_getR⟩ (
  And.intro ⟨ok_nop, mo_nop⟩ (
  And.intro ⟨ok_nop, mo_nop⟩ (
  trivial))))))))))))))))
theorem rX7_frees_1 : am_allR (fun pc o => am_ok am_tb0 cX7_frees RX7 7 (some .int) false pc o ∧ am_mo o) 16 (am_nth [] tX7_frees 1) :=
  And.intro ⟨ok_aload_n dX7_frees_16 rfl rfl, mo_aload⟩ (
  And.intro ⟨ok_getR dX7_frees_17 hclX7 inWX7 (by decide) (by decide) wd_237 (fun _ _ _ => rfl) rfl, mo_getR⟩ (
  And.intro ⟨ok_nop, mo_nop⟩ (
  And.intro ⟨ok_nop, mo_nop⟩ (
  And.intro ⟨ok_iconst dX7_frees_20 rfl ic_m1, mo_push⟩ (
  And.intro ⟨ok_iconst dX7_frees_21 rfl ic_m1, mo_push⟩ (
  And.intro ⟨ok_cv (z := 1) dX7_frees_22 hclX0 (by decide) wd_437 wd_438 wd_439 wd_4 wd_440 rfl (by decide) ⟨rfl, hy_X0_solve⟩ rfl, mo_cv⟩ (
  And.intro ⟨ok_nop, mo_nop⟩ (
  And.intro ⟨ok_nop, mo_nop⟩ (
  And.intro ⟨ok_istore_n dX7_frees_25 rfl (by decide) rfl, mo_istore⟩ (
  And.intro ⟨ok_bipush dX7_frees_26 rfl bi_100, mo_push⟩ (
  And.intro ⟨ok_nop, mo_nop⟩ (
  And.intro ⟨ok_istore_n dX7_frees_28 rfl (by decide) rfl, mo_istore⟩ (
  And.intro ⟨ok_iconst dX7_frees_29 rfl ic_0, mo_push⟩ (
  And.intro ⟨ok_istore dX7_frees_30 (by decide) rfl, mo_istore⟩ (
  And.intro ⟨ok_nop, mo_nop⟩ (
  trivial))))))))))))))))
theorem rX7_frees_2 : am_allR (fun pc o => am_ok am_tb0 cX7_frees RX7 7 (some .int) false pc o ∧ am_mo o) 32 (am_nth [] tX7_frees 2) :=
  And.intro ⟨ok_iload dX7_frees_32 rfl, mo_iload⟩ (
  And.intro ⟨ok_nop, mo_nop⟩ (
  And.intro ⟨ok_aload_n dX7_frees_34 rfl rfl, mo_aload⟩ (
  And.intro ⟨ok_getR dX7_frees_35 hclX7 inWX7 (by decide) (by decide) wd_237 (fun _ _ _ => rfl) rfl, mo_getR⟩ (
  And.intro ⟨ok_nop, mo_nop⟩ (
  And.intro ⟨ok_nop, mo_nop⟩ (
  And.intro ⟨ok_getIN dX7_frees_38 hclX2 inWX2 (by decide) (by decide) wn_80 (fun _ _ _ => rfl) rfl, mo_getI⟩ (
  And.intro ⟨ok_nop, mo_nop⟩ (
  And.intro ⟨ok_nop, mo_nop⟩ (
  And.intro ⟨ok_icmp_ge dX7_frees_41 (by decide) rfl, mo_icmp⟩ (
  And.intro ⟨ok_nop, mo_nop⟩ (
  And.intro ⟨ok_nop, mo_nop⟩ (
  And.intro ⟨ok_iconst dX7_frees_44 rfl ic_1, mo_push⟩ (
  And.intro ⟨ok_aload_n dX7_frees_45 rfl rfl, mo_aload⟩ (
  And.intro ⟨ok_getR dX7_frees_46 hclX7 inWX7 (by decide) (by decide) wd_237 (fun _ _ _ => rfl) rfl, mo_getR⟩ (
  And.intro ⟨ok_nop, mo_nop⟩ (
  trivial))))))))))))))))
theorem rX7_frees_3 : am_allR (fun pc o => am_ok am_tb0 cX7_frees RX7 7 (some .int) false pc o ∧ am_mo o) 48 (am_nth [] tX7_frees 3) :=
  And.intro ⟨ok_nop, mo_nop⟩ (
  And.intro ⟨ok_aload_n dX7_frees_49 rfl rfl, mo_aload⟩ (
  And.intro ⟨ok_getR dX7_frees_50 hclX7 inWX7 (by decide) (by decide) wd_237 (fun _ _ _ => rfl) rfl, mo_getR⟩ (
  And.intro ⟨ok_nop, mo_nop⟩ (
  And.intro ⟨ok_nop, mo_nop⟩ (
  And.intro ⟨ok_getRN dX7_frees_53 hclX2 inWX2 (by decide) (by decide) wn_77 (fun _ _ _ => rfl) rfl, mo_getR⟩ (
  And.intro ⟨ok_nop, mo_nop⟩ (
  And.intro ⟨ok_nop, mo_nop⟩ (
  And.intro ⟨ok_iload dX7_frees_56 rfl, mo_iload⟩ (
  And.intro ⟨ok_nop, mo_nop⟩ (
  And.intro ⟨ok_iald dX7_frees_58 rfl, mo_iald⟩ (
  And.intro ⟨ok_cv (z := 20) dX7_frees_59 hclX2 (by decide) wd_400 wd_401 wd_402 wd_2 wd_403 rfl (by decide) ⟨rfl, hy_X2_earthOf⟩ rfl, mo_cv⟩ (
  And.intro ⟨ok_nop, mo_nop⟩ (
  And.intro ⟨ok_nop, mo_nop⟩ (
  And.intro ⟨ok_mmax dX7_frees_62 wd_367 wd_368 wd_10 wm_mmax rfl, mo_mbin⟩ (
  And.intro ⟨ok_nop, mo_nop⟩ (
  trivial))))))))))))))))
theorem rX7_frees_4 : am_allR (fun pc o => am_ok am_tb0 cX7_frees RX7 7 (some .int) false pc o ∧ am_mo o) 64 (am_nth [] tX7_frees 4) :=
  And.intro ⟨ok_nop, mo_nop⟩ (
  And.intro ⟨ok_istore dX7_frees_65 (by decide) rfl, mo_istore⟩ (
  And.intro ⟨ok_nop, mo_nop⟩ (
  And.intro ⟨ok_iload_n dX7_frees_67 rfl rfl, mo_iload⟩ (
  And.intro ⟨ok_aload_n dX7_frees_68 rfl rfl, mo_aload⟩ (
  And.intro ⟨ok_getR dX7_frees_69 hclX7 inWX7 (by decide) (by decide) wd_237 (fun _ _ _ => rfl) rfl, mo_getR⟩ (
  And.intro ⟨ok_nop, mo_nop⟩ (
  And.intro ⟨ok_nop, mo_nop⟩ (
  And.intro ⟨ok_getRN dX7_frees_72 hclX2 inWX2 (by decide) (by decide) wn_74 (fun _ _ _ => rfl) rfl, mo_getR⟩ (
  And.intro ⟨ok_nop, mo_nop⟩ (
  And.intro ⟨ok_nop, mo_nop⟩ (
  And.intro ⟨ok_iload dX7_frees_75 rfl, mo_iload⟩ (
  And.intro ⟨ok_nop, mo_nop⟩ (
  And.intro ⟨ok_iald dX7_frees_77 rfl, mo_iald⟩ (
  And.intro ⟨ok_isub dX7_frees_78 rfl, mo_bin⟩ (
  And.intro ⟨ok_mabs dX7_frees_79 wd_482 wd_409 wd_10 wm_mabs rfl, mo_mabs⟩ (
  trivial))))))))))))))))
theorem rX7_frees_5 : am_allR (fun pc o => am_ok am_tb0 cX7_frees RX7 7 (some .int) false pc o ∧ am_mo o) 80 (am_nth [] tX7_frees 5) :=
  And.intro ⟨ok_nop, mo_nop⟩ (
  And.intro ⟨ok_nop, mo_nop⟩ (
  And.intro ⟨ok_aload_n dX7_frees_82 rfl rfl, mo_aload⟩ (
  And.intro ⟨ok_getR dX7_frees_83 hclX7 inWX7 (by decide) (by decide) wd_237 (fun _ _ _ => rfl) rfl, mo_getR⟩ (
  And.intro ⟨ok_nop, mo_nop⟩ (
  And.intro ⟨ok_nop, mo_nop⟩ (
  And.intro ⟨ok_getIN dX7_frees_86 hclX2 inWX2 (by decide) (by decide) wn_87 (fun _ _ _ => rfl) rfl, mo_getI⟩ (
  And.intro ⟨ok_nop, mo_nop⟩ (
  And.intro ⟨ok_nop, mo_nop⟩ (
  And.intro ⟨ok_icmp_gt dX7_frees_89 (by decide) rfl, mo_icmp⟩ (
  And.intro ⟨ok_nop, mo_nop⟩ (
  And.intro ⟨ok_nop, mo_nop⟩ (
  And.intro ⟨ok_iconst dX7_frees_92 rfl ic_1, mo_push⟩ (
  And.intro ⟨ok_goto dX7_frees_93 (by decide), mo_goto⟩ (
  And.intro ⟨ok_nop, mo_nop⟩ (
  And.intro ⟨ok_nop, mo_nop⟩ (
  trivial))))))))))))))))
theorem rX7_frees_6 : am_allR (fun pc o => am_ok am_tb0 cX7_frees RX7 7 (some .int) false pc o ∧ am_mo o) 96 (am_nth [] tX7_frees 6) :=
  And.intro ⟨ok_iconst dX7_frees_96 rfl ic_0, mo_push⟩ (
  And.intro ⟨ok_istore dX7_frees_97 (by decide) rfl, mo_istore⟩ (
  And.intro ⟨ok_nop, mo_nop⟩ (
  And.intro ⟨ok_iload dX7_frees_99 rfl, mo_iload⟩ (
  And.intro ⟨ok_nop, mo_nop⟩ (
  And.intro ⟨ok_if_eq dX7_frees_101 (by decide) rfl, mo_if⟩ (
  And.intro ⟨ok_nop, mo_nop⟩ (
  And.intro ⟨ok_nop, mo_nop⟩ (
  And.intro ⟨ok_iload dX7_frees_104 rfl, mo_iload⟩ (
  And.intro ⟨ok_nop, mo_nop⟩ (
  And.intro ⟨ok_iload_n dX7_frees_106 rfl rfl, mo_iload⟩ (
  And.intro ⟨ok_icmp_ge dX7_frees_107 (by decide) rfl, mo_icmp⟩ (
  And.intro ⟨ok_nop, mo_nop⟩ (
  And.intro ⟨ok_nop, mo_nop⟩ (
  And.intro ⟨ok_aload_n dX7_frees_110 rfl rfl, mo_aload⟩ (
  And.intro ⟨ok_getR dX7_frees_111 hclX7 inWX7 (by decide) (by decide) wd_241 (fun _ _ _ => rfl) rfl, mo_getR⟩ (
  trivial))))))))))))))))
theorem rX7_frees_7 : am_allR (fun pc o => am_ok am_tb0 cX7_frees RX7 7 (some .int) false pc o ∧ am_mo o) 112 (am_nth [] tX7_frees 7) :=
  And.intro ⟨ok_nop, mo_nop⟩ (
  And.intro ⟨ok_nop, mo_nop⟩ (
  And.intro ⟨ok_aload_n dX7_frees_114 rfl rfl, mo_aload⟩ (
  And.intro ⟨ok_getR dX7_frees_115 hclX7 inWX7 (by decide) (by decide) wd_237 (fun _ _ _ => rfl) rfl, mo_getR⟩ (
  And.intro ⟨ok_nop, mo_nop⟩ (
  And.intro ⟨ok_nop, mo_nop⟩ (
  And.intro ⟨ok_iconst dX7_frees_118 rfl ic_m1, mo_push⟩ (
  And.intro ⟨ok_iload dX7_frees_119 rfl, mo_iload⟩ (
  And.intro ⟨ok_nop, mo_nop⟩ (
  And.intro ⟨ok_cv (z := 1) dX7_frees_121 hclX0 (by decide) wd_437 wd_438 wd_439 wd_4 wd_440 rfl (by decide) ⟨rfl, hy_X0_solve⟩ rfl, mo_cv⟩ (
  And.intro ⟨ok_nop, mo_nop⟩ (
  And.intro ⟨ok_nop, mo_nop⟩ (
  And.intro ⟨ok_iload_n dX7_frees_124 rfl rfl, mo_iload⟩ (
  And.intro ⟨ok_icmp_ne dX7_frees_125 (by decide) rfl, mo_icmp⟩ (
  And.intro ⟨ok_nop, mo_nop⟩ (
  And.intro ⟨ok_nop, mo_nop⟩ (
  trivial))))))))))))))))
theorem rX7_frees_8 : am_allR (fun pc o => am_ok am_tb0 cX7_frees RX7 7 (some .int) false pc o ∧ am_mo o) 128 (am_nth [] tX7_frees 8) :=
  And.intro ⟨ok_iload dX7_frees_128 rfl, mo_iload⟩ (
  And.intro ⟨ok_nop, mo_nop⟩ (
  And.intro ⟨ok_istore_n dX7_frees_130 rfl (by decide) rfl, mo_istore⟩ (
  And.intro ⟨ok_iinc dX7_frees_131 ic_1 (by decide) rfl, mo_iinc⟩ (
  And.intro ⟨ok_nop, mo_nop⟩ (
  And.intro ⟨ok_nop, mo_nop⟩ (
  And.intro ⟨ok_goto dX7_frees_134 (by decide), mo_goto⟩ (
  And.intro ⟨ok_nop, mo_nop⟩ (
  And.intro ⟨ok_nop, mo_nop⟩ (
  And.intro ⟨ok_iload_n dX7_frees_137 rfl rfl, mo_iload⟩ (
  And.intro ⟨ok_bipush dX7_frees_138 rfl bi_99, mo_push⟩ (
  And.intro ⟨ok_nop, mo_nop⟩ (
  And.intro ⟨ok_icmp_gt dX7_frees_140 (by decide) rfl, mo_icmp⟩ (
  And.intro ⟨ok_nop, mo_nop⟩ (
  And.intro ⟨ok_nop, mo_nop⟩ (
  And.intro ⟨ok_iload_n dX7_frees_143 rfl rfl, mo_iload⟩ (
  trivial))))))))))))))))
theorem rX7_frees_9 : am_allR (fun pc o => am_ok am_tb0 cX7_frees RX7 7 (some .int) false pc o ∧ am_mo o) 144 (am_nth [] tX7_frees 9) :=
  And.intro ⟨ok_goto dX7_frees_144 (by decide), mo_goto⟩ (
  And.intro ⟨ok_nop, mo_nop⟩ (
  And.intro ⟨ok_nop, mo_nop⟩ (
  And.intro ⟨ok_ldc dX7_frees_147 rfl wd_483, mo_push⟩ (
  And.intro ⟨ok_nop, mo_nop⟩ (
  And.intro ⟨ok_iret dX7_frees_149 rfl, mo_iret⟩ (
  And.intro ⟨ok_nop, mo_nop⟩ (
  And.intro ⟨ok_nop, mo_nop⟩ (
  And.intro ⟨ok_nop, mo_nop⟩ (
  And.intro ⟨ok_nop, mo_nop⟩ (
  And.intro ⟨ok_nop, mo_nop⟩ (
  And.intro ⟨ok_nop, mo_nop⟩ (
  And.intro ⟨ok_nop, mo_nop⟩ (
  And.intro ⟨ok_nop, mo_nop⟩ (
  And.intro ⟨ok_nop, mo_nop⟩ (
  And.intro ⟨ok_nop, mo_nop⟩ (
  trivial))))))))))))))))
theorem kX7_frees : am_M1 am_tb0 cX7_frees RX7 7 (some .int) false tX7_frees := And.intro rX7_frees_0 (And.intro rX7_frees_1 (And.intro rX7_frees_2 (And.intro rX7_frees_3 (And.intro rX7_frees_4 (And.intro rX7_frees_5 (And.intro rX7_frees_6 (And.intro rX7_frees_7 (And.intro rX7_frees_8 (And.intro rX7_frees_9 (trivial))))))))))
def tX7_days : List (List am_Op) := [[o_iload 1 1, o_push (.int 1) 2, o_icmp (fun x y => x < y) 11 5, am_nop, am_nop, o_iload 1 6, o_push (.int 100) 8, am_nop, o_icmp (fun x y => x ≤ y) 14 11, am_nop, am_nop, o_push (.int (-1000000001)) 13, am_nop, o_iret, o_iload 1 15, o_push (.int 9999) 18],
  [am_nop, am_nop, o_aload 0 19, o_getR 7 11 0 22, am_nop, am_nop, o_getI 2 14 10 25, am_nop, am_nop, o_bin (fun x y => x - y) 26, o_mbin (fun x y => if y < x then y else x) 29, am_nop, am_nop, o_istore 2 30, o_push (.int 0) 31, o_istore 3 32],
  [o_iload 3 33, o_iload 2 34, o_icmp (fun x y => y ≤ x) 50 37, am_nop, am_nop, o_aload 0 38, o_getR 7 11 0 41, am_nop, am_nop, o_cv 2 14 25 4 4 0 44, am_nop, am_nop, o_iinc 3 1 47, am_nop, am_nop, o_goto 32],
  [am_nop, am_nop, o_aload 0 51, o_getR 7 11 0 54, am_nop, am_nop, o_cv 2 14 26 3 0 0 57, am_nop, am_nop, o_iret, am_nop, am_nop, am_nop, am_nop, am_nop, am_nop]]
theorem rX7_days_0 : am_allR (fun pc o => am_ok am_tb0 cX7_days RX7 4 (some .int) false pc o ∧ am_mo o) 0 (am_nth [] tX7_days 0) :=
  And.intro ⟨ok_iload_n dX7_days_0 rfl rfl, mo_iload⟩ (
  And.intro ⟨ok_iconst dX7_days_1 rfl ic_1, mo_push⟩ (
  And.intro ⟨ok_icmp_lt dX7_days_2 (by decide) rfl, mo_icmp⟩ (
  And.intro ⟨ok_nop, mo_nop⟩ (
  And.intro ⟨ok_nop, mo_nop⟩ (
  And.intro ⟨ok_iload_n dX7_days_5 rfl rfl, mo_iload⟩ (
  And.intro ⟨ok_bipush dX7_days_6 rfl bi_100, mo_push⟩ (
  And.intro ⟨ok_nop, mo_nop⟩ (
  And.intro ⟨ok_icmp_le dX7_days_8 (by decide) rfl, mo_icmp⟩ (
  And.intro ⟨ok_nop, mo_nop⟩ (
  And.intro ⟨ok_nop, mo_nop⟩ (
  And.intro ⟨ok_ldc dX7_days_11 rfl wd_278, mo_push⟩ (
  And.intro ⟨ok_nop, mo_nop⟩ (
  And.intro ⟨ok_iret dX7_days_13 rfl, mo_iret⟩ (
  And.intro ⟨ok_iload_n dX7_days_14 rfl rfl, mo_iload⟩ (
  And.intro ⟨ok_sipush dX7_days_15 rfl si_9999, mo_push⟩ (
  trivial))))))))))))))))
theorem rX7_days_1 : am_allR (fun pc o => am_ok am_tb0 cX7_days RX7 4 (some .int) false pc o ∧ am_mo o) 16 (am_nth [] tX7_days 1) :=
  And.intro ⟨ok_nop, mo_nop⟩ (
  And.intro ⟨ok_nop, mo_nop⟩ (
  And.intro ⟨ok_aload_n dX7_days_18 rfl rfl, mo_aload⟩ (
  And.intro ⟨ok_getR dX7_days_19 hclX7 inWX7 (by decide) (by decide) wd_237 (fun _ _ _ => rfl) rfl, mo_getR⟩ (
  And.intro ⟨ok_nop, mo_nop⟩ (
  And.intro ⟨ok_nop, mo_nop⟩ (
  And.intro ⟨ok_getIN dX7_days_22 hclX2 inWX2 (by decide) (by decide) wn_91 (fun _ _ _ => rfl) rfl, mo_getI⟩ (
  And.intro ⟨ok_nop, mo_nop⟩ (
  And.intro ⟨ok_nop, mo_nop⟩ (
  And.intro ⟨ok_isub dX7_days_25 rfl, mo_bin⟩ (
  And.intro ⟨ok_mmin dX7_days_26 wd_364 wd_365 wd_10 wm_mmin rfl, mo_mbin⟩ (
  And.intro ⟨ok_nop, mo_nop⟩ (
  And.intro ⟨ok_nop, mo_nop⟩ (
  And.intro ⟨ok_istore_n dX7_days_29 rfl (by decide) rfl, mo_istore⟩ (
  And.intro ⟨ok_iconst dX7_days_30 rfl ic_0, mo_push⟩ (
  And.intro ⟨ok_istore_n dX7_days_31 rfl (by decide) rfl, mo_istore⟩ (
  trivial))))))))))))))))
theorem rX7_days_2 : am_allR (fun pc o => am_ok am_tb0 cX7_days RX7 4 (some .int) false pc o ∧ am_mo o) 32 (am_nth [] tX7_days 2) :=
  And.intro ⟨ok_iload_n dX7_days_32 rfl rfl, mo_iload⟩ (
  And.intro ⟨ok_iload_n dX7_days_33 rfl rfl, mo_iload⟩ (
  And.intro ⟨ok_icmp_ge dX7_days_34 (by decide) rfl, mo_icmp⟩ (
  And.intro ⟨ok_nop, mo_nop⟩ (
  And.intro ⟨ok_nop, mo_nop⟩ (
  And.intro ⟨ok_aload_n dX7_days_37 rfl rfl, mo_aload⟩ (
  And.intro ⟨ok_getR dX7_days_38 hclX7 inWX7 (by decide) (by decide) wd_237 (fun _ _ _ => rfl) rfl, mo_getR⟩ (
  And.intro ⟨ok_nop, mo_nop⟩ (
  And.intro ⟨ok_nop, mo_nop⟩ (
  And.intro ⟨ok_cv (z := 25) dX7_days_41 hclX2 (by decide) wd_488 wd_489 wd_490 wd_2 wd_491 rfl (by decide) ⟨rfl, hy_X2_passDay⟩ rfl, mo_cv⟩ (
  And.intro ⟨ok_nop, mo_nop⟩ (
  And.intro ⟨ok_nop, mo_nop⟩ (
  And.intro ⟨ok_iinc dX7_days_44 ic_1 (by decide) rfl, mo_iinc⟩ (
  And.intro ⟨ok_nop, mo_nop⟩ (
  And.intro ⟨ok_nop, mo_nop⟩ (
  And.intro ⟨ok_goto dX7_days_47 (by decide), mo_goto⟩ (
  trivial))))))))))))))))
theorem rX7_days_3 : am_allR (fun pc o => am_ok am_tb0 cX7_days RX7 4 (some .int) false pc o ∧ am_mo o) 48 (am_nth [] tX7_days 3) :=
  And.intro ⟨ok_nop, mo_nop⟩ (
  And.intro ⟨ok_nop, mo_nop⟩ (
  And.intro ⟨ok_aload_n dX7_days_50 rfl rfl, mo_aload⟩ (
  And.intro ⟨ok_getR dX7_days_51 hclX7 inWX7 (by decide) (by decide) wd_237 (fun _ _ _ => rfl) rfl, mo_getR⟩ (
  And.intro ⟨ok_nop, mo_nop⟩ (
  And.intro ⟨ok_nop, mo_nop⟩ (
  And.intro ⟨ok_cv (z := 26) dX7_days_54 hclX2 (by decide) wd_493 wd_494 wd_495 wd_2 wd_496 rfl (by decide) ⟨rfl, hy_X2_filledCount⟩ rfl, mo_cv⟩ (
  And.intro ⟨ok_nop, mo_nop⟩ (
  And.intro ⟨ok_nop, mo_nop⟩ (
  And.intro ⟨ok_iret dX7_days_57 rfl, mo_iret⟩ (
  And.intro ⟨ok_nop, mo_nop⟩ (
  And.intro ⟨ok_nop, mo_nop⟩ (
  And.intro ⟨ok_nop, mo_nop⟩ (
  And.intro ⟨ok_nop, mo_nop⟩ (
  And.intro ⟨ok_nop, mo_nop⟩ (
  And.intro ⟨ok_nop, mo_nop⟩ (
  trivial))))))))))))))))
theorem kX7_days : am_M1 am_tb0 cX7_days RX7 4 (some .int) false tX7_days := And.intro rX7_days_0 (And.intro rX7_days_1 (And.intro rX7_days_2 (And.intro rX7_days_3 (trivial))))
def tX7_behind : List (List am_Op) := [[o_iload 1 1, o_push (.int 100) 3, am_nop, o_cs 105 2 0 2 6, am_nop, am_nop, o_if (fun x => x = 0) 17 9, am_nop, am_nop, o_iload 2 10, o_push (.int 2) 11, o_cs 105 2 0 2 14, am_nop, am_nop, o_if (fun x => ¬ x = 0) 20 17, am_nop],
  [am_nop, o_push (.int (-1000000001)) 19, am_nop, o_iret, o_aload 0 21, o_getR 7 11 1 24, am_nop, am_nop, o_aload 0 25, o_getR 7 11 0 28, am_nop, am_nop, o_cv 2 14 14 3 2 1 31, am_nop, am_nop, o_push (.int 0) 32],
  [o_istore 3 33, o_iload 3 34, o_iload 1 35, o_icmp (fun x y => y ≤ x) 51 38, am_nop, am_nop, o_aload 0 39, o_getR 7 11 1 42, am_nop, am_nop, o_cv 2 14 25 4 4 0 45, am_nop, am_nop, o_iinc 3 1 48, am_nop, am_nop],
  [o_goto 33, am_nop, am_nop, o_iload 2 52, o_if (fun x => ¬ x = 0) 69 55, am_nop, am_nop, o_aload 0 56, o_getR 7 11 4 59, am_nop, am_nop, o_aload 0 60, o_getR 7 11 1 63, am_nop, am_nop, o_push (.int (-1)) 64],
  [o_push (.int (-1)) 65, o_cv 0 4 1 5 5 3 68, am_nop, am_nop, o_iret, o_iload 2 70, o_push (.int 1) 71, o_icmp (fun x y => ¬ x = y) 84 74, am_nop, am_nop, o_aload 0 75, o_getR 7 11 1 78, am_nop, am_nop, o_cv 2 14 27 3 0 0 81, am_nop],
  [am_nop, o_goto 91, am_nop, am_nop, o_aload 0 85, o_getR 7 11 1 88, am_nop, am_nop, o_cv 2 14 26 3 0 0 91, am_nop, am_nop, o_iret, am_nop, am_nop, am_nop, am_nop]]
theorem rX7_behind_0 : am_allR (fun pc o => am_ok am_tb0 cX7_behind RX7 4 (some .int) false pc o ∧ am_mo o) 0 (am_nth [] tX7_behind 0) :=
  And.intro ⟨ok_iload_n dX7_behind_0 rfl rfl, mo_iload⟩ (
  And.intro ⟨ok_bipush dX7_behind_1 rfl bi_100, mo_push⟩ (
  And.intro ⟨ok_nop, mo_nop⟩ (
  And.intro ⟨ok_cs (z := 105) dX7_behind_3 wd_275 wd_276 wd_1 wd_277 rfl (by decide) hy_X7_within rfl, mo_cs⟩ (
  And.intro ⟨ok_nop, mo_nop⟩ (
  And.intro ⟨ok_nop, mo_nop⟩ (
  And.intro ⟨ok_if_eq dX7_behind_6 (by decide) rfl, mo_if⟩ (
  And.intro ⟨ok_nop, mo_nop⟩ (
  And.intro ⟨ok_nop, mo_nop⟩ (
  And.intro ⟨ok_iload_n dX7_behind_9 rfl rfl, mo_iload⟩ (
  And.intro ⟨ok_iconst dX7_behind_10 rfl ic_2, mo_push⟩ (
  And.intro ⟨ok_cs (z := 105) dX7_behind_11 wd_275 wd_276 wd_1 wd_277 rfl (by decide) hy_X7_within rfl, mo_cs⟩ (
  And.intro ⟨ok_nop, mo_nop⟩ (
  And.intro ⟨ok_nop, mo_nop⟩ (
  And.intro ⟨ok_if_ne dX7_behind_14 (by decide) rfl, mo_if⟩ (
  And.intro ⟨ok_nop, mo_nop⟩ (
  trivial))))))))))))))))
theorem rX7_behind_1 : am_allR (fun pc o => am_ok am_tb0 cX7_behind RX7 4 (some .int) false pc o ∧ am_mo o) 16 (am_nth [] tX7_behind 1) :=
  And.intro ⟨ok_nop, mo_nop⟩ (
  And.intro ⟨ok_ldc dX7_behind_17 rfl wd_278, mo_push⟩ (
  And.intro ⟨ok_nop, mo_nop⟩ (
  And.intro ⟨ok_iret dX7_behind_19 rfl, mo_iret⟩ (
  And.intro ⟨ok_aload_n dX7_behind_20 rfl rfl, mo_aload⟩ (
  And.intro ⟨ok_getR dX7_behind_21 hclX7 inWX7 (by decide) (by decide) wd_238 (fun _ _ _ => rfl) rfl, mo_getR⟩ (
  And.intro ⟨ok_nop, mo_nop⟩ (
  And.intro ⟨ok_nop, mo_nop⟩ (
  And.intro ⟨ok_aload_n dX7_behind_24 rfl rfl, mo_aload⟩ (
  And.intro ⟨ok_getR dX7_behind_25 hclX7 inWX7 (by decide) (by decide) wd_237 (fun _ _ _ => rfl) rfl, mo_getR⟩ (
  And.intro ⟨ok_nop, mo_nop⟩ (
  And.intro ⟨ok_nop, mo_nop⟩ (
  And.intro ⟨ok_cv (z := 14) dX7_behind_28 hclX2 (by decide) wd_501 wd_502 wd_503 wd_2 wd_504 rfl (by decide) ⟨rfl, hy_X2_become⟩ rfl, mo_cv⟩ (
  And.intro ⟨ok_nop, mo_nop⟩ (
  And.intro ⟨ok_nop, mo_nop⟩ (
  And.intro ⟨ok_iconst dX7_behind_31 rfl ic_0, mo_push⟩ (
  trivial))))))))))))))))
theorem rX7_behind_2 : am_allR (fun pc o => am_ok am_tb0 cX7_behind RX7 4 (some .int) false pc o ∧ am_mo o) 32 (am_nth [] tX7_behind 2) :=
  And.intro ⟨ok_istore_n dX7_behind_32 rfl (by decide) rfl, mo_istore⟩ (
  And.intro ⟨ok_iload_n dX7_behind_33 rfl rfl, mo_iload⟩ (
  And.intro ⟨ok_iload_n dX7_behind_34 rfl rfl, mo_iload⟩ (
  And.intro ⟨ok_icmp_ge dX7_behind_35 (by decide) rfl, mo_icmp⟩ (
  And.intro ⟨ok_nop, mo_nop⟩ (
  And.intro ⟨ok_nop, mo_nop⟩ (
  And.intro ⟨ok_aload_n dX7_behind_38 rfl rfl, mo_aload⟩ (
  And.intro ⟨ok_getR dX7_behind_39 hclX7 inWX7 (by decide) (by decide) wd_238 (fun _ _ _ => rfl) rfl, mo_getR⟩ (
  And.intro ⟨ok_nop, mo_nop⟩ (
  And.intro ⟨ok_nop, mo_nop⟩ (
  And.intro ⟨ok_cv (z := 25) dX7_behind_42 hclX2 (by decide) wd_488 wd_489 wd_490 wd_2 wd_491 rfl (by decide) ⟨rfl, hy_X2_passDay⟩ rfl, mo_cv⟩ (
  And.intro ⟨ok_nop, mo_nop⟩ (
  And.intro ⟨ok_nop, mo_nop⟩ (
  And.intro ⟨ok_iinc dX7_behind_45 ic_1 (by decide) rfl, mo_iinc⟩ (
  And.intro ⟨ok_nop, mo_nop⟩ (
  And.intro ⟨ok_nop, mo_nop⟩ (
  trivial))))))))))))))))
theorem rX7_behind_3 : am_allR (fun pc o => am_ok am_tb0 cX7_behind RX7 4 (some .int) false pc o ∧ am_mo o) 48 (am_nth [] tX7_behind 3) :=
  And.intro ⟨ok_goto dX7_behind_48 (by decide), mo_goto⟩ (
  And.intro ⟨ok_nop, mo_nop⟩ (
  And.intro ⟨ok_nop, mo_nop⟩ (
  And.intro ⟨ok_iload_n dX7_behind_51 rfl rfl, mo_iload⟩ (
  And.intro ⟨ok_if_ne dX7_behind_52 (by decide) rfl, mo_if⟩ (
  And.intro ⟨ok_nop, mo_nop⟩ (
  And.intro ⟨ok_nop, mo_nop⟩ (
  And.intro ⟨ok_aload_n dX7_behind_55 rfl rfl, mo_aload⟩ (
  And.intro ⟨ok_getR dX7_behind_56 hclX7 inWX7 (by decide) (by decide) wd_241 (fun _ _ _ => rfl) rfl, mo_getR⟩ (
  And.intro ⟨ok_nop, mo_nop⟩ (
  And.intro ⟨ok_nop, mo_nop⟩ (
  And.intro ⟨ok_aload_n dX7_behind_59 rfl rfl, mo_aload⟩ (
  And.intro ⟨ok_getR dX7_behind_60 hclX7 inWX7 (by decide) (by decide) wd_238 (fun _ _ _ => rfl) rfl, mo_getR⟩ (
  And.intro ⟨ok_nop, mo_nop⟩ (
  And.intro ⟨ok_nop, mo_nop⟩ (
  And.intro ⟨ok_iconst dX7_behind_63 rfl ic_m1, mo_push⟩ (
  trivial))))))))))))))))
theorem rX7_behind_4 : am_allR (fun pc o => am_ok am_tb0 cX7_behind RX7 4 (some .int) false pc o ∧ am_mo o) 64 (am_nth [] tX7_behind 4) :=
  And.intro ⟨ok_iconst dX7_behind_64 rfl ic_m1, mo_push⟩ (
  And.intro ⟨ok_cv (z := 1) dX7_behind_65 hclX0 (by decide) wd_437 wd_438 wd_439 wd_4 wd_440 rfl (by decide) ⟨rfl, hy_X0_solve⟩ rfl, mo_cv⟩ (
  And.intro ⟨ok_nop, mo_nop⟩ (
  And.intro ⟨ok_nop, mo_nop⟩ (
  And.intro ⟨ok_iret dX7_behind_68 rfl, mo_iret⟩ (
  And.intro ⟨ok_iload_n dX7_behind_69 rfl rfl, mo_iload⟩ (
  And.intro ⟨ok_iconst dX7_behind_70 rfl ic_1, mo_push⟩ (
  And.intro ⟨ok_icmp_ne dX7_behind_71 (by decide) rfl, mo_icmp⟩ (
  And.intro ⟨ok_nop, mo_nop⟩ (
  And.intro ⟨ok_nop, mo_nop⟩ (
  And.intro ⟨ok_aload_n dX7_behind_74 rfl rfl, mo_aload⟩ (
  And.intro ⟨ok_getR dX7_behind_75 hclX7 inWX7 (by decide) (by decide) wd_238 (fun _ _ _ => rfl) rfl, mo_getR⟩ (
  And.intro ⟨ok_nop, mo_nop⟩ (
  And.intro ⟨ok_nop, mo_nop⟩ (
  And.intro ⟨ok_cv (z := 27) dX7_behind_78 hclX2 (by decide) wd_513 wd_514 wd_515 wd_2 wd_516 rfl (by decide) ⟨rfl, hy_X2_depthSum⟩ rfl, mo_cv⟩ (
  And.intro ⟨ok_nop, mo_nop⟩ (
  trivial))))))))))))))))
theorem rX7_behind_5 : am_allR (fun pc o => am_ok am_tb0 cX7_behind RX7 4 (some .int) false pc o ∧ am_mo o) 80 (am_nth [] tX7_behind 5) :=
  And.intro ⟨ok_nop, mo_nop⟩ (
  And.intro ⟨ok_goto dX7_behind_81 (by decide), mo_goto⟩ (
  And.intro ⟨ok_nop, mo_nop⟩ (
  And.intro ⟨ok_nop, mo_nop⟩ (
  And.intro ⟨ok_aload_n dX7_behind_84 rfl rfl, mo_aload⟩ (
  And.intro ⟨ok_getR dX7_behind_85 hclX7 inWX7 (by decide) (by decide) wd_238 (fun _ _ _ => rfl) rfl, mo_getR⟩ (
  And.intro ⟨ok_nop, mo_nop⟩ (
  And.intro ⟨ok_nop, mo_nop⟩ (
  And.intro ⟨ok_cv (z := 26) dX7_behind_88 hclX2 (by decide) wd_493 wd_494 wd_495 wd_2 wd_496 rfl (by decide) ⟨rfl, hy_X2_filledCount⟩ rfl, mo_cv⟩ (
  And.intro ⟨ok_nop, mo_nop⟩ (
  And.intro ⟨ok_nop, mo_nop⟩ (
  And.intro ⟨ok_iret dX7_behind_91 rfl, mo_iret⟩ (
  And.intro ⟨ok_nop, mo_nop⟩ (
  And.intro ⟨ok_nop, mo_nop⟩ (
  And.intro ⟨ok_nop, mo_nop⟩ (
  And.intro ⟨ok_nop, mo_nop⟩ (
  trivial))))))))))))))))
theorem kX7_behind : am_M1 am_tb0 cX7_behind RX7 4 (some .int) false tX7_behind := And.intro rX7_behind_0 (And.intro rX7_behind_1 (And.intro rX7_behind_2 (And.intro rX7_behind_3 (And.intro rX7_behind_4 (And.intro rX7_behind_5 (trivial))))))
def tX7_paid : List (List am_Op) := [[o_aload 0 1, o_getR 7 11 1 4, am_nop, am_nop, o_aload 0 5, o_getR 7 11 0 8, am_nop, am_nop, o_cv 2 14 14 3 2 1 11, am_nop, am_nop, o_push (.int 0) 12, o_istore 1 13, o_iload 1 14, o_push (.int 300) 17, am_nop],
  [am_nop, o_icmp (fun x y => y < x) 52 20, am_nop, am_nop, o_aload 0 21, o_getR 7 11 1 24, am_nop, am_nop, o_cv 2 14 26 3 0 0 27, am_nop, am_nop, o_aload 0 28, o_getR 7 11 1 31, am_nop, am_nop, o_getI 2 14 1 34],
  [am_nop, am_nop, o_icmp (fun x y => ¬ x = y) 39 37, am_nop, am_nop, o_iload 1 38, o_iret, o_aload 0 40, o_getR 7 11 1 43, am_nop, am_nop, o_cv 2 14 25 4 4 0 46, am_nop, am_nop, o_iinc 1 1 49, am_nop],
  [am_nop, o_goto 13, am_nop, am_nop, o_push (.int (-1000000005)) 54, am_nop, o_iret, am_nop, am_nop, am_nop, am_nop, am_nop, am_nop, am_nop, am_nop, am_nop]]
theorem rX7_paid_0 : am_allR (fun pc o => am_ok am_tb0 cX7_paid RX7 2 (some .int) false pc o ∧ am_mo o) 0 (am_nth [] tX7_paid 0) :=
  And.intro ⟨ok_aload_n dX7_paid_0 rfl rfl, mo_aload⟩ (
  And.intro ⟨ok_getR dX7_paid_1 hclX7 inWX7 (by decide) (by decide) wd_238 (fun _ _ _ => rfl) rfl, mo_getR⟩ (
  And.intro ⟨ok_nop, mo_nop⟩ (
  And.intro ⟨ok_nop, mo_nop⟩ (
  And.intro ⟨ok_aload_n dX7_paid_4 rfl rfl, mo_aload⟩ (
  And.intro ⟨ok_getR dX7_paid_5 hclX7 inWX7 (by decide) (by decide) wd_237 (fun _ _ _ => rfl) rfl, mo_getR⟩ (
  And.intro ⟨ok_nop, mo_nop⟩ (
  And.intro ⟨ok_nop, mo_nop⟩ (
  And.intro ⟨ok_cv (z := 14) dX7_paid_8 hclX2 (by decide) wd_501 wd_502 wd_503 wd_2 wd_504 rfl (by decide) ⟨rfl, hy_X2_become⟩ rfl, mo_cv⟩ (
  And.intro ⟨ok_nop, mo_nop⟩ (
  And.intro ⟨ok_nop, mo_nop⟩ (
  And.intro ⟨ok_iconst dX7_paid_11 rfl ic_0, mo_push⟩ (
  And.intro ⟨ok_istore_n dX7_paid_12 rfl (by decide) rfl, mo_istore⟩ (
  And.intro ⟨ok_iload_n dX7_paid_13 rfl rfl, mo_iload⟩ (
  And.intro ⟨ok_sipush dX7_paid_14 rfl si_300, mo_push⟩ (
  And.intro ⟨ok_nop, mo_nop⟩ (
  trivial))))))))))))))))
theorem rX7_paid_1 : am_allR (fun pc o => am_ok am_tb0 cX7_paid RX7 2 (some .int) false pc o ∧ am_mo o) 16 (am_nth [] tX7_paid 1) :=
  And.intro ⟨ok_nop, mo_nop⟩ (
  And.intro ⟨ok_icmp_gt dX7_paid_17 (by decide) rfl, mo_icmp⟩ (
  And.intro ⟨ok_nop, mo_nop⟩ (
  And.intro ⟨ok_nop, mo_nop⟩ (
  And.intro ⟨ok_aload_n dX7_paid_20 rfl rfl, mo_aload⟩ (
  And.intro ⟨ok_getR dX7_paid_21 hclX7 inWX7 (by decide) (by decide) wd_238 (fun _ _ _ => rfl) rfl, mo_getR⟩ (
  And.intro ⟨ok_nop, mo_nop⟩ (
  And.intro ⟨ok_nop, mo_nop⟩ (
  And.intro ⟨ok_cv (z := 26) dX7_paid_24 hclX2 (by decide) wd_493 wd_494 wd_495 wd_2 wd_496 rfl (by decide) ⟨rfl, hy_X2_filledCount⟩ rfl, mo_cv⟩ (
  And.intro ⟨ok_nop, mo_nop⟩ (
  And.intro ⟨ok_nop, mo_nop⟩ (
  And.intro ⟨ok_aload_n dX7_paid_27 rfl rfl, mo_aload⟩ (
  And.intro ⟨ok_getR dX7_paid_28 hclX7 inWX7 (by decide) (by decide) wd_238 (fun _ _ _ => rfl) rfl, mo_getR⟩ (
  And.intro ⟨ok_nop, mo_nop⟩ (
  And.intro ⟨ok_nop, mo_nop⟩ (
  And.intro ⟨ok_getIN dX7_paid_31 hclX2 inWX2 (by decide) (by decide) wn_70 (fun _ _ _ => rfl) rfl, mo_getI⟩ (
  trivial))))))))))))))))
theorem rX7_paid_2 : am_allR (fun pc o => am_ok am_tb0 cX7_paid RX7 2 (some .int) false pc o ∧ am_mo o) 32 (am_nth [] tX7_paid 2) :=
  And.intro ⟨ok_nop, mo_nop⟩ (
  And.intro ⟨ok_nop, mo_nop⟩ (
  And.intro ⟨ok_icmp_ne dX7_paid_34 (by decide) rfl, mo_icmp⟩ (
  And.intro ⟨ok_nop, mo_nop⟩ (
  And.intro ⟨ok_nop, mo_nop⟩ (
  And.intro ⟨ok_iload_n dX7_paid_37 rfl rfl, mo_iload⟩ (
  And.intro ⟨ok_iret dX7_paid_38 rfl, mo_iret⟩ (
  And.intro ⟨ok_aload_n dX7_paid_39 rfl rfl, mo_aload⟩ (
  And.intro ⟨ok_getR dX7_paid_40 hclX7 inWX7 (by decide) (by decide) wd_238 (fun _ _ _ => rfl) rfl, mo_getR⟩ (
  And.intro ⟨ok_nop, mo_nop⟩ (
  And.intro ⟨ok_nop, mo_nop⟩ (
  And.intro ⟨ok_cv (z := 25) dX7_paid_43 hclX2 (by decide) wd_488 wd_489 wd_490 wd_2 wd_491 rfl (by decide) ⟨rfl, hy_X2_passDay⟩ rfl, mo_cv⟩ (
  And.intro ⟨ok_nop, mo_nop⟩ (
  And.intro ⟨ok_nop, mo_nop⟩ (
  And.intro ⟨ok_iinc dX7_paid_46 ic_1 (by decide) rfl, mo_iinc⟩ (
  And.intro ⟨ok_nop, mo_nop⟩ (
  trivial))))))))))))))))
theorem rX7_paid_3 : am_allR (fun pc o => am_ok am_tb0 cX7_paid RX7 2 (some .int) false pc o ∧ am_mo o) 48 (am_nth [] tX7_paid 3) :=
  And.intro ⟨ok_nop, mo_nop⟩ (
  And.intro ⟨ok_goto dX7_paid_49 (by decide), mo_goto⟩ (
  And.intro ⟨ok_nop, mo_nop⟩ (
  And.intro ⟨ok_nop, mo_nop⟩ (
  And.intro ⟨ok_ldc dX7_paid_52 rfl wd_483, mo_push⟩ (
  And.intro ⟨ok_nop, mo_nop⟩ (
  And.intro ⟨ok_iret dX7_paid_54 rfl, mo_iret⟩ (
  And.intro ⟨ok_nop, mo_nop⟩ (
  And.intro ⟨ok_nop, mo_nop⟩ (
  And.intro ⟨ok_nop, mo_nop⟩ (
  And.intro ⟨ok_nop, mo_nop⟩ (
  And.intro ⟨ok_nop, mo_nop⟩ (
  And.intro ⟨ok_nop, mo_nop⟩ (
  And.intro ⟨ok_nop, mo_nop⟩ (
  And.intro ⟨ok_nop, mo_nop⟩ (
  And.intro ⟨ok_nop, mo_nop⟩ (
  trivial))))))))))))))))
theorem kX7_paid : am_M1 am_tb0 cX7_paid RX7 2 (some .int) false tX7_paid := And.intro rX7_paid_0 (And.intro rX7_paid_1 (And.intro rX7_paid_2 (And.intro rX7_paid_3 (trivial))))
def tX7_best : List (List am_Op) := [[o_iload 1 1, o_push (.int 30) 3, am_nop, o_cs 105 2 0 2 6, am_nop, am_nop, o_if (fun x => x = 0) 17 9, am_nop, am_nop, o_iload 2 10, o_push (.int 1) 11, o_cs 105 2 0 2 14, am_nop, am_nop, o_if (fun x => ¬ x = 0) 20 17, am_nop],
  [am_nop, o_push (.int (-1000000001)) 19, am_nop, o_iret, o_aload 0 21, o_getR 7 11 1 24, am_nop, am_nop, o_aload 0 25, o_getR 7 11 0 28, am_nop, am_nop, o_cv 2 14 14 3 2 1 31, am_nop, am_nop, o_push (.int 0) 32],
  [o_istore 3 33, o_push (.int (-1)) 34, o_istore 4 36, am_nop, o_push (.int 0) 37, o_istore 5 39, am_nop, o_iload 5 41, am_nop, o_iload 1 42, o_icmp (fun x y => y < x) 87 45, am_nop, am_nop, o_aload 0 46, o_getR 7 11 4 49, am_nop],
  [am_nop, o_aload 0 50, o_getR 7 11 1 53, am_nop, am_nop, o_push (.int (-1)) 54, o_push (.int (-1)) 55, o_cv 0 4 1 5 5 3 58, am_nop, am_nop, o_istore 6 60, am_nop, o_iload 6 62, am_nop, o_iload 4 64, am_nop],
  [o_icmp (fun x y => x ≤ y) 74 67, am_nop, am_nop, o_iload 6 69, am_nop, o_istore 4 71, am_nop, o_iload 5 73, am_nop, o_istore 3 74, o_aload 0 75, o_getR 7 11 1 78, am_nop, am_nop, o_cv 2 14 25 4 4 0 81, am_nop],
  [am_nop, o_iinc 5 1 84, am_nop, am_nop, o_goto 39, am_nop, am_nop, o_iload 2 88, o_if (fun x => ¬ x = 0) 95 91, am_nop, am_nop, o_iload 3 92, o_goto 97, am_nop, am_nop, o_iload 4 97],
  [am_nop, o_iret, am_nop, am_nop, am_nop, am_nop, am_nop, am_nop, am_nop, am_nop, am_nop, am_nop, am_nop, am_nop, am_nop, am_nop]]
theorem rX7_best_0 : am_allR (fun pc o => am_ok am_tb0 cX7_best RX7 7 (some .int) false pc o ∧ am_mo o) 0 (am_nth [] tX7_best 0) :=
  And.intro ⟨ok_iload_n dX7_best_0 rfl rfl, mo_iload⟩ (
  And.intro ⟨ok_bipush dX7_best_1 rfl bi_30, mo_push⟩ (
  And.intro ⟨ok_nop, mo_nop⟩ (
  And.intro ⟨ok_cs (z := 105) dX7_best_3 wd_275 wd_276 wd_1 wd_277 rfl (by decide) hy_X7_within rfl, mo_cs⟩ (
  And.intro ⟨ok_nop, mo_nop⟩ (
  And.intro ⟨ok_nop, mo_nop⟩ (
  And.intro ⟨ok_if_eq dX7_best_6 (by decide) rfl, mo_if⟩ (
  And.intro ⟨ok_nop, mo_nop⟩ (
  And.intro ⟨ok_nop, mo_nop⟩ (
  And.intro ⟨ok_iload_n dX7_best_9 rfl rfl, mo_iload⟩ (
  And.intro ⟨ok_iconst dX7_best_10 rfl ic_1, mo_push⟩ (
  And.intro ⟨ok_cs (z := 105) dX7_best_11 wd_275 wd_276 wd_1 wd_277 rfl (by decide) hy_X7_within rfl, mo_cs⟩ (
  And.intro ⟨ok_nop, mo_nop⟩ (
  And.intro ⟨ok_nop, mo_nop⟩ (
  And.intro ⟨ok_if_ne dX7_best_14 (by decide) rfl, mo_if⟩ (
  And.intro ⟨ok_nop, mo_nop⟩ (
  trivial))))))))))))))))
theorem rX7_best_1 : am_allR (fun pc o => am_ok am_tb0 cX7_best RX7 7 (some .int) false pc o ∧ am_mo o) 16 (am_nth [] tX7_best 1) :=
  And.intro ⟨ok_nop, mo_nop⟩ (
  And.intro ⟨ok_ldc dX7_best_17 rfl wd_278, mo_push⟩ (
  And.intro ⟨ok_nop, mo_nop⟩ (
  And.intro ⟨ok_iret dX7_best_19 rfl, mo_iret⟩ (
  And.intro ⟨ok_aload_n dX7_best_20 rfl rfl, mo_aload⟩ (
  And.intro ⟨ok_getR dX7_best_21 hclX7 inWX7 (by decide) (by decide) wd_238 (fun _ _ _ => rfl) rfl, mo_getR⟩ (
  And.intro ⟨ok_nop, mo_nop⟩ (
  And.intro ⟨ok_nop, mo_nop⟩ (
  And.intro ⟨ok_aload_n dX7_best_24 rfl rfl, mo_aload⟩ (
  And.intro ⟨ok_getR dX7_best_25 hclX7 inWX7 (by decide) (by decide) wd_237 (fun _ _ _ => rfl) rfl, mo_getR⟩ (
  And.intro ⟨ok_nop, mo_nop⟩ (
  And.intro ⟨ok_nop, mo_nop⟩ (
  And.intro ⟨ok_cv (z := 14) dX7_best_28 hclX2 (by decide) wd_501 wd_502 wd_503 wd_2 wd_504 rfl (by decide) ⟨rfl, hy_X2_become⟩ rfl, mo_cv⟩ (
  And.intro ⟨ok_nop, mo_nop⟩ (
  And.intro ⟨ok_nop, mo_nop⟩ (
  And.intro ⟨ok_iconst dX7_best_31 rfl ic_0, mo_push⟩ (
  trivial))))))))))))))))
theorem rX7_best_2 : am_allR (fun pc o => am_ok am_tb0 cX7_best RX7 7 (some .int) false pc o ∧ am_mo o) 32 (am_nth [] tX7_best 2) :=
  And.intro ⟨ok_istore_n dX7_best_32 rfl (by decide) rfl, mo_istore⟩ (
  And.intro ⟨ok_iconst dX7_best_33 rfl ic_m1, mo_push⟩ (
  And.intro ⟨ok_istore dX7_best_34 (by decide) rfl, mo_istore⟩ (
  And.intro ⟨ok_nop, mo_nop⟩ (
  And.intro ⟨ok_iconst dX7_best_36 rfl ic_0, mo_push⟩ (
  And.intro ⟨ok_istore dX7_best_37 (by decide) rfl, mo_istore⟩ (
  And.intro ⟨ok_nop, mo_nop⟩ (
  And.intro ⟨ok_iload dX7_best_39 rfl, mo_iload⟩ (
  And.intro ⟨ok_nop, mo_nop⟩ (
  And.intro ⟨ok_iload_n dX7_best_41 rfl rfl, mo_iload⟩ (
  And.intro ⟨ok_icmp_gt dX7_best_42 (by decide) rfl, mo_icmp⟩ (
  And.intro ⟨ok_nop, mo_nop⟩ (
  And.intro ⟨ok_nop, mo_nop⟩ (
  And.intro ⟨ok_aload_n dX7_best_45 rfl rfl, mo_aload⟩ (
  And.intro ⟨ok_getR dX7_best_46 hclX7 inWX7 (by decide) (by decide) wd_241 (fun _ _ _ => rfl) rfl, mo_getR⟩ (
  And.intro ⟨ok_nop, mo_nop⟩ (
  trivial))))))))))))))))
theorem rX7_best_3 : am_allR (fun pc o => am_ok am_tb0 cX7_best RX7 7 (some .int) false pc o ∧ am_mo o) 48 (am_nth [] tX7_best 3) :=
  And.intro ⟨ok_nop, mo_nop⟩ (
  And.intro ⟨ok_aload_n dX7_best_49 rfl rfl, mo_aload⟩ (
  And.intro ⟨ok_getR dX7_best_50 hclX7 inWX7 (by decide) (by decide) wd_238 (fun _ _ _ => rfl) rfl, mo_getR⟩ (
  And.intro ⟨ok_nop, mo_nop⟩ (
  And.intro ⟨ok_nop, mo_nop⟩ (
  And.intro ⟨ok_iconst dX7_best_53 rfl ic_m1, mo_push⟩ (
  And.intro ⟨ok_iconst dX7_best_54 rfl ic_m1, mo_push⟩ (
  And.intro ⟨ok_cv (z := 1) dX7_best_55 hclX0 (by decide) wd_437 wd_438 wd_439 wd_4 wd_440 rfl (by decide) ⟨rfl, hy_X0_solve⟩ rfl, mo_cv⟩ (
  And.intro ⟨ok_nop, mo_nop⟩ (
  And.intro ⟨ok_nop, mo_nop⟩ (
  And.intro ⟨ok_istore dX7_best_58 (by decide) rfl, mo_istore⟩ (
  And.intro ⟨ok_nop, mo_nop⟩ (
  And.intro ⟨ok_iload dX7_best_60 rfl, mo_iload⟩ (
  And.intro ⟨ok_nop, mo_nop⟩ (
  And.intro ⟨ok_iload dX7_best_62 rfl, mo_iload⟩ (
  And.intro ⟨ok_nop, mo_nop⟩ (
  trivial))))))))))))))))
theorem rX7_best_4 : am_allR (fun pc o => am_ok am_tb0 cX7_best RX7 7 (some .int) false pc o ∧ am_mo o) 64 (am_nth [] tX7_best 4) :=
  And.intro ⟨ok_icmp_le dX7_best_64 (by decide) rfl, mo_icmp⟩ (
  And.intro ⟨ok_nop, mo_nop⟩ (
  And.intro ⟨ok_nop, mo_nop⟩ (
  And.intro ⟨ok_iload dX7_best_67 rfl, mo_iload⟩ (
  And.intro ⟨ok_nop, mo_nop⟩ (
  And.intro ⟨ok_istore dX7_best_69 (by decide) rfl, mo_istore⟩ (
  And.intro ⟨ok_nop, mo_nop⟩ (
  And.intro ⟨ok_iload dX7_best_71 rfl, mo_iload⟩ (
  And.intro ⟨ok_nop, mo_nop⟩ (
  And.intro ⟨ok_istore_n dX7_best_73 rfl (by decide) rfl, mo_istore⟩ (
  And.intro ⟨ok_aload_n dX7_best_74 rfl rfl, mo_aload⟩ (
  And.intro ⟨ok_getR dX7_best_75 hclX7 inWX7 (by decide) (by decide) wd_238 (fun _ _ _ => rfl) rfl, mo_getR⟩ (
  And.intro ⟨ok_nop, mo_nop⟩ (
  And.intro ⟨ok_nop, mo_nop⟩ (
  And.intro ⟨ok_cv (z := 25) dX7_best_78 hclX2 (by decide) wd_488 wd_489 wd_490 wd_2 wd_491 rfl (by decide) ⟨rfl, hy_X2_passDay⟩ rfl, mo_cv⟩ (
  And.intro ⟨ok_nop, mo_nop⟩ (
  trivial))))))))))))))))
theorem rX7_best_5 : am_allR (fun pc o => am_ok am_tb0 cX7_best RX7 7 (some .int) false pc o ∧ am_mo o) 80 (am_nth [] tX7_best 5) :=
  And.intro ⟨ok_nop, mo_nop⟩ (
  And.intro ⟨ok_iinc dX7_best_81 ic_1 (by decide) rfl, mo_iinc⟩ (
  And.intro ⟨ok_nop, mo_nop⟩ (
  And.intro ⟨ok_nop, mo_nop⟩ (
  And.intro ⟨ok_goto dX7_best_84 (by decide), mo_goto⟩ (
  And.intro ⟨ok_nop, mo_nop⟩ (
  And.intro ⟨ok_nop, mo_nop⟩ (
  And.intro ⟨ok_iload_n dX7_best_87 rfl rfl, mo_iload⟩ (
  And.intro ⟨ok_if_ne dX7_best_88 (by decide) rfl, mo_if⟩ (
  And.intro ⟨ok_nop, mo_nop⟩ (
  And.intro ⟨ok_nop, mo_nop⟩ (
  And.intro ⟨ok_iload_n dX7_best_91 rfl rfl, mo_iload⟩ (
  And.intro ⟨ok_goto dX7_best_92 (by decide), mo_goto⟩ (
  And.intro ⟨ok_nop, mo_nop⟩ (
  And.intro ⟨ok_nop, mo_nop⟩ (
  And.intro ⟨ok_iload dX7_best_95 rfl, mo_iload⟩ (
  trivial))))))))))))))))
theorem rX7_best_6 : am_allR (fun pc o => am_ok am_tb0 cX7_best RX7 7 (some .int) false pc o ∧ am_mo o) 96 (am_nth [] tX7_best 6) :=
  And.intro ⟨ok_nop, mo_nop⟩ (
  And.intro ⟨ok_iret dX7_best_97 rfl, mo_iret⟩ (
  And.intro ⟨ok_nop, mo_nop⟩ (
  And.intro ⟨ok_nop, mo_nop⟩ (
  And.intro ⟨ok_nop, mo_nop⟩ (
  And.intro ⟨ok_nop, mo_nop⟩ (
  And.intro ⟨ok_nop, mo_nop⟩ (
  And.intro ⟨ok_nop, mo_nop⟩ (
  And.intro ⟨ok_nop, mo_nop⟩ (
  And.intro ⟨ok_nop, mo_nop⟩ (
  And.intro ⟨ok_nop, mo_nop⟩ (
  And.intro ⟨ok_nop, mo_nop⟩ (
  And.intro ⟨ok_nop, mo_nop⟩ (
  And.intro ⟨ok_nop, mo_nop⟩ (
  And.intro ⟨ok_nop, mo_nop⟩ (
  And.intro ⟨ok_nop, mo_nop⟩ (
  trivial))))))))))))))))
theorem kX7_best : am_M1 am_tb0 cX7_best RX7 7 (some .int) false tX7_best := And.intro rX7_best_0 (And.intro rX7_best_1 (And.intro rX7_best_2 (And.intro rX7_best_3 (And.intro rX7_best_4 (And.intro rX7_best_5 (And.intro rX7_best_6 (trivial)))))))
def tX7_owes : List (List am_Op) := [[o_iload 1 1, o_push (.int 7) 3, am_nop, o_cs 105 2 0 2 6, am_nop, am_nop, o_if (fun x => x = 0) 20 9, am_nop, am_nop, o_aload 0 10, o_getR 7 11 0 13, am_nop, am_nop, o_iload 1 14, o_cv 2 14 28 4 0 1 17, am_nop],
  [am_nop, o_goto 22, am_nop, am_nop, o_push (.int (-1000000001)) 22, am_nop, o_iret, am_nop, am_nop, am_nop, am_nop, am_nop, am_nop, am_nop, am_nop, am_nop]]
theorem rX7_owes_0 : am_allR (fun pc o => am_ok am_tb0 cX7_owes RX7 2 (some .int) false pc o ∧ am_mo o) 0 (am_nth [] tX7_owes 0) :=
  And.intro ⟨ok_iload_n dX7_owes_0 rfl rfl, mo_iload⟩ (
  And.intro ⟨ok_bipush dX7_owes_1 rfl bi_7, mo_push⟩ (
  And.intro ⟨ok_nop, mo_nop⟩ (
  And.intro ⟨ok_cs (z := 105) dX7_owes_3 wd_275 wd_276 wd_1 wd_277 rfl (by decide) hy_X7_within rfl, mo_cs⟩ (
  And.intro ⟨ok_nop, mo_nop⟩ (
  And.intro ⟨ok_nop, mo_nop⟩ (
  And.intro ⟨ok_if_eq dX7_owes_6 (by decide) rfl, mo_if⟩ (
  And.intro ⟨ok_nop, mo_nop⟩ (
  And.intro ⟨ok_nop, mo_nop⟩ (
  And.intro ⟨ok_aload_n dX7_owes_9 rfl rfl, mo_aload⟩ (
  And.intro ⟨ok_getR dX7_owes_10 hclX7 inWX7 (by decide) (by decide) wd_237 (fun _ _ _ => rfl) rfl, mo_getR⟩ (
  And.intro ⟨ok_nop, mo_nop⟩ (
  And.intro ⟨ok_nop, mo_nop⟩ (
  And.intro ⟨ok_iload_n dX7_owes_13 rfl rfl, mo_iload⟩ (
  And.intro ⟨ok_cv (z := 28) dX7_owes_14 hclX2 (by decide) wd_529 wd_530 wd_531 wd_2 wd_532 rfl (by decide) ⟨rfl, hy_X2_debtOf⟩ rfl, mo_cv⟩ (
  And.intro ⟨ok_nop, mo_nop⟩ (
  trivial))))))))))))))))
theorem rX7_owes_1 : am_allR (fun pc o => am_ok am_tb0 cX7_owes RX7 2 (some .int) false pc o ∧ am_mo o) 16 (am_nth [] tX7_owes 1) :=
  And.intro ⟨ok_nop, mo_nop⟩ (
  And.intro ⟨ok_goto dX7_owes_17 (by decide), mo_goto⟩ (
  And.intro ⟨ok_nop, mo_nop⟩ (
  And.intro ⟨ok_nop, mo_nop⟩ (
  And.intro ⟨ok_ldc dX7_owes_20 rfl wd_278, mo_push⟩ (
  And.intro ⟨ok_nop, mo_nop⟩ (
  And.intro ⟨ok_iret dX7_owes_22 rfl, mo_iret⟩ (
  And.intro ⟨ok_nop, mo_nop⟩ (
  And.intro ⟨ok_nop, mo_nop⟩ (
  And.intro ⟨ok_nop, mo_nop⟩ (
  And.intro ⟨ok_nop, mo_nop⟩ (
  And.intro ⟨ok_nop, mo_nop⟩ (
  And.intro ⟨ok_nop, mo_nop⟩ (
  And.intro ⟨ok_nop, mo_nop⟩ (
  And.intro ⟨ok_nop, mo_nop⟩ (
  And.intro ⟨ok_nop, mo_nop⟩ (
  trivial))))))))))))))))
theorem kX7_owes : am_M1 am_tb0 cX7_owes RX7 2 (some .int) false tX7_owes := And.intro rX7_owes_0 (And.intro rX7_owes_1 (trivial))
def tX7_debtor : List (List am_Op) := [[o_push (.int 0) 1, o_istore 1 2, o_push (.int 1) 3, o_istore 2 4, o_iload 2 5, o_push (.int 7) 7, am_nop, o_icmp (fun x y => y < x) 37 10, am_nop, am_nop, o_aload 0 11, o_getR 7 11 0 14, am_nop, am_nop, o_iload 2 15, o_cv 2 14 28 4 0 1 18],
  [am_nop, am_nop, o_aload 0 19, o_getR 7 11 0 22, am_nop, am_nop, o_iload 1 23, o_cv 2 14 28 4 0 1 26, am_nop, am_nop, o_icmp (fun x y => x ≤ y) 31 29, am_nop, am_nop, o_iload 2 30, o_istore 1 31, o_iinc 2 1 34],
  [am_nop, am_nop, o_goto 4, am_nop, am_nop, o_iload 1 38, o_iret, am_nop, am_nop, am_nop, am_nop, am_nop, am_nop, am_nop, am_nop, am_nop]]
theorem rX7_debtor_0 : am_allR (fun pc o => am_ok am_tb0 cX7_debtor RX7 3 (some .int) false pc o ∧ am_mo o) 0 (am_nth [] tX7_debtor 0) :=
  And.intro ⟨ok_iconst dX7_debtor_0 rfl ic_0, mo_push⟩ (
  And.intro ⟨ok_istore_n dX7_debtor_1 rfl (by decide) rfl, mo_istore⟩ (
  And.intro ⟨ok_iconst dX7_debtor_2 rfl ic_1, mo_push⟩ (
  And.intro ⟨ok_istore_n dX7_debtor_3 rfl (by decide) rfl, mo_istore⟩ (
  And.intro ⟨ok_iload_n dX7_debtor_4 rfl rfl, mo_iload⟩ (
  And.intro ⟨ok_bipush dX7_debtor_5 rfl bi_7, mo_push⟩ (
  And.intro ⟨ok_nop, mo_nop⟩ (
  And.intro ⟨ok_icmp_gt dX7_debtor_7 (by decide) rfl, mo_icmp⟩ (
  And.intro ⟨ok_nop, mo_nop⟩ (
  And.intro ⟨ok_nop, mo_nop⟩ (
  And.intro ⟨ok_aload_n dX7_debtor_10 rfl rfl, mo_aload⟩ (
  And.intro ⟨ok_getR dX7_debtor_11 hclX7 inWX7 (by decide) (by decide) wd_237 (fun _ _ _ => rfl) rfl, mo_getR⟩ (
  And.intro ⟨ok_nop, mo_nop⟩ (
  And.intro ⟨ok_nop, mo_nop⟩ (
  And.intro ⟨ok_iload_n dX7_debtor_14 rfl rfl, mo_iload⟩ (
  And.intro ⟨ok_cv (z := 28) dX7_debtor_15 hclX2 (by decide) wd_529 wd_530 wd_531 wd_2 wd_532 rfl (by decide) ⟨rfl, hy_X2_debtOf⟩ rfl, mo_cv⟩ (
  trivial))))))))))))))))
theorem rX7_debtor_1 : am_allR (fun pc o => am_ok am_tb0 cX7_debtor RX7 3 (some .int) false pc o ∧ am_mo o) 16 (am_nth [] tX7_debtor 1) :=
  And.intro ⟨ok_nop, mo_nop⟩ (
  And.intro ⟨ok_nop, mo_nop⟩ (
  And.intro ⟨ok_aload_n dX7_debtor_18 rfl rfl, mo_aload⟩ (
  And.intro ⟨ok_getR dX7_debtor_19 hclX7 inWX7 (by decide) (by decide) wd_237 (fun _ _ _ => rfl) rfl, mo_getR⟩ (
  And.intro ⟨ok_nop, mo_nop⟩ (
  And.intro ⟨ok_nop, mo_nop⟩ (
  And.intro ⟨ok_iload_n dX7_debtor_22 rfl rfl, mo_iload⟩ (
  And.intro ⟨ok_cv (z := 28) dX7_debtor_23 hclX2 (by decide) wd_529 wd_530 wd_531 wd_2 wd_532 rfl (by decide) ⟨rfl, hy_X2_debtOf⟩ rfl, mo_cv⟩ (
  And.intro ⟨ok_nop, mo_nop⟩ (
  And.intro ⟨ok_nop, mo_nop⟩ (
  And.intro ⟨ok_icmp_le dX7_debtor_26 (by decide) rfl, mo_icmp⟩ (
  And.intro ⟨ok_nop, mo_nop⟩ (
  And.intro ⟨ok_nop, mo_nop⟩ (
  And.intro ⟨ok_iload_n dX7_debtor_29 rfl rfl, mo_iload⟩ (
  And.intro ⟨ok_istore_n dX7_debtor_30 rfl (by decide) rfl, mo_istore⟩ (
  And.intro ⟨ok_iinc dX7_debtor_31 ic_1 (by decide) rfl, mo_iinc⟩ (
  trivial))))))))))))))))
theorem rX7_debtor_2 : am_allR (fun pc o => am_ok am_tb0 cX7_debtor RX7 3 (some .int) false pc o ∧ am_mo o) 32 (am_nth [] tX7_debtor 2) :=
  And.intro ⟨ok_nop, mo_nop⟩ (
  And.intro ⟨ok_nop, mo_nop⟩ (
  And.intro ⟨ok_goto dX7_debtor_34 (by decide), mo_goto⟩ (
  And.intro ⟨ok_nop, mo_nop⟩ (
  And.intro ⟨ok_nop, mo_nop⟩ (
  And.intro ⟨ok_iload_n dX7_debtor_37 rfl rfl, mo_iload⟩ (
  And.intro ⟨ok_iret dX7_debtor_38 rfl, mo_iret⟩ (
  And.intro ⟨ok_nop, mo_nop⟩ (
  And.intro ⟨ok_nop, mo_nop⟩ (
  And.intro ⟨ok_nop, mo_nop⟩ (
  And.intro ⟨ok_nop, mo_nop⟩ (
  And.intro ⟨ok_nop, mo_nop⟩ (
  And.intro ⟨ok_nop, mo_nop⟩ (
  And.intro ⟨ok_nop, mo_nop⟩ (
  And.intro ⟨ok_nop, mo_nop⟩ (
  And.intro ⟨ok_nop, mo_nop⟩ (
  trivial))))))))))))))))
theorem kX7_debtor : am_M1 am_tb0 cX7_debtor RX7 3 (some .int) false tX7_debtor := And.intro rX7_debtor_0 (And.intro rX7_debtor_1 (And.intro rX7_debtor_2 (trivial)))
def tX7_dug : List (List am_Op) := [[o_aload 0 1, o_iload 1 2, o_cv 7 11 110 2 1 1 5, am_nop, am_nop, o_astore 3 6, o_aload 3 7, o_null 18 10, am_nop, am_nop, o_iload 2 11, o_push (.int 1) 12, o_cs 105 2 0 2 15, am_nop, am_nop, o_if (fun x => ¬ x = 0) 21 18],
  [am_nop, am_nop, o_push (.int (-1000000001)) 20, am_nop, o_iret, o_aload 3 22, o_getI 3 3 0 25, am_nop, am_nop, o_push (.int (-1)) 26, o_icmp (fun x y => ¬ x = y) 32 29, am_nop, am_nop, o_push (.int (-1000000011)) 31, am_nop, o_iret],
  [o_aload 0 33, o_getR 7 11 0 36, am_nop, am_nop, o_getI 2 14 1 39, am_nop, am_nop, o_if (fun x => ¬ x = 0) 45 42, am_nop, am_nop, o_push (.int (-1000000005)) 44, am_nop, o_iret, o_aload 0 46, o_aload 3 47, o_cv 7 11 109 4 5 1 50],
  [am_nop, am_nop, o_push (.int 0) 51, o_istore 4 53, am_nop, o_push (.int 1) 54, o_istore 5 56, am_nop, o_iload 5 58, am_nop, o_aload 0 59, o_getR 7 11 0 62, am_nop, am_nop, o_getI 2 14 1 65, am_nop],
  [am_nop, o_icmp (fun x y => y ≤ x) 95 68, am_nop, am_nop, o_aload 0 69, o_getR 7 11 10 72, am_nop, am_nop, o_iload 5 74, am_nop, o_iald 20 75, o_aload 0 76, o_getR 7 11 10 79, am_nop, am_nop, o_iload 4 81],
  [am_nop, o_iald 20 82, o_icmp (fun x y => y ≤ x) 89 85, am_nop, am_nop, o_iload 5 87, am_nop, o_istore 4 89, am_nop, o_iinc 5 1 92, am_nop, am_nop, o_goto 56, am_nop, am_nop, o_iload 2 96],
  [o_if (fun x => ¬ x = 0) 104 99, am_nop, am_nop, o_iload 4 101, am_nop, o_goto 111, am_nop, am_nop, o_aload 0 105, o_getR 7 11 10 108, am_nop, am_nop, o_iload 4 110, am_nop, o_iald 20 111, o_iret]]
theorem rX7_dug_0 : am_allR (fun pc o => am_ok am_tb0 cX7_dug RX7 6 (some .int) false pc o ∧ am_mo o) 0 (am_nth [] tX7_dug 0) :=
  And.intro ⟨ok_aload_n dX7_dug_0 rfl rfl, mo_aload⟩ (
  And.intro ⟨ok_iload_n dX7_dug_1 rfl rfl, mo_iload⟩ (
  And.intro ⟨ok_cv (z := 110) dX7_dug_2 hclX7 (by decide) wd_541 wd_543 wp_2 wd_1 wd_544 rfl (by decide) ⟨rfl, hy_X7_sheetAt⟩ rfl, mo_cv⟩ (
  And.intro ⟨ok_nop, mo_nop⟩ (
  And.intro ⟨ok_nop, mo_nop⟩ (
  And.intro ⟨ok_astore_n dX7_dug_5 rfl (by decide) rfl, mo_astore⟩ (
  And.intro ⟨ok_aload_n dX7_dug_6 rfl rfl, mo_aload⟩ (
  And.intro ⟨ok_ifnull dX7_dug_7 (by decide) rfl, mo_null⟩ (
  And.intro ⟨ok_nop, mo_nop⟩ (
  And.intro ⟨ok_nop, mo_nop⟩ (
  And.intro ⟨ok_iload_n dX7_dug_10 rfl rfl, mo_iload⟩ (
  And.intro ⟨ok_iconst dX7_dug_11 rfl ic_1, mo_push⟩ (
  And.intro ⟨ok_cs (z := 105) dX7_dug_12 wd_275 wd_276 wd_1 wd_277 rfl (by decide) hy_X7_within rfl, mo_cs⟩ (
  And.intro ⟨ok_nop, mo_nop⟩ (
  And.intro ⟨ok_nop, mo_nop⟩ (
  And.intro ⟨ok_if_ne dX7_dug_15 (by decide) rfl, mo_if⟩ (
  trivial))))))))))))))))
theorem rX7_dug_1 : am_allR (fun pc o => am_ok am_tb0 cX7_dug RX7 6 (some .int) false pc o ∧ am_mo o) 16 (am_nth [] tX7_dug 1) :=
  And.intro ⟨ok_nop, mo_nop⟩ (
  And.intro ⟨ok_nop, mo_nop⟩ (
  And.intro ⟨ok_ldc dX7_dug_18 rfl wd_278, mo_push⟩ (
  And.intro ⟨ok_nop, mo_nop⟩ (
  And.intro ⟨ok_iret dX7_dug_20 rfl, mo_iret⟩ (
  And.intro ⟨ok_aload_n dX7_dug_21 rfl rfl, mo_aload⟩ (
  And.intro ⟨ok_getIN dX7_dug_22 hclX3 inWX3 (by decide) (by decide) wn_199 (fun _ _ _ => rfl) rfl, mo_getI⟩ (
  And.intro ⟨ok_nop, mo_nop⟩ (
  And.intro ⟨ok_nop, mo_nop⟩ (
  And.intro ⟨ok_iconst dX7_dug_25 rfl ic_m1, mo_push⟩ (
  And.intro ⟨ok_icmp_ne dX7_dug_26 (by decide) rfl, mo_icmp⟩ (
  And.intro ⟨ok_nop, mo_nop⟩ (
  And.intro ⟨ok_nop, mo_nop⟩ (
  And.intro ⟨ok_ldc dX7_dug_29 rfl wd_545, mo_push⟩ (
  And.intro ⟨ok_nop, mo_nop⟩ (
  And.intro ⟨ok_iret dX7_dug_31 rfl, mo_iret⟩ (
  trivial))))))))))))))))
theorem rX7_dug_2 : am_allR (fun pc o => am_ok am_tb0 cX7_dug RX7 6 (some .int) false pc o ∧ am_mo o) 32 (am_nth [] tX7_dug 2) :=
  And.intro ⟨ok_aload_n dX7_dug_32 rfl rfl, mo_aload⟩ (
  And.intro ⟨ok_getR dX7_dug_33 hclX7 inWX7 (by decide) (by decide) wd_237 (fun _ _ _ => rfl) rfl, mo_getR⟩ (
  And.intro ⟨ok_nop, mo_nop⟩ (
  And.intro ⟨ok_nop, mo_nop⟩ (
  And.intro ⟨ok_getIN dX7_dug_36 hclX2 inWX2 (by decide) (by decide) wn_70 (fun _ _ _ => rfl) rfl, mo_getI⟩ (
  And.intro ⟨ok_nop, mo_nop⟩ (
  And.intro ⟨ok_nop, mo_nop⟩ (
  And.intro ⟨ok_if_ne dX7_dug_39 (by decide) rfl, mo_if⟩ (
  And.intro ⟨ok_nop, mo_nop⟩ (
  And.intro ⟨ok_nop, mo_nop⟩ (
  And.intro ⟨ok_ldc dX7_dug_42 rfl wd_483, mo_push⟩ (
  And.intro ⟨ok_nop, mo_nop⟩ (
  And.intro ⟨ok_iret dX7_dug_44 rfl, mo_iret⟩ (
  And.intro ⟨ok_aload_n dX7_dug_45 rfl rfl, mo_aload⟩ (
  And.intro ⟨ok_aload_n dX7_dug_46 rfl rfl, mo_aload⟩ (
  And.intro ⟨ok_cv (z := 109) dX7_dug_47 hclX7 (by decide) wd_546 wd_548 wp_3 wd_1 wd_549 rfl (by decide) ⟨rfl, hy_X7_addDifferences⟩ rfl, mo_cv⟩ (
  trivial))))))))))))))))
theorem rX7_dug_3 : am_allR (fun pc o => am_ok am_tb0 cX7_dug RX7 6 (some .int) false pc o ∧ am_mo o) 48 (am_nth [] tX7_dug 3) :=
  And.intro ⟨ok_nop, mo_nop⟩ (
  And.intro ⟨ok_nop, mo_nop⟩ (
  And.intro ⟨ok_iconst dX7_dug_50 rfl ic_0, mo_push⟩ (
  And.intro ⟨ok_istore dX7_dug_51 (by decide) rfl, mo_istore⟩ (
  And.intro ⟨ok_nop, mo_nop⟩ (
  And.intro ⟨ok_iconst dX7_dug_53 rfl ic_1, mo_push⟩ (
  And.intro ⟨ok_istore dX7_dug_54 (by decide) rfl, mo_istore⟩ (
  And.intro ⟨ok_nop, mo_nop⟩ (
  And.intro ⟨ok_iload dX7_dug_56 rfl, mo_iload⟩ (
  And.intro ⟨ok_nop, mo_nop⟩ (
  And.intro ⟨ok_aload_n dX7_dug_58 rfl rfl, mo_aload⟩ (
  And.intro ⟨ok_getR dX7_dug_59 hclX7 inWX7 (by decide) (by decide) wd_237 (fun _ _ _ => rfl) rfl, mo_getR⟩ (
  And.intro ⟨ok_nop, mo_nop⟩ (
  And.intro ⟨ok_nop, mo_nop⟩ (
  And.intro ⟨ok_getIN dX7_dug_62 hclX2 inWX2 (by decide) (by decide) wn_70 (fun _ _ _ => rfl) rfl, mo_getI⟩ (
  And.intro ⟨ok_nop, mo_nop⟩ (
  trivial))))))))))))))))
theorem rX7_dug_4 : am_allR (fun pc o => am_ok am_tb0 cX7_dug RX7 6 (some .int) false pc o ∧ am_mo o) 64 (am_nth [] tX7_dug 4) :=
  And.intro ⟨ok_nop, mo_nop⟩ (
  And.intro ⟨ok_icmp_ge dX7_dug_65 (by decide) rfl, mo_icmp⟩ (
  And.intro ⟨ok_nop, mo_nop⟩ (
  And.intro ⟨ok_nop, mo_nop⟩ (
  And.intro ⟨ok_aload_n dX7_dug_68 rfl rfl, mo_aload⟩ (
  And.intro ⟨ok_getR dX7_dug_69 hclX7 inWX7 (by decide) (by decide) wd_247 (fun _ _ _ => rfl) rfl, mo_getR⟩ (
  And.intro ⟨ok_nop, mo_nop⟩ (
  And.intro ⟨ok_nop, mo_nop⟩ (
  And.intro ⟨ok_iload dX7_dug_72 rfl, mo_iload⟩ (
  And.intro ⟨ok_nop, mo_nop⟩ (
  And.intro ⟨ok_iald dX7_dug_74 rfl, mo_iald⟩ (
  And.intro ⟨ok_aload_n dX7_dug_75 rfl rfl, mo_aload⟩ (
  And.intro ⟨ok_getR dX7_dug_76 hclX7 inWX7 (by decide) (by decide) wd_247 (fun _ _ _ => rfl) rfl, mo_getR⟩ (
  And.intro ⟨ok_nop, mo_nop⟩ (
  And.intro ⟨ok_nop, mo_nop⟩ (
  And.intro ⟨ok_iload dX7_dug_79 rfl, mo_iload⟩ (
  trivial))))))))))))))))
theorem rX7_dug_5 : am_allR (fun pc o => am_ok am_tb0 cX7_dug RX7 6 (some .int) false pc o ∧ am_mo o) 80 (am_nth [] tX7_dug 5) :=
  And.intro ⟨ok_nop, mo_nop⟩ (
  And.intro ⟨ok_iald dX7_dug_81 rfl, mo_iald⟩ (
  And.intro ⟨ok_icmp_ge dX7_dug_82 (by decide) rfl, mo_icmp⟩ (
  And.intro ⟨ok_nop, mo_nop⟩ (
  And.intro ⟨ok_nop, mo_nop⟩ (
  And.intro ⟨ok_iload dX7_dug_85 rfl, mo_iload⟩ (
  And.intro ⟨ok_nop, mo_nop⟩ (
  And.intro ⟨ok_istore dX7_dug_87 (by decide) rfl, mo_istore⟩ (
  And.intro ⟨ok_nop, mo_nop⟩ (
  And.intro ⟨ok_iinc dX7_dug_89 ic_1 (by decide) rfl, mo_iinc⟩ (
  And.intro ⟨ok_nop, mo_nop⟩ (
  And.intro ⟨ok_nop, mo_nop⟩ (
  And.intro ⟨ok_goto dX7_dug_92 (by decide), mo_goto⟩ (
  And.intro ⟨ok_nop, mo_nop⟩ (
  And.intro ⟨ok_nop, mo_nop⟩ (
  And.intro ⟨ok_iload_n dX7_dug_95 rfl rfl, mo_iload⟩ (
  trivial))))))))))))))))
theorem rX7_dug_6 : am_allR (fun pc o => am_ok am_tb0 cX7_dug RX7 6 (some .int) false pc o ∧ am_mo o) 96 (am_nth [] tX7_dug 6) :=
  And.intro ⟨ok_if_ne dX7_dug_96 (by decide) rfl, mo_if⟩ (
  And.intro ⟨ok_nop, mo_nop⟩ (
  And.intro ⟨ok_nop, mo_nop⟩ (
  And.intro ⟨ok_iload dX7_dug_99 rfl, mo_iload⟩ (
  And.intro ⟨ok_nop, mo_nop⟩ (
  And.intro ⟨ok_goto dX7_dug_101 (by decide), mo_goto⟩ (
  And.intro ⟨ok_nop, mo_nop⟩ (
  And.intro ⟨ok_nop, mo_nop⟩ (
  And.intro ⟨ok_aload_n dX7_dug_104 rfl rfl, mo_aload⟩ (
  And.intro ⟨ok_getR dX7_dug_105 hclX7 inWX7 (by decide) (by decide) wd_247 (fun _ _ _ => rfl) rfl, mo_getR⟩ (
  And.intro ⟨ok_nop, mo_nop⟩ (
  And.intro ⟨ok_nop, mo_nop⟩ (
  And.intro ⟨ok_iload dX7_dug_108 rfl, mo_iload⟩ (
  And.intro ⟨ok_nop, mo_nop⟩ (
  And.intro ⟨ok_iald dX7_dug_110 rfl, mo_iald⟩ (
  And.intro ⟨ok_iret dX7_dug_111 rfl, mo_iret⟩ (
  trivial))))))))))))))))
theorem kX7_dug : am_M1 am_tb0 cX7_dug RX7 6 (some .int) false tX7_dug := And.intro rX7_dug_0 (And.intro rX7_dug_1 (And.intro rX7_dug_2 (And.intro rX7_dug_3 (And.intro rX7_dug_4 (And.intro rX7_dug_5 (And.intro rX7_dug_6 (trivial)))))))
def tX7_fine : List (List am_Op) := [[o_iload 1 1, o_push (.int 7) 3, am_nop, o_cs 105 2 0 2 6, am_nop, am_nop, o_if (fun x => x = 0) 20 9, am_nop, am_nop, o_aload 0 10, o_getR 7 11 0 13, am_nop, am_nop, o_iload 1 14, o_cv 2 14 29 3 2 1 17, am_nop],
  [am_nop, o_goto 22, am_nop, am_nop, o_push (.int (-1000000001)) 22, am_nop, o_iret, am_nop, am_nop, am_nop, am_nop, am_nop, am_nop, am_nop, am_nop, am_nop]]
theorem rX7_fine_0 : am_allR (fun pc o => am_ok am_tb0 cX7_fine RX7 2 (some .int) false pc o ∧ am_mo o) 0 (am_nth [] tX7_fine 0) :=
  And.intro ⟨ok_iload_n dX7_fine_0 rfl rfl, mo_iload⟩ (
  And.intro ⟨ok_bipush dX7_fine_1 rfl bi_7, mo_push⟩ (
  And.intro ⟨ok_nop, mo_nop⟩ (
  And.intro ⟨ok_cs (z := 105) dX7_fine_3 wd_275 wd_276 wd_1 wd_277 rfl (by decide) hy_X7_within rfl, mo_cs⟩ (
  And.intro ⟨ok_nop, mo_nop⟩ (
  And.intro ⟨ok_nop, mo_nop⟩ (
  And.intro ⟨ok_if_eq dX7_fine_6 (by decide) rfl, mo_if⟩ (
  And.intro ⟨ok_nop, mo_nop⟩ (
  And.intro ⟨ok_nop, mo_nop⟩ (
  And.intro ⟨ok_aload_n dX7_fine_9 rfl rfl, mo_aload⟩ (
  And.intro ⟨ok_getR dX7_fine_10 hclX7 inWX7 (by decide) (by decide) wd_237 (fun _ _ _ => rfl) rfl, mo_getR⟩ (
  And.intro ⟨ok_nop, mo_nop⟩ (
  And.intro ⟨ok_nop, mo_nop⟩ (
  And.intro ⟨ok_iload_n dX7_fine_13 rfl rfl, mo_iload⟩ (
  And.intro ⟨ok_cv (z := 29) dX7_fine_14 hclX2 (by decide) wd_566 wd_567 wd_568 wd_2 wd_569 rfl (by decide) ⟨rfl, hy_X2_fineOf⟩ rfl, mo_cv⟩ (
  And.intro ⟨ok_nop, mo_nop⟩ (
  trivial))))))))))))))))
theorem rX7_fine_1 : am_allR (fun pc o => am_ok am_tb0 cX7_fine RX7 2 (some .int) false pc o ∧ am_mo o) 16 (am_nth [] tX7_fine 1) :=
  And.intro ⟨ok_nop, mo_nop⟩ (
  And.intro ⟨ok_goto dX7_fine_17 (by decide), mo_goto⟩ (
  And.intro ⟨ok_nop, mo_nop⟩ (
  And.intro ⟨ok_nop, mo_nop⟩ (
  And.intro ⟨ok_ldc dX7_fine_20 rfl wd_278, mo_push⟩ (
  And.intro ⟨ok_nop, mo_nop⟩ (
  And.intro ⟨ok_iret dX7_fine_22 rfl, mo_iret⟩ (
  And.intro ⟨ok_nop, mo_nop⟩ (
  And.intro ⟨ok_nop, mo_nop⟩ (
  And.intro ⟨ok_nop, mo_nop⟩ (
  And.intro ⟨ok_nop, mo_nop⟩ (
  And.intro ⟨ok_nop, mo_nop⟩ (
  And.intro ⟨ok_nop, mo_nop⟩ (
  And.intro ⟨ok_nop, mo_nop⟩ (
  And.intro ⟨ok_nop, mo_nop⟩ (
  And.intro ⟨ok_nop, mo_nop⟩ (
  trivial))))))))))))))))
theorem kX7_fine : am_M1 am_tb0 cX7_fine RX7 2 (some .int) false tX7_fine := And.intro rX7_fine_0 (And.intro rX7_fine_1 (trivial))
def tX7_feed : List (List am_Op) := [[o_aload 0 1, o_getR 7 11 5 4, am_nop, am_nop, o_getI 5 11 1 7, am_nop, am_nop, o_push (.int 12) 9, am_nop, o_bin (fun x y => x + y) 10, o_push (.int 96) 12, am_nop, o_icmp (fun x y => x ≤ y) 18 15, am_nop, am_nop, o_push (.int (-1000000003)) 17],
  [am_nop, o_iret, o_aload 0 19, o_getR 7 11 5 22, am_nop, am_nop, o_iload 1 23, o_cv 5 11 41 3 0 1 26, am_nop, am_nop, o_aload 0 27, o_getR 7 11 5 30, am_nop, am_nop, o_iload 2 31, o_cv 5 11 41 3 0 1 34],
  [am_nop, am_nop, o_aload 0 35, o_getR 7 11 5 38, am_nop, am_nop, o_iload 3 39, o_cv 5 11 41 3 0 1 42, am_nop, am_nop, o_aload 0 43, o_getR 7 11 5 46, am_nop, am_nop, o_getI 5 11 1 49, am_nop],
  [am_nop, o_iret, am_nop, am_nop, am_nop, am_nop, am_nop, am_nop, am_nop, am_nop, am_nop, am_nop, am_nop, am_nop, am_nop, am_nop]]
theorem rX7_feed_0 : am_allR (fun pc o => am_ok am_tb0 cX7_feed RX7 4 (some .int) false pc o ∧ am_mo o) 0 (am_nth [] tX7_feed 0) :=
  And.intro ⟨ok_aload_n dX7_feed_0 rfl rfl, mo_aload⟩ (
  And.intro ⟨ok_getR dX7_feed_1 hclX7 inWX7 (by decide) (by decide) wd_242 (fun _ _ _ => rfl) rfl, mo_getR⟩ (
  And.intro ⟨ok_nop, mo_nop⟩ (
  And.intro ⟨ok_nop, mo_nop⟩ (
  And.intro ⟨ok_getIN dX7_feed_4 hclX5 inWX5 (by decide) (by decide) wn_155 (fun _ _ _ => rfl) rfl, mo_getI⟩ (
  And.intro ⟨ok_nop, mo_nop⟩ (
  And.intro ⟨ok_nop, mo_nop⟩ (
  And.intro ⟨ok_bipush dX7_feed_7 rfl bi_12, mo_push⟩ (
  And.intro ⟨ok_nop, mo_nop⟩ (
  And.intro ⟨ok_iadd dX7_feed_9 rfl, mo_bin⟩ (
  And.intro ⟨ok_bipush dX7_feed_10 rfl bi_96, mo_push⟩ (
  And.intro ⟨ok_nop, mo_nop⟩ (
  And.intro ⟨ok_icmp_le dX7_feed_12 (by decide) rfl, mo_icmp⟩ (
  And.intro ⟨ok_nop, mo_nop⟩ (
  And.intro ⟨ok_nop, mo_nop⟩ (
  And.intro ⟨ok_ldc dX7_feed_15 rfl wd_279, mo_push⟩ (
  trivial))))))))))))))))
theorem rX7_feed_1 : am_allR (fun pc o => am_ok am_tb0 cX7_feed RX7 4 (some .int) false pc o ∧ am_mo o) 16 (am_nth [] tX7_feed 1) :=
  And.intro ⟨ok_nop, mo_nop⟩ (
  And.intro ⟨ok_iret dX7_feed_17 rfl, mo_iret⟩ (
  And.intro ⟨ok_aload_n dX7_feed_18 rfl rfl, mo_aload⟩ (
  And.intro ⟨ok_getR dX7_feed_19 hclX7 inWX7 (by decide) (by decide) wd_242 (fun _ _ _ => rfl) rfl, mo_getR⟩ (
  And.intro ⟨ok_nop, mo_nop⟩ (
  And.intro ⟨ok_nop, mo_nop⟩ (
  And.intro ⟨ok_iload_n dX7_feed_22 rfl rfl, mo_iload⟩ (
  And.intro ⟨ok_cv (z := 41) dX7_feed_23 hclX5 (by decide) wd_575 wd_576 wd_577 wd_5 wd_578 rfl (by decide) ⟨rfl, hy_X5_putBytes⟩ rfl, mo_cv⟩ (
  And.intro ⟨ok_nop, mo_nop⟩ (
  And.intro ⟨ok_nop, mo_nop⟩ (
  And.intro ⟨ok_aload_n dX7_feed_26 rfl rfl, mo_aload⟩ (
  And.intro ⟨ok_getR dX7_feed_27 hclX7 inWX7 (by decide) (by decide) wd_242 (fun _ _ _ => rfl) rfl, mo_getR⟩ (
  And.intro ⟨ok_nop, mo_nop⟩ (
  And.intro ⟨ok_nop, mo_nop⟩ (
  And.intro ⟨ok_iload_n dX7_feed_30 rfl rfl, mo_iload⟩ (
  And.intro ⟨ok_cv (z := 41) dX7_feed_31 hclX5 (by decide) wd_575 wd_576 wd_577 wd_5 wd_578 rfl (by decide) ⟨rfl, hy_X5_putBytes⟩ rfl, mo_cv⟩ (
  trivial))))))))))))))))
theorem rX7_feed_2 : am_allR (fun pc o => am_ok am_tb0 cX7_feed RX7 4 (some .int) false pc o ∧ am_mo o) 32 (am_nth [] tX7_feed 2) :=
  And.intro ⟨ok_nop, mo_nop⟩ (
  And.intro ⟨ok_nop, mo_nop⟩ (
  And.intro ⟨ok_aload_n dX7_feed_34 rfl rfl, mo_aload⟩ (
  And.intro ⟨ok_getR dX7_feed_35 hclX7 inWX7 (by decide) (by decide) wd_242 (fun _ _ _ => rfl) rfl, mo_getR⟩ (
  And.intro ⟨ok_nop, mo_nop⟩ (
  And.intro ⟨ok_nop, mo_nop⟩ (
  And.intro ⟨ok_iload_n dX7_feed_38 rfl rfl, mo_iload⟩ (
  And.intro ⟨ok_cv (z := 41) dX7_feed_39 hclX5 (by decide) wd_575 wd_576 wd_577 wd_5 wd_578 rfl (by decide) ⟨rfl, hy_X5_putBytes⟩ rfl, mo_cv⟩ (
  And.intro ⟨ok_nop, mo_nop⟩ (
  And.intro ⟨ok_nop, mo_nop⟩ (
  And.intro ⟨ok_aload_n dX7_feed_42 rfl rfl, mo_aload⟩ (
  And.intro ⟨ok_getR dX7_feed_43 hclX7 inWX7 (by decide) (by decide) wd_242 (fun _ _ _ => rfl) rfl, mo_getR⟩ (
  And.intro ⟨ok_nop, mo_nop⟩ (
  And.intro ⟨ok_nop, mo_nop⟩ (
  And.intro ⟨ok_getIN dX7_feed_46 hclX5 inWX5 (by decide) (by decide) wn_155 (fun _ _ _ => rfl) rfl, mo_getI⟩ (
  And.intro ⟨ok_nop, mo_nop⟩ (
  trivial))))))))))))))))
theorem rX7_feed_3 : am_allR (fun pc o => am_ok am_tb0 cX7_feed RX7 4 (some .int) false pc o ∧ am_mo o) 48 (am_nth [] tX7_feed 3) :=
  And.intro ⟨ok_nop, mo_nop⟩ (
  And.intro ⟨ok_iret dX7_feed_49 rfl, mo_iret⟩ (
  And.intro ⟨ok_nop, mo_nop⟩ (
  And.intro ⟨ok_nop, mo_nop⟩ (
  And.intro ⟨ok_nop, mo_nop⟩ (
  And.intro ⟨ok_nop, mo_nop⟩ (
  And.intro ⟨ok_nop, mo_nop⟩ (
  And.intro ⟨ok_nop, mo_nop⟩ (
  And.intro ⟨ok_nop, mo_nop⟩ (
  And.intro ⟨ok_nop, mo_nop⟩ (
  And.intro ⟨ok_nop, mo_nop⟩ (
  And.intro ⟨ok_nop, mo_nop⟩ (
  And.intro ⟨ok_nop, mo_nop⟩ (
  And.intro ⟨ok_nop, mo_nop⟩ (
  And.intro ⟨ok_nop, mo_nop⟩ (
  And.intro ⟨ok_nop, mo_nop⟩ (
  trivial))))))))))))))))
theorem kX7_feed : am_M1 am_tb0 cX7_feed RX7 4 (some .int) false tX7_feed := And.intro rX7_feed_0 (And.intro rX7_feed_1 (And.intro rX7_feed_2 (And.intro rX7_feed_3 (trivial))))
def tX7_trim : List (List am_Op) := [[o_iload 1 1, o_aload 0 2, o_getR 7 11 5 5, am_nop, am_nop, o_getI 5 11 1 8, am_nop, am_nop, o_cs 105 2 0 2 11, am_nop, am_nop, o_if (fun x => ¬ x = 0) 17 14, am_nop, am_nop, o_push (.int (-1000000001)) 16, am_nop],
  [o_iret, o_aload 0 18, o_getR 7 11 5 21, am_nop, am_nop, o_iload 1 22, o_putI 5 11 1 25, am_nop, am_nop, o_iload 1 26, o_iret, am_nop, am_nop, am_nop, am_nop, am_nop]]
theorem rX7_trim_0 : am_allR (fun pc o => am_ok am_tb0 cX7_trim RX7 2 (some .int) false pc o ∧ am_mo o) 0 (am_nth [] tX7_trim 0) :=
  And.intro ⟨ok_iload_n dX7_trim_0 rfl rfl, mo_iload⟩ (
  And.intro ⟨ok_aload_n dX7_trim_1 rfl rfl, mo_aload⟩ (
  And.intro ⟨ok_getR dX7_trim_2 hclX7 inWX7 (by decide) (by decide) wd_242 (fun _ _ _ => rfl) rfl, mo_getR⟩ (
  And.intro ⟨ok_nop, mo_nop⟩ (
  And.intro ⟨ok_nop, mo_nop⟩ (
  And.intro ⟨ok_getIN dX7_trim_5 hclX5 inWX5 (by decide) (by decide) wn_155 (fun _ _ _ => rfl) rfl, mo_getI⟩ (
  And.intro ⟨ok_nop, mo_nop⟩ (
  And.intro ⟨ok_nop, mo_nop⟩ (
  And.intro ⟨ok_cs (z := 105) dX7_trim_8 wd_275 wd_276 wd_1 wd_277 rfl (by decide) hy_X7_within rfl, mo_cs⟩ (
  And.intro ⟨ok_nop, mo_nop⟩ (
  And.intro ⟨ok_nop, mo_nop⟩ (
  And.intro ⟨ok_if_ne dX7_trim_11 (by decide) rfl, mo_if⟩ (
  And.intro ⟨ok_nop, mo_nop⟩ (
  And.intro ⟨ok_nop, mo_nop⟩ (
  And.intro ⟨ok_ldc dX7_trim_14 rfl wd_278, mo_push⟩ (
  And.intro ⟨ok_nop, mo_nop⟩ (
  trivial))))))))))))))))
theorem rX7_trim_1 : am_allR (fun pc o => am_ok am_tb0 cX7_trim RX7 2 (some .int) false pc o ∧ am_mo o) 16 (am_nth [] tX7_trim 1) :=
  And.intro ⟨ok_iret dX7_trim_16 rfl, mo_iret⟩ (
  And.intro ⟨ok_aload_n dX7_trim_17 rfl rfl, mo_aload⟩ (
  And.intro ⟨ok_getR dX7_trim_18 hclX7 inWX7 (by decide) (by decide) wd_242 (fun _ _ _ => rfl) rfl, mo_getR⟩ (
  And.intro ⟨ok_nop, mo_nop⟩ (
  And.intro ⟨ok_nop, mo_nop⟩ (
  And.intro ⟨ok_iload_n dX7_trim_21 rfl rfl, mo_iload⟩ (
  And.intro ⟨ok_putIN dX7_trim_22 hclX5 inWX5 tyX5_ok nmX5 (by decide) (by decide) wn_155 rfl (tyX5_ok 1 (by decide)) (fun _ _ _ => rfl) rfl, mo_putI⟩ (
  And.intro ⟨ok_nop, mo_nop⟩ (
  And.intro ⟨ok_nop, mo_nop⟩ (
  And.intro ⟨ok_iload_n dX7_trim_25 rfl rfl, mo_iload⟩ (
  And.intro ⟨ok_iret dX7_trim_26 rfl, mo_iret⟩ (
  And.intro ⟨ok_nop, mo_nop⟩ (
  And.intro ⟨ok_nop, mo_nop⟩ (
  And.intro ⟨ok_nop, mo_nop⟩ (
  And.intro ⟨ok_nop, mo_nop⟩ (
  And.intro ⟨ok_nop, mo_nop⟩ (
  trivial))))))))))))))))
theorem kX7_trim : am_M1 am_tb0 cX7_trim RX7 2 (some .int) false tX7_trim := And.intro rX7_trim_0 (And.intro rX7_trim_1 (trivial))
def tX7_text : List (List am_Op) := [[o_aload 0 1, o_getR 7 11 5 4, am_nop, am_nop, o_cv 5 11 42 1 201 0 7, am_nop, am_nop, o_astore 1 8, o_aload 0 9, o_getR 7 11 5 12, am_nop, am_nop, o_push (.int 0) 13, o_putI 5 11 1 16, am_nop, am_nop],
  [o_aload 1 17, o_null 20 31, am_nop, am_nop, o_push (.int (-100)) 22, am_nop, o_aload 0 23, o_getR 7 11 5 26, am_nop, am_nop, o_getI 5 11 2 29, am_nop, am_nop, o_bin (fun x y => x - y) 30, o_iret, o_aload 0 32],
  [o_getR 7 11 0 35, am_nop, am_nop, o_getI 2 14 6 38, am_nop, am_nop, o_push (.int 14) 40, am_nop, o_icmp (fun x y => x < y) 46 43, am_nop, am_nop, o_push (.int (-1000000003)) 45, am_nop, o_iret, o_aload 0 47, o_getR 7 11 0 50],
  [am_nop, am_nop, o_aload 1 51, o_cv 2 14 32 3 0 1 54, am_nop, am_nop, o_iret, am_nop, am_nop, am_nop, am_nop, am_nop, am_nop, am_nop, am_nop, am_nop]]
theorem rX7_text_0 : am_allR (fun pc o => am_ok am_tb0 cX7_text RX7 2 (some .int) false pc o ∧ am_mo o) 0 (am_nth [] tX7_text 0) :=
  And.intro ⟨ok_aload_n dX7_text_0 rfl rfl, mo_aload⟩ (
  And.intro ⟨ok_getR dX7_text_1 hclX7 inWX7 (by decide) (by decide) wd_242 (fun _ _ _ => rfl) rfl, mo_getR⟩ (
  And.intro ⟨ok_nop, mo_nop⟩ (
  And.intro ⟨ok_nop, mo_nop⟩ (
  And.intro ⟨ok_cv (z := 42) dX7_text_4 hclX5 (by decide) wd_587 wd_588 wd_589 wd_5 wd_590 rfl (by decide) ⟨rfl, hy_X5_read⟩ rfl, mo_cv⟩ (
  And.intro ⟨ok_nop, mo_nop⟩ (
  And.intro ⟨ok_nop, mo_nop⟩ (
  And.intro ⟨ok_astore_n dX7_text_7 rfl (by decide) rfl, mo_astore⟩ (
  And.intro ⟨ok_aload_n dX7_text_8 rfl rfl, mo_aload⟩ (
  And.intro ⟨ok_getR dX7_text_9 hclX7 inWX7 (by decide) (by decide) wd_242 (fun _ _ _ => rfl) rfl, mo_getR⟩ (
  And.intro ⟨ok_nop, mo_nop⟩ (
  And.intro ⟨ok_nop, mo_nop⟩ (
  And.intro ⟨ok_iconst dX7_text_12 rfl ic_0, mo_push⟩ (
  And.intro ⟨ok_putIN dX7_text_13 hclX5 inWX5 tyX5_ok nmX5 (by decide) (by decide) wn_155 rfl (tyX5_ok 1 (by decide)) (fun _ _ _ => rfl) rfl, mo_putI⟩ (
  And.intro ⟨ok_nop, mo_nop⟩ (
  And.intro ⟨ok_nop, mo_nop⟩ (
  trivial))))))))))))))))
theorem rX7_text_1 : am_allR (fun pc o => am_ok am_tb0 cX7_text RX7 2 (some .int) false pc o ∧ am_mo o) 16 (am_nth [] tX7_text 1) :=
  And.intro ⟨ok_aload_n dX7_text_16 rfl rfl, mo_aload⟩ (
  And.intro ⟨ok_ifnonnull dX7_text_17 (by decide) rfl, mo_null⟩ (
  And.intro ⟨ok_nop, mo_nop⟩ (
  And.intro ⟨ok_nop, mo_nop⟩ (
  And.intro ⟨ok_bipush dX7_text_20 rfl bi_m100, mo_push⟩ (
  And.intro ⟨ok_nop, mo_nop⟩ (
  And.intro ⟨ok_aload_n dX7_text_22 rfl rfl, mo_aload⟩ (
  And.intro ⟨ok_getR dX7_text_23 hclX7 inWX7 (by decide) (by decide) wd_242 (fun _ _ _ => rfl) rfl, mo_getR⟩ (
  And.intro ⟨ok_nop, mo_nop⟩ (
  And.intro ⟨ok_nop, mo_nop⟩ (
  And.intro ⟨ok_getIN dX7_text_26 hclX5 inWX5 (by decide) (by decide) wn_157 (fun _ _ _ => rfl) rfl, mo_getI⟩ (
  And.intro ⟨ok_nop, mo_nop⟩ (
  And.intro ⟨ok_nop, mo_nop⟩ (
  And.intro ⟨ok_isub dX7_text_29 rfl, mo_bin⟩ (
  And.intro ⟨ok_iret dX7_text_30 rfl, mo_iret⟩ (
  And.intro ⟨ok_aload_n dX7_text_31 rfl rfl, mo_aload⟩ (
  trivial))))))))))))))))
theorem rX7_text_2 : am_allR (fun pc o => am_ok am_tb0 cX7_text RX7 2 (some .int) false pc o ∧ am_mo o) 32 (am_nth [] tX7_text 2) :=
  And.intro ⟨ok_getR dX7_text_32 hclX7 inWX7 (by decide) (by decide) wd_237 (fun _ _ _ => rfl) rfl, mo_getR⟩ (
  And.intro ⟨ok_nop, mo_nop⟩ (
  And.intro ⟨ok_nop, mo_nop⟩ (
  And.intro ⟨ok_getIN dX7_text_35 hclX2 inWX2 (by decide) (by decide) wn_83 (fun _ _ _ => rfl) rfl, mo_getI⟩ (
  And.intro ⟨ok_nop, mo_nop⟩ (
  And.intro ⟨ok_nop, mo_nop⟩ (
  And.intro ⟨ok_bipush dX7_text_38 rfl bi_14, mo_push⟩ (
  And.intro ⟨ok_nop, mo_nop⟩ (
  And.intro ⟨ok_icmp_lt dX7_text_40 (by decide) rfl, mo_icmp⟩ (
  And.intro ⟨ok_nop, mo_nop⟩ (
  And.intro ⟨ok_nop, mo_nop⟩ (
  And.intro ⟨ok_ldc dX7_text_43 rfl wd_279, mo_push⟩ (
  And.intro ⟨ok_nop, mo_nop⟩ (
  And.intro ⟨ok_iret dX7_text_45 rfl, mo_iret⟩ (
  And.intro ⟨ok_aload_n dX7_text_46 rfl rfl, mo_aload⟩ (
  And.intro ⟨ok_getR dX7_text_47 hclX7 inWX7 (by decide) (by decide) wd_237 (fun _ _ _ => rfl) rfl, mo_getR⟩ (
  trivial))))))))))))))))
theorem rX7_text_3 : am_allR (fun pc o => am_ok am_tb0 cX7_text RX7 2 (some .int) false pc o ∧ am_mo o) 48 (am_nth [] tX7_text 3) :=
  And.intro ⟨ok_nop, mo_nop⟩ (
  And.intro ⟨ok_nop, mo_nop⟩ (
  And.intro ⟨ok_aload_n dX7_text_50 rfl rfl, mo_aload⟩ (
  And.intro ⟨ok_cv (z := 32) dX7_text_51 hclX2 (by decide) wd_789 wd_790 wd_791 wd_2 wd_792 rfl (by decide) ⟨rfl, hy_X2_addText⟩ rfl, mo_cv⟩ (
  And.intro ⟨ok_nop, mo_nop⟩ (
  And.intro ⟨ok_nop, mo_nop⟩ (
  And.intro ⟨ok_iret dX7_text_54 rfl, mo_iret⟩ (
  And.intro ⟨ok_nop, mo_nop⟩ (
  And.intro ⟨ok_nop, mo_nop⟩ (
  And.intro ⟨ok_nop, mo_nop⟩ (
  And.intro ⟨ok_nop, mo_nop⟩ (
  And.intro ⟨ok_nop, mo_nop⟩ (
  And.intro ⟨ok_nop, mo_nop⟩ (
  And.intro ⟨ok_nop, mo_nop⟩ (
  And.intro ⟨ok_nop, mo_nop⟩ (
  And.intro ⟨ok_nop, mo_nop⟩ (
  trivial))))))))))))))))
theorem kX7_text : am_M1 am_tb0 cX7_text RX7 2 (some .int) false tX7_text := And.intro rX7_text_0 (And.intro rX7_text_1 (And.intro rX7_text_2 (And.intro rX7_text_3 (trivial))))
def tX7_textTold : List (List am_Op) := [[o_aload 0 1, o_getR 7 11 0 4, am_nop, am_nop, o_iload 1 5, o_cv 2 14 30 2 0 1 8, am_nop, am_nop, o_astore 3 9, o_aload 3 10, o_null 21 13, am_nop, am_nop, o_iload 2 14, o_push (.int 1) 15, o_cs 105 2 0 2 18],
  [am_nop, am_nop, o_if (fun x => ¬ x = 0) 24 21, am_nop, am_nop, o_push (.int (-1000000001)) 23, am_nop, o_iret, o_iload 2 25, o_if (fun x => ¬ x = 0) 35 28, am_nop, am_nop, o_aload 3 29, o_getI 6 4 0 32, am_nop, am_nop],
  [o_goto 39, am_nop, am_nop, o_aload 3 36, o_getI 6 4 1 39, am_nop, am_nop, o_iret, am_nop, am_nop, am_nop, am_nop, am_nop, am_nop, am_nop, am_nop]]
theorem rX7_textTold_0 : am_allR (fun pc o => am_ok am_tb0 cX7_textTold RX7 4 (some .int) false pc o ∧ am_mo o) 0 (am_nth [] tX7_textTold 0) :=
  And.intro ⟨ok_aload_n dX7_textTold_0 rfl rfl, mo_aload⟩ (
  And.intro ⟨ok_getR dX7_textTold_1 hclX7 inWX7 (by decide) (by decide) wd_237 (fun _ _ _ => rfl) rfl, mo_getR⟩ (
  And.intro ⟨ok_nop, mo_nop⟩ (
  And.intro ⟨ok_nop, mo_nop⟩ (
  And.intro ⟨ok_iload_n dX7_textTold_4 rfl rfl, mo_iload⟩ (
  And.intro ⟨ok_cv (z := 30) dX7_textTold_5 hclX2 (by decide) wd_797 wd_348 wd_349 wd_2 wd_350 rfl (by decide) ⟨rfl, hy_X2_findText⟩ rfl, mo_cv⟩ (
  And.intro ⟨ok_nop, mo_nop⟩ (
  And.intro ⟨ok_nop, mo_nop⟩ (
  And.intro ⟨ok_astore_n dX7_textTold_8 rfl (by decide) rfl, mo_astore⟩ (
  And.intro ⟨ok_aload_n dX7_textTold_9 rfl rfl, mo_aload⟩ (
  And.intro ⟨ok_ifnull dX7_textTold_10 (by decide) rfl, mo_null⟩ (
  And.intro ⟨ok_nop, mo_nop⟩ (
  And.intro ⟨ok_nop, mo_nop⟩ (
  And.intro ⟨ok_iload_n dX7_textTold_13 rfl rfl, mo_iload⟩ (
  And.intro ⟨ok_iconst dX7_textTold_14 rfl ic_1, mo_push⟩ (
  And.intro ⟨ok_cs (z := 105) dX7_textTold_15 wd_275 wd_276 wd_1 wd_277 rfl (by decide) hy_X7_within rfl, mo_cs⟩ (
  trivial))))))))))))))))
theorem rX7_textTold_1 : am_allR (fun pc o => am_ok am_tb0 cX7_textTold RX7 4 (some .int) false pc o ∧ am_mo o) 16 (am_nth [] tX7_textTold 1) :=
  And.intro ⟨ok_nop, mo_nop⟩ (
  And.intro ⟨ok_nop, mo_nop⟩ (
  And.intro ⟨ok_if_ne dX7_textTold_18 (by decide) rfl, mo_if⟩ (
  And.intro ⟨ok_nop, mo_nop⟩ (
  And.intro ⟨ok_nop, mo_nop⟩ (
  And.intro ⟨ok_ldc dX7_textTold_21 rfl wd_278, mo_push⟩ (
  And.intro ⟨ok_nop, mo_nop⟩ (
  And.intro ⟨ok_iret dX7_textTold_23 rfl, mo_iret⟩ (
  And.intro ⟨ok_iload_n dX7_textTold_24 rfl rfl, mo_iload⟩ (
  And.intro ⟨ok_if_ne dX7_textTold_25 (by decide) rfl, mo_if⟩ (
  And.intro ⟨ok_nop, mo_nop⟩ (
  And.intro ⟨ok_nop, mo_nop⟩ (
  And.intro ⟨ok_aload_n dX7_textTold_28 rfl rfl, mo_aload⟩ (
  And.intro ⟨ok_getIN dX7_textTold_29 hclX6 inWX6 (by decide) (by decide) wn_774 (fun _ _ _ => rfl) rfl, mo_getI⟩ (
  And.intro ⟨ok_nop, mo_nop⟩ (
  And.intro ⟨ok_nop, mo_nop⟩ (
  trivial))))))))))))))))
theorem rX7_textTold_2 : am_allR (fun pc o => am_ok am_tb0 cX7_textTold RX7 4 (some .int) false pc o ∧ am_mo o) 32 (am_nth [] tX7_textTold 2) :=
  And.intro ⟨ok_goto dX7_textTold_32 (by decide), mo_goto⟩ (
  And.intro ⟨ok_nop, mo_nop⟩ (
  And.intro ⟨ok_nop, mo_nop⟩ (
  And.intro ⟨ok_aload_n dX7_textTold_35 rfl rfl, mo_aload⟩ (
  And.intro ⟨ok_getIN dX7_textTold_36 hclX6 inWX6 (by decide) (by decide) wn_776 (fun _ _ _ => rfl) rfl, mo_getI⟩ (
  And.intro ⟨ok_nop, mo_nop⟩ (
  And.intro ⟨ok_nop, mo_nop⟩ (
  And.intro ⟨ok_iret dX7_textTold_39 rfl, mo_iret⟩ (
  And.intro ⟨ok_nop, mo_nop⟩ (
  And.intro ⟨ok_nop, mo_nop⟩ (
  And.intro ⟨ok_nop, mo_nop⟩ (
  And.intro ⟨ok_nop, mo_nop⟩ (
  And.intro ⟨ok_nop, mo_nop⟩ (
  And.intro ⟨ok_nop, mo_nop⟩ (
  And.intro ⟨ok_nop, mo_nop⟩ (
  And.intro ⟨ok_nop, mo_nop⟩ (
  trivial))))))))))))))))
theorem kX7_textTold : am_M1 am_tb0 cX7_textTold RX7 4 (some .int) false tX7_textTold := And.intro rX7_textTold_0 (And.intro rX7_textTold_1 (And.intro rX7_textTold_2 (trivial)))
def tX7_why : List (List am_Op) := [[o_iload 1 1, o_push (.int 2) 2, o_cs 105 2 0 2 5, am_nop, am_nop, o_if (fun x => ¬ x = 0) 11 8, am_nop, am_nop, o_push (.int (-1000000001)) 10, am_nop, o_iret, o_aload 0 12, o_getR 7 11 0 15, am_nop, am_nop, o_getR 2 14 7 18],
  [am_nop, am_nop, o_iload 1 19, o_iald 20 20, o_istore 2 21, o_iload 2 22, o_if (fun x => 0 ≤ x) 30 25, am_nop, am_nop, o_push (.int (-1000000005)) 27, am_nop, o_goto 31, am_nop, am_nop, o_iload 2 31, o_iret]]
theorem rX7_why_0 : am_allR (fun pc o => am_ok am_tb0 cX7_why RX7 3 (some .int) false pc o ∧ am_mo o) 0 (am_nth [] tX7_why 0) :=
  And.intro ⟨ok_iload_n dX7_why_0 rfl rfl, mo_iload⟩ (
  And.intro ⟨ok_iconst dX7_why_1 rfl ic_2, mo_push⟩ (
  And.intro ⟨ok_cs (z := 105) dX7_why_2 wd_275 wd_276 wd_1 wd_277 rfl (by decide) hy_X7_within rfl, mo_cs⟩ (
  And.intro ⟨ok_nop, mo_nop⟩ (
  And.intro ⟨ok_nop, mo_nop⟩ (
  And.intro ⟨ok_if_ne dX7_why_5 (by decide) rfl, mo_if⟩ (
  And.intro ⟨ok_nop, mo_nop⟩ (
  And.intro ⟨ok_nop, mo_nop⟩ (
  And.intro ⟨ok_ldc dX7_why_8 rfl wd_278, mo_push⟩ (
  And.intro ⟨ok_nop, mo_nop⟩ (
  And.intro ⟨ok_iret dX7_why_10 rfl, mo_iret⟩ (
  And.intro ⟨ok_aload_n dX7_why_11 rfl rfl, mo_aload⟩ (
  And.intro ⟨ok_getR dX7_why_12 hclX7 inWX7 (by decide) (by decide) wd_237 (fun _ _ _ => rfl) rfl, mo_getR⟩ (
  And.intro ⟨ok_nop, mo_nop⟩ (
  And.intro ⟨ok_nop, mo_nop⟩ (
  And.intro ⟨ok_getRN dX7_why_15 hclX2 inWX2 (by decide) (by decide) wn_85 (fun _ _ _ => rfl) rfl, mo_getR⟩ (
  trivial))))))))))))))))
theorem rX7_why_1 : am_allR (fun pc o => am_ok am_tb0 cX7_why RX7 3 (some .int) false pc o ∧ am_mo o) 16 (am_nth [] tX7_why 1) :=
  And.intro ⟨ok_nop, mo_nop⟩ (
  And.intro ⟨ok_nop, mo_nop⟩ (
  And.intro ⟨ok_iload_n dX7_why_18 rfl rfl, mo_iload⟩ (
  And.intro ⟨ok_iald dX7_why_19 rfl, mo_iald⟩ (
  And.intro ⟨ok_istore_n dX7_why_20 rfl (by decide) rfl, mo_istore⟩ (
  And.intro ⟨ok_iload_n dX7_why_21 rfl rfl, mo_iload⟩ (
  And.intro ⟨ok_if_ge dX7_why_22 (by decide) rfl, mo_if⟩ (
  And.intro ⟨ok_nop, mo_nop⟩ (
  And.intro ⟨ok_nop, mo_nop⟩ (
  And.intro ⟨ok_ldc dX7_why_25 rfl wd_483, mo_push⟩ (
  And.intro ⟨ok_nop, mo_nop⟩ (
  And.intro ⟨ok_goto dX7_why_27 (by decide), mo_goto⟩ (
  And.intro ⟨ok_nop, mo_nop⟩ (
  And.intro ⟨ok_nop, mo_nop⟩ (
  And.intro ⟨ok_iload_n dX7_why_30 rfl rfl, mo_iload⟩ (
  And.intro ⟨ok_iret dX7_why_31 rfl, mo_iret⟩ (
  trivial))))))))))))))))
theorem kX7_why : am_M1 am_tb0 cX7_why RX7 3 (some .int) false tX7_why := And.intro rX7_why_0 (And.intro rX7_why_1 (trivial))
def tX7_sheet : List (List am_Op) := [[o_aload 0 1, o_iload 1 2, o_cv 7 11 110 2 1 1 5, am_nop, am_nop, o_astore 4 7, am_nop, o_aload 4 9, am_nop, o_null 22 12, am_nop, am_nop, o_iload 2 13, o_push (.int (-1)) 14, o_icmp (fun x y => x < y) 22 17, am_nop],
  [am_nop, o_iload 2 18, o_push (.int 1) 19, o_icmp (fun x y => x ≤ y) 25 22, am_nop, am_nop, o_push (.int (-1000000001)) 24, am_nop, o_iret, o_iload 2 26, o_push (.int (-1)) 27, o_icmp (fun x y => ¬ x = y) 39 30, am_nop, am_nop, o_aload 4 32, am_nop],
  [o_push (.int (-1)) 33, o_push (.int 0) 34, o_cv 3 3 34 3 1 2 37, am_nop, am_nop, o_push (.int 0) 38, o_iret, o_iload 3 40, o_push (.int 24) 42, am_nop, o_icmp (fun x y => x ≤ y) 48 45, am_nop, am_nop, o_push (.int (-1000000001)) 47, am_nop, o_iret],
  [o_iload 3 49, o_if (fun x => 0 ≤ x) 55 52, am_nop, am_nop, o_push (.int (-1000000014)) 54, am_nop, o_iret, o_aload 4 57, am_nop, o_iload 2 58, o_iload 3 59, o_cv 3 3 34 3 1 2 62, am_nop, am_nop, o_iload 3 63, o_iret]]
theorem rX7_sheet_0 : am_allR (fun pc o => am_ok am_tb0 cX7_sheet RX7 5 (some .int) false pc o ∧ am_mo o) 0 (am_nth [] tX7_sheet 0) :=
  And.intro ⟨ok_aload_n dX7_sheet_0 rfl rfl, mo_aload⟩ (
  And.intro ⟨ok_iload_n dX7_sheet_1 rfl rfl, mo_iload⟩ (
  And.intro ⟨ok_cv (z := 110) dX7_sheet_2 hclX7 (by decide) wd_541 wd_543 wp_2 wd_1 wd_544 rfl (by decide) ⟨rfl, hy_X7_sheetAt⟩ rfl, mo_cv⟩ (
  And.intro ⟨ok_nop, mo_nop⟩ (
  And.intro ⟨ok_nop, mo_nop⟩ (
  And.intro ⟨ok_astore dX7_sheet_5 (by decide) rfl, mo_astore⟩ (
  And.intro ⟨ok_nop, mo_nop⟩ (
  And.intro ⟨ok_aload dX7_sheet_7 rfl, mo_aload⟩ (
  And.intro ⟨ok_nop, mo_nop⟩ (
  And.intro ⟨ok_ifnull dX7_sheet_9 (by decide) rfl, mo_null⟩ (
  And.intro ⟨ok_nop, mo_nop⟩ (
  And.intro ⟨ok_nop, mo_nop⟩ (
  And.intro ⟨ok_iload_n dX7_sheet_12 rfl rfl, mo_iload⟩ (
  And.intro ⟨ok_iconst dX7_sheet_13 rfl ic_m1, mo_push⟩ (
  And.intro ⟨ok_icmp_lt dX7_sheet_14 (by decide) rfl, mo_icmp⟩ (
  And.intro ⟨ok_nop, mo_nop⟩ (
  trivial))))))))))))))))
theorem rX7_sheet_1 : am_allR (fun pc o => am_ok am_tb0 cX7_sheet RX7 5 (some .int) false pc o ∧ am_mo o) 16 (am_nth [] tX7_sheet 1) :=
  And.intro ⟨ok_nop, mo_nop⟩ (
  And.intro ⟨ok_iload_n dX7_sheet_17 rfl rfl, mo_iload⟩ (
  And.intro ⟨ok_iconst dX7_sheet_18 rfl ic_1, mo_push⟩ (
  And.intro ⟨ok_icmp_le dX7_sheet_19 (by decide) rfl, mo_icmp⟩ (
  And.intro ⟨ok_nop, mo_nop⟩ (
  And.intro ⟨ok_nop, mo_nop⟩ (
  And.intro ⟨ok_ldc dX7_sheet_22 rfl wd_278, mo_push⟩ (
  And.intro ⟨ok_nop, mo_nop⟩ (
  And.intro ⟨ok_iret dX7_sheet_24 rfl, mo_iret⟩ (
  And.intro ⟨ok_iload_n dX7_sheet_25 rfl rfl, mo_iload⟩ (
  And.intro ⟨ok_iconst dX7_sheet_26 rfl ic_m1, mo_push⟩ (
  And.intro ⟨ok_icmp_ne dX7_sheet_27 (by decide) rfl, mo_icmp⟩ (
  And.intro ⟨ok_nop, mo_nop⟩ (
  And.intro ⟨ok_nop, mo_nop⟩ (
  And.intro ⟨ok_aload dX7_sheet_30 rfl, mo_aload⟩ (
  And.intro ⟨ok_nop, mo_nop⟩ (
  trivial))))))))))))))))
theorem rX7_sheet_2 : am_allR (fun pc o => am_ok am_tb0 cX7_sheet RX7 5 (some .int) false pc o ∧ am_mo o) 32 (am_nth [] tX7_sheet 2) :=
  And.intro ⟨ok_iconst dX7_sheet_32 rfl ic_m1, mo_push⟩ (
  And.intro ⟨ok_iconst dX7_sheet_33 rfl ic_0, mo_push⟩ (
  And.intro ⟨ok_cv (z := 34) dX7_sheet_34 hclX3 (by decide) wd_806 wd_807 wd_808 wd_6 wd_809 rfl (by decide) ⟨rfl, hy_X3_clear⟩ rfl, mo_cv⟩ (
  And.intro ⟨ok_nop, mo_nop⟩ (
  And.intro ⟨ok_nop, mo_nop⟩ (
  And.intro ⟨ok_iconst dX7_sheet_37 rfl ic_0, mo_push⟩ (
  And.intro ⟨ok_iret dX7_sheet_38 rfl, mo_iret⟩ (
  And.intro ⟨ok_iload_n dX7_sheet_39 rfl rfl, mo_iload⟩ (
  And.intro ⟨ok_bipush dX7_sheet_40 rfl bi_24, mo_push⟩ (
  And.intro ⟨ok_nop, mo_nop⟩ (
  And.intro ⟨ok_icmp_le dX7_sheet_42 (by decide) rfl, mo_icmp⟩ (
  And.intro ⟨ok_nop, mo_nop⟩ (
  And.intro ⟨ok_nop, mo_nop⟩ (
  And.intro ⟨ok_ldc dX7_sheet_45 rfl wd_278, mo_push⟩ (
  And.intro ⟨ok_nop, mo_nop⟩ (
  And.intro ⟨ok_iret dX7_sheet_47 rfl, mo_iret⟩ (
  trivial))))))))))))))))
theorem rX7_sheet_3 : am_allR (fun pc o => am_ok am_tb0 cX7_sheet RX7 5 (some .int) false pc o ∧ am_mo o) 48 (am_nth [] tX7_sheet 3) :=
  And.intro ⟨ok_iload_n dX7_sheet_48 rfl rfl, mo_iload⟩ (
  And.intro ⟨ok_if_ge dX7_sheet_49 (by decide) rfl, mo_if⟩ (
  And.intro ⟨ok_nop, mo_nop⟩ (
  And.intro ⟨ok_nop, mo_nop⟩ (
  And.intro ⟨ok_ldc dX7_sheet_52 rfl wd_811, mo_push⟩ (
  And.intro ⟨ok_nop, mo_nop⟩ (
  And.intro ⟨ok_iret dX7_sheet_54 rfl, mo_iret⟩ (
  And.intro ⟨ok_aload dX7_sheet_55 rfl, mo_aload⟩ (
  And.intro ⟨ok_nop, mo_nop⟩ (
  And.intro ⟨ok_iload_n dX7_sheet_57 rfl rfl, mo_iload⟩ (
  And.intro ⟨ok_iload_n dX7_sheet_58 rfl rfl, mo_iload⟩ (
  And.intro ⟨ok_cv (z := 34) dX7_sheet_59 hclX3 (by decide) wd_806 wd_807 wd_808 wd_6 wd_809 rfl (by decide) ⟨rfl, hy_X3_clear⟩ rfl, mo_cv⟩ (
  And.intro ⟨ok_nop, mo_nop⟩ (
  And.intro ⟨ok_nop, mo_nop⟩ (
  And.intro ⟨ok_iload_n dX7_sheet_62 rfl rfl, mo_iload⟩ (
  And.intro ⟨ok_iret dX7_sheet_63 rfl, mo_iret⟩ (
  trivial))))))))))))))))
theorem kX7_sheet : am_M1 am_tb0 cX7_sheet RX7 5 (some .int) false tX7_sheet := And.intro rX7_sheet_0 (And.intro rX7_sheet_1 (And.intro rX7_sheet_2 (And.intro rX7_sheet_3 (trivial))))
def tX7_mark : List (List am_Op) := [[o_aload 0 1, o_iload 1 2, o_cv 7 11 110 2 1 1 5, am_nop, am_nop, o_astore 4 7, am_nop, o_aload 4 9, am_nop, o_null 12 15, am_nop, am_nop, o_push (.int (-1000000001)) 14, am_nop, o_iret, o_aload 4 17],
  [am_nop, o_getI 3 3 0 20, am_nop, am_nop, o_push (.int (-1)) 21, o_icmp (fun x y => ¬ x = y) 27 24, am_nop, am_nop, o_push (.int (-1000000011)) 26, am_nop, o_iret, o_aload 4 29, am_nop, o_iload 2 30, o_cv 3 3 36 2 0 1 33, am_nop],
  [am_nop, o_if (fun x => ¬ x = 0) 40 36, am_nop, am_nop, o_push (.int (-1000000013)) 39, am_nop, am_nop, o_iret, o_aload 4 42, am_nop, o_getI 3 3 0 45, am_nop, am_nop, o_if (fun x => ¬ x = 0) 68 48, am_nop, am_nop],
  [o_iload 3 49, o_push (.int (-1000000005)) 51, am_nop, o_icmp (fun x y => ¬ x = y) 57 54, am_nop, am_nop, o_push (.int (-1000000012)) 56, am_nop, o_iret, o_aload 4 59, am_nop, o_getR 3 3 2 62, am_nop, am_nop, o_iload 2 63, o_iload 3 64],
  [o_un (fun x => x.toInt16.toInt32) 65, o_iast 66, o_push (.int 1) 67, o_iret, o_iload 3 69, o_push (.int (-1000000005)) 71, am_nop, o_icmp (fun x y => x = y) 91 74, am_nop, am_nop, o_iload 3 75, o_push (.int (-99999)) 78, am_nop, am_nop, o_icmp (fun x y => x < y) 88 81, am_nop],
  [am_nop, o_iload 3 82, o_push (.int 99999) 85, am_nop, am_nop, o_icmp (fun x y => x ≤ y) 91 88, am_nop, am_nop, o_push (.int (-1000000001)) 90, am_nop, o_iret, o_aload 4 93, am_nop, o_getR 3 3 2 96, am_nop, am_nop],
  [o_iload 2 97, o_iload 3 98, o_iast 99, o_push (.int 1) 100, o_iret, am_nop, am_nop, am_nop, am_nop, am_nop, am_nop, am_nop, am_nop, am_nop, am_nop, am_nop]]
theorem rX7_mark_0 : am_allR (fun pc o => am_ok am_tb0 cX7_mark RX7 5 (some .int) false pc o ∧ am_mo o) 0 (am_nth [] tX7_mark 0) :=
  And.intro ⟨ok_aload_n dX7_mark_0 rfl rfl, mo_aload⟩ (
  And.intro ⟨ok_iload_n dX7_mark_1 rfl rfl, mo_iload⟩ (
  And.intro ⟨ok_cv (z := 110) dX7_mark_2 hclX7 (by decide) wd_541 wd_543 wp_2 wd_1 wd_544 rfl (by decide) ⟨rfl, hy_X7_sheetAt⟩ rfl, mo_cv⟩ (
  And.intro ⟨ok_nop, mo_nop⟩ (
  And.intro ⟨ok_nop, mo_nop⟩ (
  And.intro ⟨ok_astore dX7_mark_5 (by decide) rfl, mo_astore⟩ (
  And.intro ⟨ok_nop, mo_nop⟩ (
  And.intro ⟨ok_aload dX7_mark_7 rfl, mo_aload⟩ (
  And.intro ⟨ok_nop, mo_nop⟩ (
  And.intro ⟨ok_ifnonnull dX7_mark_9 (by decide) rfl, mo_null⟩ (
  And.intro ⟨ok_nop, mo_nop⟩ (
  And.intro ⟨ok_nop, mo_nop⟩ (
  And.intro ⟨ok_ldc dX7_mark_12 rfl wd_278, mo_push⟩ (
  And.intro ⟨ok_nop, mo_nop⟩ (
  And.intro ⟨ok_iret dX7_mark_14 rfl, mo_iret⟩ (
  And.intro ⟨ok_aload dX7_mark_15 rfl, mo_aload⟩ (
  trivial))))))))))))))))
theorem rX7_mark_1 : am_allR (fun pc o => am_ok am_tb0 cX7_mark RX7 5 (some .int) false pc o ∧ am_mo o) 16 (am_nth [] tX7_mark 1) :=
  And.intro ⟨ok_nop, mo_nop⟩ (
  And.intro ⟨ok_getIN dX7_mark_17 hclX3 inWX3 (by decide) (by decide) wn_199 (fun _ _ _ => rfl) rfl, mo_getI⟩ (
  And.intro ⟨ok_nop, mo_nop⟩ (
  And.intro ⟨ok_nop, mo_nop⟩ (
  And.intro ⟨ok_iconst dX7_mark_20 rfl ic_m1, mo_push⟩ (
  And.intro ⟨ok_icmp_ne dX7_mark_21 (by decide) rfl, mo_icmp⟩ (
  And.intro ⟨ok_nop, mo_nop⟩ (
  And.intro ⟨ok_nop, mo_nop⟩ (
  And.intro ⟨ok_ldc dX7_mark_24 rfl wd_545, mo_push⟩ (
  And.intro ⟨ok_nop, mo_nop⟩ (
  And.intro ⟨ok_iret dX7_mark_26 rfl, mo_iret⟩ (
  And.intro ⟨ok_aload dX7_mark_27 rfl, mo_aload⟩ (
  And.intro ⟨ok_nop, mo_nop⟩ (
  And.intro ⟨ok_iload_n dX7_mark_29 rfl rfl, mo_iload⟩ (
  And.intro ⟨ok_cv (z := 36) dX7_mark_30 hclX3 (by decide) wd_816 wd_558 wd_559 wd_6 wd_560 rfl (by decide) ⟨rfl, hy_X3_has⟩ rfl, mo_cv⟩ (
  And.intro ⟨ok_nop, mo_nop⟩ (
  trivial))))))))))))))))
theorem rX7_mark_2 : am_allR (fun pc o => am_ok am_tb0 cX7_mark RX7 5 (some .int) false pc o ∧ am_mo o) 32 (am_nth [] tX7_mark 2) :=
  And.intro ⟨ok_nop, mo_nop⟩ (
  And.intro ⟨ok_if_ne dX7_mark_33 (by decide) rfl, mo_if⟩ (
  And.intro ⟨ok_nop, mo_nop⟩ (
  And.intro ⟨ok_nop, mo_nop⟩ (
  And.intro ⟨ok_ldcw dX7_mark_36 rfl wd_817, mo_push⟩ (
  And.intro ⟨ok_nop, mo_nop⟩ (
  And.intro ⟨ok_nop, mo_nop⟩ (
  And.intro ⟨ok_iret dX7_mark_39 rfl, mo_iret⟩ (
  And.intro ⟨ok_aload dX7_mark_40 rfl, mo_aload⟩ (
  And.intro ⟨ok_nop, mo_nop⟩ (
  And.intro ⟨ok_getIN dX7_mark_42 hclX3 inWX3 (by decide) (by decide) wn_199 (fun _ _ _ => rfl) rfl, mo_getI⟩ (
  And.intro ⟨ok_nop, mo_nop⟩ (
  And.intro ⟨ok_nop, mo_nop⟩ (
  And.intro ⟨ok_if_ne dX7_mark_45 (by decide) rfl, mo_if⟩ (
  And.intro ⟨ok_nop, mo_nop⟩ (
  And.intro ⟨ok_nop, mo_nop⟩ (
  trivial))))))))))))))))
theorem rX7_mark_3 : am_allR (fun pc o => am_ok am_tb0 cX7_mark RX7 5 (some .int) false pc o ∧ am_mo o) 48 (am_nth [] tX7_mark 3) :=
  And.intro ⟨ok_iload_n dX7_mark_48 rfl rfl, mo_iload⟩ (
  And.intro ⟨ok_ldc dX7_mark_49 rfl wd_483, mo_push⟩ (
  And.intro ⟨ok_nop, mo_nop⟩ (
  And.intro ⟨ok_icmp_ne dX7_mark_51 (by decide) rfl, mo_icmp⟩ (
  And.intro ⟨ok_nop, mo_nop⟩ (
  And.intro ⟨ok_nop, mo_nop⟩ (
  And.intro ⟨ok_ldc dX7_mark_54 rfl wd_315, mo_push⟩ (
  And.intro ⟨ok_nop, mo_nop⟩ (
  And.intro ⟨ok_iret dX7_mark_56 rfl, mo_iret⟩ (
  And.intro ⟨ok_aload dX7_mark_57 rfl, mo_aload⟩ (
  And.intro ⟨ok_nop, mo_nop⟩ (
  And.intro ⟨ok_getRN dX7_mark_59 hclX3 inWX3 (by decide) (by decide) wn_203 (fun _ _ _ => rfl) rfl, mo_getR⟩ (
  And.intro ⟨ok_nop, mo_nop⟩ (
  And.intro ⟨ok_nop, mo_nop⟩ (
  And.intro ⟨ok_iload_n dX7_mark_62 rfl rfl, mo_iload⟩ (
  And.intro ⟨ok_iload_n dX7_mark_63 rfl rfl, mo_iload⟩ (
  trivial))))))))))))))))
theorem rX7_mark_4 : am_allR (fun pc o => am_ok am_tb0 cX7_mark RX7 5 (some .int) false pc o ∧ am_mo o) 64 (am_nth [] tX7_mark 4) :=
  And.intro ⟨ok_i2s dX7_mark_64 rfl, mo_un⟩ (
  And.intro ⟨ok_iast dX7_mark_65 rfl, mo_iast⟩ (
  And.intro ⟨ok_iconst dX7_mark_66 rfl ic_1, mo_push⟩ (
  And.intro ⟨ok_iret dX7_mark_67 rfl, mo_iret⟩ (
  And.intro ⟨ok_iload_n dX7_mark_68 rfl rfl, mo_iload⟩ (
  And.intro ⟨ok_ldc dX7_mark_69 rfl wd_483, mo_push⟩ (
  And.intro ⟨ok_nop, mo_nop⟩ (
  And.intro ⟨ok_icmp_eq dX7_mark_71 (by decide) rfl, mo_icmp⟩ (
  And.intro ⟨ok_nop, mo_nop⟩ (
  And.intro ⟨ok_nop, mo_nop⟩ (
  And.intro ⟨ok_iload_n dX7_mark_74 rfl rfl, mo_iload⟩ (
  And.intro ⟨ok_ldcw dX7_mark_75 rfl wd_818, mo_push⟩ (
  And.intro ⟨ok_nop, mo_nop⟩ (
  And.intro ⟨ok_nop, mo_nop⟩ (
  And.intro ⟨ok_icmp_lt dX7_mark_78 (by decide) rfl, mo_icmp⟩ (
  And.intro ⟨ok_nop, mo_nop⟩ (
  trivial))))))))))))))))
theorem rX7_mark_5 : am_allR (fun pc o => am_ok am_tb0 cX7_mark RX7 5 (some .int) false pc o ∧ am_mo o) 80 (am_nth [] tX7_mark 5) :=
  And.intro ⟨ok_nop, mo_nop⟩ (
  And.intro ⟨ok_iload_n dX7_mark_81 rfl rfl, mo_iload⟩ (
  And.intro ⟨ok_ldcw dX7_mark_82 rfl wd_819, mo_push⟩ (
  And.intro ⟨ok_nop, mo_nop⟩ (
  And.intro ⟨ok_nop, mo_nop⟩ (
  And.intro ⟨ok_icmp_le dX7_mark_85 (by decide) rfl, mo_icmp⟩ (
  And.intro ⟨ok_nop, mo_nop⟩ (
  And.intro ⟨ok_nop, mo_nop⟩ (
  And.intro ⟨ok_ldc dX7_mark_88 rfl wd_278, mo_push⟩ (
  And.intro ⟨ok_nop, mo_nop⟩ (
  And.intro ⟨ok_iret dX7_mark_90 rfl, mo_iret⟩ (
  And.intro ⟨ok_aload dX7_mark_91 rfl, mo_aload⟩ (
  And.intro ⟨ok_nop, mo_nop⟩ (
  And.intro ⟨ok_getRN dX7_mark_93 hclX3 inWX3 (by decide) (by decide) wn_203 (fun _ _ _ => rfl) rfl, mo_getR⟩ (
  And.intro ⟨ok_nop, mo_nop⟩ (
  And.intro ⟨ok_nop, mo_nop⟩ (
  trivial))))))))))))))))
theorem rX7_mark_6 : am_allR (fun pc o => am_ok am_tb0 cX7_mark RX7 5 (some .int) false pc o ∧ am_mo o) 96 (am_nth [] tX7_mark 6) :=
  And.intro ⟨ok_iload_n dX7_mark_96 rfl rfl, mo_iload⟩ (
  And.intro ⟨ok_iload_n dX7_mark_97 rfl rfl, mo_iload⟩ (
  And.intro ⟨ok_iast dX7_mark_98 rfl, mo_iast⟩ (
  And.intro ⟨ok_iconst dX7_mark_99 rfl ic_1, mo_push⟩ (
  And.intro ⟨ok_iret dX7_mark_100 rfl, mo_iret⟩ (
  And.intro ⟨ok_nop, mo_nop⟩ (
  And.intro ⟨ok_nop, mo_nop⟩ (
  And.intro ⟨ok_nop, mo_nop⟩ (
  And.intro ⟨ok_nop, mo_nop⟩ (
  And.intro ⟨ok_nop, mo_nop⟩ (
  And.intro ⟨ok_nop, mo_nop⟩ (
  And.intro ⟨ok_nop, mo_nop⟩ (
  And.intro ⟨ok_nop, mo_nop⟩ (
  And.intro ⟨ok_nop, mo_nop⟩ (
  And.intro ⟨ok_nop, mo_nop⟩ (
  And.intro ⟨ok_nop, mo_nop⟩ (
  trivial))))))))))))))))
theorem kX7_mark : am_M1 am_tb0 cX7_mark RX7 5 (some .int) false tX7_mark := And.intro rX7_mark_0 (And.intro rX7_mark_1 (And.intro rX7_mark_2 (And.intro rX7_mark_3 (And.intro rX7_mark_4 (And.intro rX7_mark_5 (And.intro rX7_mark_6 (trivial)))))))
def tX7_pour : List (List am_Op) := [[o_aload 0 1, o_iload 1 2, o_cv 7 11 110 2 1 1 5, am_nop, am_nop, o_astore 2 6, o_aload 2 7, o_null 10 13, am_nop, am_nop, o_push (.int (-1000000001)) 12, am_nop, o_iret, o_aload 2 14, o_getI 3 3 0 17, am_nop],
  [am_nop, o_push (.int (-1)) 18, o_icmp (fun x y => ¬ x = y) 24 21, am_nop, am_nop, o_push (.int (-1000000011)) 23, am_nop, o_iret, o_push (.int 0) 25, o_istore 3 26, o_push (.int 0) 27, o_istore 4 29, am_nop, o_iload 4 31, am_nop, o_aload 0 32],
  [o_getR 7 11 0 35, am_nop, am_nop, o_getI 2 14 1 38, am_nop, am_nop, o_icmp (fun x y => y ≤ x) 110 41, am_nop, am_nop, o_aload 0 42, o_getR 7 11 0 45, am_nop, am_nop, o_getR 2 14 0 48, am_nop, am_nop],
  [o_iload 4 50, am_nop, o_aald 31 51, o_astore 5 53, am_nop, o_aload 2 54, o_iload 4 56, am_nop, o_cv 3 3 38 2 1 1 59, am_nop, am_nop, o_if (fun x => x = 0) 77 62, am_nop, am_nop, o_aload 2 63, o_getR 3 3 2 66],
  [am_nop, am_nop, o_iload 4 68, am_nop, o_iald 20 69, o_push (.int 99) 71, am_nop, o_cs 107 2 0 2 74, am_nop, am_nop, o_goto 82, am_nop, am_nop, o_aload 5 79, am_nop, o_getI 1 5 2 82],
  [am_nop, am_nop, o_istore 6 84, am_nop, o_iload 6 86, am_nop, o_aload 5 88, am_nop, o_getI 1 5 2 91, am_nop, am_nop, o_icmp (fun x y => x = y) 97 94, am_nop, am_nop, o_iinc 3 1 97, am_nop],
  [am_nop, o_aload 5 99, am_nop, o_iload 6 101, am_nop, o_putI 1 5 2 104, am_nop, am_nop, o_iinc 4 1 107, am_nop, am_nop, o_goto 29, am_nop, am_nop, o_iload 3 111, o_iret]]
theorem rX7_pour_0 : am_allR (fun pc o => am_ok am_tb0 cX7_pour RX7 7 (some .int) false pc o ∧ am_mo o) 0 (am_nth [] tX7_pour 0) :=
  And.intro ⟨ok_aload_n dX7_pour_0 rfl rfl, mo_aload⟩ (
  And.intro ⟨ok_iload_n dX7_pour_1 rfl rfl, mo_iload⟩ (
  And.intro ⟨ok_cv (z := 110) dX7_pour_2 hclX7 (by decide) wd_541 wd_543 wp_2 wd_1 wd_544 rfl (by decide) ⟨rfl, hy_X7_sheetAt⟩ rfl, mo_cv⟩ (
  And.intro ⟨ok_nop, mo_nop⟩ (
  And.intro ⟨ok_nop, mo_nop⟩ (
  And.intro ⟨ok_astore_n dX7_pour_5 rfl (by decide) rfl, mo_astore⟩ (
  And.intro ⟨ok_aload_n dX7_pour_6 rfl rfl, mo_aload⟩ (
  And.intro ⟨ok_ifnonnull dX7_pour_7 (by decide) rfl, mo_null⟩ (
  And.intro ⟨ok_nop, mo_nop⟩ (
  And.intro ⟨ok_nop, mo_nop⟩ (
  And.intro ⟨ok_ldc dX7_pour_10 rfl wd_278, mo_push⟩ (
  And.intro ⟨ok_nop, mo_nop⟩ (
  And.intro ⟨ok_iret dX7_pour_12 rfl, mo_iret⟩ (
  And.intro ⟨ok_aload_n dX7_pour_13 rfl rfl, mo_aload⟩ (
  And.intro ⟨ok_getIN dX7_pour_14 hclX3 inWX3 (by decide) (by decide) wn_199 (fun _ _ _ => rfl) rfl, mo_getI⟩ (
  And.intro ⟨ok_nop, mo_nop⟩ (
  trivial))))))))))))))))
theorem rX7_pour_1 : am_allR (fun pc o => am_ok am_tb0 cX7_pour RX7 7 (some .int) false pc o ∧ am_mo o) 16 (am_nth [] tX7_pour 1) :=
  And.intro ⟨ok_nop, mo_nop⟩ (
  And.intro ⟨ok_iconst dX7_pour_17 rfl ic_m1, mo_push⟩ (
  And.intro ⟨ok_icmp_ne dX7_pour_18 (by decide) rfl, mo_icmp⟩ (
  And.intro ⟨ok_nop, mo_nop⟩ (
  And.intro ⟨ok_nop, mo_nop⟩ (
  And.intro ⟨ok_ldc dX7_pour_21 rfl wd_545, mo_push⟩ (
  And.intro ⟨ok_nop, mo_nop⟩ (
  And.intro ⟨ok_iret dX7_pour_23 rfl, mo_iret⟩ (
  And.intro ⟨ok_iconst dX7_pour_24 rfl ic_0, mo_push⟩ (
  And.intro ⟨ok_istore_n dX7_pour_25 rfl (by decide) rfl, mo_istore⟩ (
  And.intro ⟨ok_iconst dX7_pour_26 rfl ic_0, mo_push⟩ (
  And.intro ⟨ok_istore dX7_pour_27 (by decide) rfl, mo_istore⟩ (
  And.intro ⟨ok_nop, mo_nop⟩ (
  And.intro ⟨ok_iload dX7_pour_29 rfl, mo_iload⟩ (
  And.intro ⟨ok_nop, mo_nop⟩ (
  And.intro ⟨ok_aload_n dX7_pour_31 rfl rfl, mo_aload⟩ (
  trivial))))))))))))))))
theorem rX7_pour_2 : am_allR (fun pc o => am_ok am_tb0 cX7_pour RX7 7 (some .int) false pc o ∧ am_mo o) 32 (am_nth [] tX7_pour 2) :=
  And.intro ⟨ok_getR dX7_pour_32 hclX7 inWX7 (by decide) (by decide) wd_237 (fun _ _ _ => rfl) rfl, mo_getR⟩ (
  And.intro ⟨ok_nop, mo_nop⟩ (
  And.intro ⟨ok_nop, mo_nop⟩ (
  And.intro ⟨ok_getIN dX7_pour_35 hclX2 inWX2 (by decide) (by decide) wn_70 (fun _ _ _ => rfl) rfl, mo_getI⟩ (
  And.intro ⟨ok_nop, mo_nop⟩ (
  And.intro ⟨ok_nop, mo_nop⟩ (
  And.intro ⟨ok_icmp_ge dX7_pour_38 (by decide) rfl, mo_icmp⟩ (
  And.intro ⟨ok_nop, mo_nop⟩ (
  And.intro ⟨ok_nop, mo_nop⟩ (
  And.intro ⟨ok_aload_n dX7_pour_41 rfl rfl, mo_aload⟩ (
  And.intro ⟨ok_getR dX7_pour_42 hclX7 inWX7 (by decide) (by decide) wd_237 (fun _ _ _ => rfl) rfl, mo_getR⟩ (
  And.intro ⟨ok_nop, mo_nop⟩ (
  And.intro ⟨ok_nop, mo_nop⟩ (
  And.intro ⟨ok_getRN dX7_pour_45 hclX2 inWX2 (by decide) (by decide) wn_68 (fun _ _ _ => rfl) rfl, mo_getR⟩ (
  And.intro ⟨ok_nop, mo_nop⟩ (
  And.intro ⟨ok_nop, mo_nop⟩ (
  trivial))))))))))))))))
theorem rX7_pour_3 : am_allR (fun pc o => am_ok am_tb0 cX7_pour RX7 7 (some .int) false pc o ∧ am_mo o) 48 (am_nth [] tX7_pour 3) :=
  And.intro ⟨ok_iload dX7_pour_48 rfl, mo_iload⟩ (
  And.intro ⟨ok_nop, mo_nop⟩ (
  And.intro ⟨ok_aald (ci := 1) dX7_pour_50 (by decide) rfl rfl, mo_aald⟩ (
  And.intro ⟨ok_astore dX7_pour_51 (by decide) rfl, mo_astore⟩ (
  And.intro ⟨ok_nop, mo_nop⟩ (
  And.intro ⟨ok_aload_n dX7_pour_53 rfl rfl, mo_aload⟩ (
  And.intro ⟨ok_iload dX7_pour_54 rfl, mo_iload⟩ (
  And.intro ⟨ok_nop, mo_nop⟩ (
  And.intro ⟨ok_cv (z := 38) dX7_pour_56 hclX3 (by decide) wd_553 wd_554 wd_555 wd_6 wd_556 rfl (by decide) ⟨rfl, hy_X3_isNumber⟩ rfl, mo_cv⟩ (
  And.intro ⟨ok_nop, mo_nop⟩ (
  And.intro ⟨ok_nop, mo_nop⟩ (
  And.intro ⟨ok_if_eq dX7_pour_59 (by decide) rfl, mo_if⟩ (
  And.intro ⟨ok_nop, mo_nop⟩ (
  And.intro ⟨ok_nop, mo_nop⟩ (
  And.intro ⟨ok_aload_n dX7_pour_62 rfl rfl, mo_aload⟩ (
  And.intro ⟨ok_getRN dX7_pour_63 hclX3 inWX3 (by decide) (by decide) wn_203 (fun _ _ _ => rfl) rfl, mo_getR⟩ (
  trivial))))))))))))))))
theorem rX7_pour_4 : am_allR (fun pc o => am_ok am_tb0 cX7_pour RX7 7 (some .int) false pc o ∧ am_mo o) 64 (am_nth [] tX7_pour 4) :=
  And.intro ⟨ok_nop, mo_nop⟩ (
  And.intro ⟨ok_nop, mo_nop⟩ (
  And.intro ⟨ok_iload dX7_pour_66 rfl, mo_iload⟩ (
  And.intro ⟨ok_nop, mo_nop⟩ (
  And.intro ⟨ok_iald dX7_pour_68 rfl, mo_iald⟩ (
  And.intro ⟨ok_bipush dX7_pour_69 rfl bi_99, mo_push⟩ (
  And.intro ⟨ok_nop, mo_nop⟩ (
  And.intro ⟨ok_cs (z := 107) dX7_pour_71 wd_824 wd_362 wd_1 wd_363 rfl (by decide) hy_X7_held rfl, mo_cs⟩ (
  And.intro ⟨ok_nop, mo_nop⟩ (
  And.intro ⟨ok_nop, mo_nop⟩ (
  And.intro ⟨ok_goto dX7_pour_74 (by decide), mo_goto⟩ (
  And.intro ⟨ok_nop, mo_nop⟩ (
  And.intro ⟨ok_nop, mo_nop⟩ (
  And.intro ⟨ok_aload dX7_pour_77 rfl, mo_aload⟩ (
  And.intro ⟨ok_nop, mo_nop⟩ (
  And.intro ⟨ok_getIN dX7_pour_79 hclX1 inWX1 (by decide) (by decide) wn_48 (fun _ _ _ => rfl) rfl, mo_getI⟩ (
  trivial))))))))))))))))
theorem rX7_pour_5 : am_allR (fun pc o => am_ok am_tb0 cX7_pour RX7 7 (some .int) false pc o ∧ am_mo o) 80 (am_nth [] tX7_pour 5) :=
  And.intro ⟨ok_nop, mo_nop⟩ (
  And.intro ⟨ok_nop, mo_nop⟩ (
  And.intro ⟨ok_istore dX7_pour_82 (by decide) rfl, mo_istore⟩ (
  And.intro ⟨ok_nop, mo_nop⟩ (
  And.intro ⟨ok_iload dX7_pour_84 rfl, mo_iload⟩ (
  And.intro ⟨ok_nop, mo_nop⟩ (
  And.intro ⟨ok_aload dX7_pour_86 rfl, mo_aload⟩ (
  And.intro ⟨ok_nop, mo_nop⟩ (
  And.intro ⟨ok_getIN dX7_pour_88 hclX1 inWX1 (by decide) (by decide) wn_48 (fun _ _ _ => rfl) rfl, mo_getI⟩ (
  And.intro ⟨ok_nop, mo_nop⟩ (
  And.intro ⟨ok_nop, mo_nop⟩ (
  And.intro ⟨ok_icmp_eq dX7_pour_91 (by decide) rfl, mo_icmp⟩ (
  And.intro ⟨ok_nop, mo_nop⟩ (
  And.intro ⟨ok_nop, mo_nop⟩ (
  And.intro ⟨ok_iinc dX7_pour_94 ic_1 (by decide) rfl, mo_iinc⟩ (
  And.intro ⟨ok_nop, mo_nop⟩ (
  trivial))))))))))))))))
theorem rX7_pour_6 : am_allR (fun pc o => am_ok am_tb0 cX7_pour RX7 7 (some .int) false pc o ∧ am_mo o) 96 (am_nth [] tX7_pour 6) :=
  And.intro ⟨ok_nop, mo_nop⟩ (
  And.intro ⟨ok_aload dX7_pour_97 rfl, mo_aload⟩ (
  And.intro ⟨ok_nop, mo_nop⟩ (
  And.intro ⟨ok_iload dX7_pour_99 rfl, mo_iload⟩ (
  And.intro ⟨ok_nop, mo_nop⟩ (
  And.intro ⟨ok_putIN dX7_pour_101 hclX1 inWX1 tyX1_ok nmX1 (by decide) (by decide) wn_48 rfl (tyX1_ok 2 (by decide)) (fun _ _ _ => rfl) rfl, mo_putI⟩ (
  And.intro ⟨ok_nop, mo_nop⟩ (
  And.intro ⟨ok_nop, mo_nop⟩ (
  And.intro ⟨ok_iinc dX7_pour_104 ic_1 (by decide) rfl, mo_iinc⟩ (
  And.intro ⟨ok_nop, mo_nop⟩ (
  And.intro ⟨ok_nop, mo_nop⟩ (
  And.intro ⟨ok_goto dX7_pour_107 (by decide), mo_goto⟩ (
  And.intro ⟨ok_nop, mo_nop⟩ (
  And.intro ⟨ok_nop, mo_nop⟩ (
  And.intro ⟨ok_iload_n dX7_pour_110 rfl rfl, mo_iload⟩ (
  And.intro ⟨ok_iret dX7_pour_111 rfl, mo_iret⟩ (
  trivial))))))))))))))))
theorem kX7_pour : am_M1 am_tb0 cX7_pour RX7 7 (some .int) false tX7_pour := And.intro rX7_pour_0 (And.intro rX7_pour_1 (And.intro rX7_pour_2 (And.intro rX7_pour_3 (And.intro rX7_pour_4 (And.intro rX7_pour_5 (And.intro rX7_pour_6 (trivial)))))))
def tX7_reads : List (List am_Op) := [[o_aload 0 1, o_iload 1 2, o_cv 7 11 110 2 1 1 5, am_nop, am_nop, o_astore 2 6, o_aload 2 7, o_null 10 13, am_nop, am_nop, o_push (.int (-1000000001)) 12, am_nop, o_iret, o_aload 2 14, o_getI 3 3 0 17, am_nop],
  [am_nop, o_push (.int (-1)) 18, o_icmp (fun x y => ¬ x = y) 24 21, am_nop, am_nop, o_push (.int (-1000000011)) 23, am_nop, o_iret, o_push (.int 0) 25, o_istore 3 26, o_iload 3 27, o_aload 2 28, o_getI 3 3 1 31, am_nop, am_nop, o_icmp (fun x y => y ≤ x) 79 34],
  [am_nop, am_nop, o_aload 0 35, o_getR 7 11 0 38, am_nop, am_nop, o_iload 3 39, o_cv 2 14 15 2 0 1 42, am_nop, am_nop, o_astore 4 44, am_nop, o_aload 2 45, o_iload 3 46, o_cv 3 3 38 2 1 1 49, am_nop],
  [am_nop, o_if (fun x => x = 0) 73 52, am_nop, am_nop, o_aload 4 54, am_nop, o_null 71 57, am_nop, am_nop, o_aload 4 59, am_nop, o_getI 1 5 2 62, am_nop, am_nop, o_aload 2 63, o_getR 3 3 2 66],
  [am_nop, am_nop, o_iload 3 67, o_iald 20 68, o_icmp (fun x y => x = y) 73 71, am_nop, am_nop, o_iload 3 72, o_iret, o_iinc 3 1 76, am_nop, am_nop, o_goto 26, am_nop, am_nop, o_push (.int (-1000000005)) 81],
  [am_nop, o_iret, am_nop, am_nop, am_nop, am_nop, am_nop, am_nop, am_nop, am_nop, am_nop, am_nop, am_nop, am_nop, am_nop, am_nop]]
theorem rX7_reads_0 : am_allR (fun pc o => am_ok am_tb0 cX7_reads RX7 5 (some .int) false pc o ∧ am_mo o) 0 (am_nth [] tX7_reads 0) :=
  And.intro ⟨ok_aload_n dX7_reads_0 rfl rfl, mo_aload⟩ (
  And.intro ⟨ok_iload_n dX7_reads_1 rfl rfl, mo_iload⟩ (
  And.intro ⟨ok_cv (z := 110) dX7_reads_2 hclX7 (by decide) wd_541 wd_543 wp_2 wd_1 wd_544 rfl (by decide) ⟨rfl, hy_X7_sheetAt⟩ rfl, mo_cv⟩ (
  And.intro ⟨ok_nop, mo_nop⟩ (
  And.intro ⟨ok_nop, mo_nop⟩ (
  And.intro ⟨ok_astore_n dX7_reads_5 rfl (by decide) rfl, mo_astore⟩ (
  And.intro ⟨ok_aload_n dX7_reads_6 rfl rfl, mo_aload⟩ (
  And.intro ⟨ok_ifnonnull dX7_reads_7 (by decide) rfl, mo_null⟩ (
  And.intro ⟨ok_nop, mo_nop⟩ (
  And.intro ⟨ok_nop, mo_nop⟩ (
  And.intro ⟨ok_ldc dX7_reads_10 rfl wd_278, mo_push⟩ (
  And.intro ⟨ok_nop, mo_nop⟩ (
  And.intro ⟨ok_iret dX7_reads_12 rfl, mo_iret⟩ (
  And.intro ⟨ok_aload_n dX7_reads_13 rfl rfl, mo_aload⟩ (
  And.intro ⟨ok_getIN dX7_reads_14 hclX3 inWX3 (by decide) (by decide) wn_199 (fun _ _ _ => rfl) rfl, mo_getI⟩ (
  And.intro ⟨ok_nop, mo_nop⟩ (
  trivial))))))))))))))))
theorem rX7_reads_1 : am_allR (fun pc o => am_ok am_tb0 cX7_reads RX7 5 (some .int) false pc o ∧ am_mo o) 16 (am_nth [] tX7_reads 1) :=
  And.intro ⟨ok_nop, mo_nop⟩ (
  And.intro ⟨ok_iconst dX7_reads_17 rfl ic_m1, mo_push⟩ (
  And.intro ⟨ok_icmp_ne dX7_reads_18 (by decide) rfl, mo_icmp⟩ (
  And.intro ⟨ok_nop, mo_nop⟩ (
  And.intro ⟨ok_nop, mo_nop⟩ (
  And.intro ⟨ok_ldc dX7_reads_21 rfl wd_545, mo_push⟩ (
  And.intro ⟨ok_nop, mo_nop⟩ (
  And.intro ⟨ok_iret dX7_reads_23 rfl, mo_iret⟩ (
  And.intro ⟨ok_iconst dX7_reads_24 rfl ic_0, mo_push⟩ (
  And.intro ⟨ok_istore_n dX7_reads_25 rfl (by decide) rfl, mo_istore⟩ (
  And.intro ⟨ok_iload_n dX7_reads_26 rfl rfl, mo_iload⟩ (
  And.intro ⟨ok_aload_n dX7_reads_27 rfl rfl, mo_aload⟩ (
  And.intro ⟨ok_getIN dX7_reads_28 hclX3 inWX3 (by decide) (by decide) wn_201 (fun _ _ _ => rfl) rfl, mo_getI⟩ (
  And.intro ⟨ok_nop, mo_nop⟩ (
  And.intro ⟨ok_nop, mo_nop⟩ (
  And.intro ⟨ok_icmp_ge dX7_reads_31 (by decide) rfl, mo_icmp⟩ (
  trivial))))))))))))))))
theorem rX7_reads_2 : am_allR (fun pc o => am_ok am_tb0 cX7_reads RX7 5 (some .int) false pc o ∧ am_mo o) 32 (am_nth [] tX7_reads 2) :=
  And.intro ⟨ok_nop, mo_nop⟩ (
  And.intro ⟨ok_nop, mo_nop⟩ (
  And.intro ⟨ok_aload_n dX7_reads_34 rfl rfl, mo_aload⟩ (
  And.intro ⟨ok_getR dX7_reads_35 hclX7 inWX7 (by decide) (by decide) wd_237 (fun _ _ _ => rfl) rfl, mo_getR⟩ (
  And.intro ⟨ok_nop, mo_nop⟩ (
  And.intro ⟨ok_nop, mo_nop⟩ (
  And.intro ⟨ok_iload_n dX7_reads_38 rfl rfl, mo_iload⟩ (
  And.intro ⟨ok_cv (z := 15) dX7_reads_39 hclX2 (by decide) wd_293 wd_294 wd_295 wd_2 wd_296 rfl (by decide) ⟨rfl, hy_X2_find⟩ rfl, mo_cv⟩ (
  And.intro ⟨ok_nop, mo_nop⟩ (
  And.intro ⟨ok_nop, mo_nop⟩ (
  And.intro ⟨ok_astore dX7_reads_42 (by decide) rfl, mo_astore⟩ (
  And.intro ⟨ok_nop, mo_nop⟩ (
  And.intro ⟨ok_aload_n dX7_reads_44 rfl rfl, mo_aload⟩ (
  And.intro ⟨ok_iload_n dX7_reads_45 rfl rfl, mo_iload⟩ (
  And.intro ⟨ok_cv (z := 38) dX7_reads_46 hclX3 (by decide) wd_553 wd_554 wd_555 wd_6 wd_556 rfl (by decide) ⟨rfl, hy_X3_isNumber⟩ rfl, mo_cv⟩ (
  And.intro ⟨ok_nop, mo_nop⟩ (
  trivial))))))))))))))))
theorem rX7_reads_3 : am_allR (fun pc o => am_ok am_tb0 cX7_reads RX7 5 (some .int) false pc o ∧ am_mo o) 48 (am_nth [] tX7_reads 3) :=
  And.intro ⟨ok_nop, mo_nop⟩ (
  And.intro ⟨ok_if_eq dX7_reads_49 (by decide) rfl, mo_if⟩ (
  And.intro ⟨ok_nop, mo_nop⟩ (
  And.intro ⟨ok_nop, mo_nop⟩ (
  And.intro ⟨ok_aload dX7_reads_52 rfl, mo_aload⟩ (
  And.intro ⟨ok_nop, mo_nop⟩ (
  And.intro ⟨ok_ifnull dX7_reads_54 (by decide) rfl, mo_null⟩ (
  And.intro ⟨ok_nop, mo_nop⟩ (
  And.intro ⟨ok_nop, mo_nop⟩ (
  And.intro ⟨ok_aload dX7_reads_57 rfl, mo_aload⟩ (
  And.intro ⟨ok_nop, mo_nop⟩ (
  And.intro ⟨ok_getIN dX7_reads_59 hclX1 inWX1 (by decide) (by decide) wn_48 (fun _ _ _ => rfl) rfl, mo_getI⟩ (
  And.intro ⟨ok_nop, mo_nop⟩ (
  And.intro ⟨ok_nop, mo_nop⟩ (
  And.intro ⟨ok_aload_n dX7_reads_62 rfl rfl, mo_aload⟩ (
  And.intro ⟨ok_getRN dX7_reads_63 hclX3 inWX3 (by decide) (by decide) wn_203 (fun _ _ _ => rfl) rfl, mo_getR⟩ (
  trivial))))))))))))))))
theorem rX7_reads_4 : am_allR (fun pc o => am_ok am_tb0 cX7_reads RX7 5 (some .int) false pc o ∧ am_mo o) 64 (am_nth [] tX7_reads 4) :=
  And.intro ⟨ok_nop, mo_nop⟩ (
  And.intro ⟨ok_nop, mo_nop⟩ (
  And.intro ⟨ok_iload_n dX7_reads_66 rfl rfl, mo_iload⟩ (
  And.intro ⟨ok_iald dX7_reads_67 rfl, mo_iald⟩ (
  And.intro ⟨ok_icmp_eq dX7_reads_68 (by decide) rfl, mo_icmp⟩ (
  And.intro ⟨ok_nop, mo_nop⟩ (
  And.intro ⟨ok_nop, mo_nop⟩ (
  And.intro ⟨ok_iload_n dX7_reads_71 rfl rfl, mo_iload⟩ (
  And.intro ⟨ok_iret dX7_reads_72 rfl, mo_iret⟩ (
  And.intro ⟨ok_iinc dX7_reads_73 ic_1 (by decide) rfl, mo_iinc⟩ (
  And.intro ⟨ok_nop, mo_nop⟩ (
  And.intro ⟨ok_nop, mo_nop⟩ (
  And.intro ⟨ok_goto dX7_reads_76 (by decide), mo_goto⟩ (
  And.intro ⟨ok_nop, mo_nop⟩ (
  And.intro ⟨ok_nop, mo_nop⟩ (
  And.intro ⟨ok_ldc dX7_reads_79 rfl wd_483, mo_push⟩ (
  trivial))))))))))))))))
theorem rX7_reads_5 : am_allR (fun pc o => am_ok am_tb0 cX7_reads RX7 5 (some .int) false pc o ∧ am_mo o) 80 (am_nth [] tX7_reads 5) :=
  And.intro ⟨ok_nop, mo_nop⟩ (
  And.intro ⟨ok_iret dX7_reads_81 rfl, mo_iret⟩ (
  And.intro ⟨ok_nop, mo_nop⟩ (
  And.intro ⟨ok_nop, mo_nop⟩ (
  And.intro ⟨ok_nop, mo_nop⟩ (
  And.intro ⟨ok_nop, mo_nop⟩ (
  And.intro ⟨ok_nop, mo_nop⟩ (
  And.intro ⟨ok_nop, mo_nop⟩ (
  And.intro ⟨ok_nop, mo_nop⟩ (
  And.intro ⟨ok_nop, mo_nop⟩ (
  And.intro ⟨ok_nop, mo_nop⟩ (
  And.intro ⟨ok_nop, mo_nop⟩ (
  And.intro ⟨ok_nop, mo_nop⟩ (
  And.intro ⟨ok_nop, mo_nop⟩ (
  And.intro ⟨ok_nop, mo_nop⟩ (
  And.intro ⟨ok_nop, mo_nop⟩ (
  trivial))))))))))))))))
theorem kX7_reads : am_M1 am_tb0 cX7_reads RX7 5 (some .int) false tX7_reads := And.intro rX7_reads_0 (And.intro rX7_reads_1 (And.intro rX7_reads_2 (And.intro rX7_reads_3 (And.intro rX7_reads_4 (And.intro rX7_reads_5 (trivial))))))
def tX7_copy : List (List am_Op) := [[o_aload 0 1, o_iload 1 2, o_cv 7 11 110 2 1 1 5, am_nop, am_nop, o_astore 6 7, am_nop, o_aload 0 8, o_iload 3 9, o_cv 7 11 110 2 1 1 12, am_nop, am_nop, o_astore 7 14, am_nop, o_aload 6 16, am_nop],
  [o_null 24 19, am_nop, am_nop, o_aload 7 21, am_nop, o_null 24 27, am_nop, am_nop, o_push (.int (-1000000001)) 26, am_nop, o_iret, o_aload 6 29, am_nop, o_getI 3 3 0 32, am_nop, am_nop],
  [o_push (.int (-1)) 33, o_icmp (fun x y => x = y) 45 36, am_nop, am_nop, o_aload 7 38, am_nop, o_getI 3 3 0 41, am_nop, am_nop, o_push (.int (-1)) 42, o_icmp (fun x y => ¬ x = y) 48 45, am_nop, am_nop, o_push (.int (-1000000011)) 47, am_nop, o_iret],
  [o_aload 6 50, am_nop, o_getI 3 3 0 53, am_nop, am_nop, o_aload 7 55, am_nop, o_getI 3 3 0 58, am_nop, am_nop, o_icmp (fun x y => x = y) 64 61, am_nop, am_nop, o_push (.int (-1000000012)) 63, am_nop, o_iret],
  [o_aload 6 66, am_nop, o_iload 2 67, o_iload 5 69, am_nop, o_cv 3 3 37 3 0 2 72, am_nop, am_nop, o_if (fun x => x = 0) 87 75, am_nop, am_nop, o_aload 7 77, am_nop, o_iload 4 79, am_nop, o_iload 5 81],
  [am_nop, o_cv 3 3 37 3 0 2 84, am_nop, am_nop, o_if (fun x => ¬ x = 0) 91 87, am_nop, am_nop, o_push (.int (-1000000013)) 90, am_nop, am_nop, o_iret, o_aload 6 93, am_nop, o_getR 3 3 2 96, am_nop, am_nop],
  [o_iload 2 97, o_aload 7 99, am_nop, o_getR 3 3 2 102, am_nop, am_nop, o_iload 4 104, am_nop, o_iload 5 106, am_nop, o_acopy 109, am_nop, am_nop, o_iload 5 111, am_nop, o_iret]]
theorem rX7_copy_0 : am_allR (fun pc o => am_ok am_tb0 cX7_copy RX7 8 (some .int) false pc o ∧ am_mo o) 0 (am_nth [] tX7_copy 0) :=
  And.intro ⟨ok_aload_n dX7_copy_0 rfl rfl, mo_aload⟩ (
  And.intro ⟨ok_iload_n dX7_copy_1 rfl rfl, mo_iload⟩ (
  And.intro ⟨ok_cv (z := 110) dX7_copy_2 hclX7 (by decide) wd_541 wd_543 wp_2 wd_1 wd_544 rfl (by decide) ⟨rfl, hy_X7_sheetAt⟩ rfl, mo_cv⟩ (
  And.intro ⟨ok_nop, mo_nop⟩ (
  And.intro ⟨ok_nop, mo_nop⟩ (
  And.intro ⟨ok_astore dX7_copy_5 (by decide) rfl, mo_astore⟩ (
  And.intro ⟨ok_nop, mo_nop⟩ (
  And.intro ⟨ok_aload_n dX7_copy_7 rfl rfl, mo_aload⟩ (
  And.intro ⟨ok_iload_n dX7_copy_8 rfl rfl, mo_iload⟩ (
  And.intro ⟨ok_cv (z := 110) dX7_copy_9 hclX7 (by decide) wd_541 wd_543 wp_2 wd_1 wd_544 rfl (by decide) ⟨rfl, hy_X7_sheetAt⟩ rfl, mo_cv⟩ (
  And.intro ⟨ok_nop, mo_nop⟩ (
  And.intro ⟨ok_nop, mo_nop⟩ (
  And.intro ⟨ok_astore dX7_copy_12 (by decide) rfl, mo_astore⟩ (
  And.intro ⟨ok_nop, mo_nop⟩ (
  And.intro ⟨ok_aload dX7_copy_14 rfl, mo_aload⟩ (
  And.intro ⟨ok_nop, mo_nop⟩ (
  trivial))))))))))))))))
theorem rX7_copy_1 : am_allR (fun pc o => am_ok am_tb0 cX7_copy RX7 8 (some .int) false pc o ∧ am_mo o) 16 (am_nth [] tX7_copy 1) :=
  And.intro ⟨ok_ifnull dX7_copy_16 (by decide) rfl, mo_null⟩ (
  And.intro ⟨ok_nop, mo_nop⟩ (
  And.intro ⟨ok_nop, mo_nop⟩ (
  And.intro ⟨ok_aload dX7_copy_19 rfl, mo_aload⟩ (
  And.intro ⟨ok_nop, mo_nop⟩ (
  And.intro ⟨ok_ifnonnull dX7_copy_21 (by decide) rfl, mo_null⟩ (
  And.intro ⟨ok_nop, mo_nop⟩ (
  And.intro ⟨ok_nop, mo_nop⟩ (
  And.intro ⟨ok_ldc dX7_copy_24 rfl wd_278, mo_push⟩ (
  And.intro ⟨ok_nop, mo_nop⟩ (
  And.intro ⟨ok_iret dX7_copy_26 rfl, mo_iret⟩ (
  And.intro ⟨ok_aload dX7_copy_27 rfl, mo_aload⟩ (
  And.intro ⟨ok_nop, mo_nop⟩ (
  And.intro ⟨ok_getIN dX7_copy_29 hclX3 inWX3 (by decide) (by decide) wn_199 (fun _ _ _ => rfl) rfl, mo_getI⟩ (
  And.intro ⟨ok_nop, mo_nop⟩ (
  And.intro ⟨ok_nop, mo_nop⟩ (
  trivial))))))))))))))))
theorem rX7_copy_2 : am_allR (fun pc o => am_ok am_tb0 cX7_copy RX7 8 (some .int) false pc o ∧ am_mo o) 32 (am_nth [] tX7_copy 2) :=
  And.intro ⟨ok_iconst dX7_copy_32 rfl ic_m1, mo_push⟩ (
  And.intro ⟨ok_icmp_eq dX7_copy_33 (by decide) rfl, mo_icmp⟩ (
  And.intro ⟨ok_nop, mo_nop⟩ (
  And.intro ⟨ok_nop, mo_nop⟩ (
  And.intro ⟨ok_aload dX7_copy_36 rfl, mo_aload⟩ (
  And.intro ⟨ok_nop, mo_nop⟩ (
  And.intro ⟨ok_getIN dX7_copy_38 hclX3 inWX3 (by decide) (by decide) wn_199 (fun _ _ _ => rfl) rfl, mo_getI⟩ (
  And.intro ⟨ok_nop, mo_nop⟩ (
  And.intro ⟨ok_nop, mo_nop⟩ (
  And.intro ⟨ok_iconst dX7_copy_41 rfl ic_m1, mo_push⟩ (
  And.intro ⟨ok_icmp_ne dX7_copy_42 (by decide) rfl, mo_icmp⟩ (
  And.intro ⟨ok_nop, mo_nop⟩ (
  And.intro ⟨ok_nop, mo_nop⟩ (
  And.intro ⟨ok_ldc dX7_copy_45 rfl wd_545, mo_push⟩ (
  And.intro ⟨ok_nop, mo_nop⟩ (
  And.intro ⟨ok_iret dX7_copy_47 rfl, mo_iret⟩ (
  trivial))))))))))))))))
theorem rX7_copy_3 : am_allR (fun pc o => am_ok am_tb0 cX7_copy RX7 8 (some .int) false pc o ∧ am_mo o) 48 (am_nth [] tX7_copy 3) :=
  And.intro ⟨ok_aload dX7_copy_48 rfl, mo_aload⟩ (
  And.intro ⟨ok_nop, mo_nop⟩ (
  And.intro ⟨ok_getIN dX7_copy_50 hclX3 inWX3 (by decide) (by decide) wn_199 (fun _ _ _ => rfl) rfl, mo_getI⟩ (
  And.intro ⟨ok_nop, mo_nop⟩ (
  And.intro ⟨ok_nop, mo_nop⟩ (
  And.intro ⟨ok_aload dX7_copy_53 rfl, mo_aload⟩ (
  And.intro ⟨ok_nop, mo_nop⟩ (
  And.intro ⟨ok_getIN dX7_copy_55 hclX3 inWX3 (by decide) (by decide) wn_199 (fun _ _ _ => rfl) rfl, mo_getI⟩ (
  And.intro ⟨ok_nop, mo_nop⟩ (
  And.intro ⟨ok_nop, mo_nop⟩ (
  And.intro ⟨ok_icmp_eq dX7_copy_58 (by decide) rfl, mo_icmp⟩ (
  And.intro ⟨ok_nop, mo_nop⟩ (
  And.intro ⟨ok_nop, mo_nop⟩ (
  And.intro ⟨ok_ldc dX7_copy_61 rfl wd_315, mo_push⟩ (
  And.intro ⟨ok_nop, mo_nop⟩ (
  And.intro ⟨ok_iret dX7_copy_63 rfl, mo_iret⟩ (
  trivial))))))))))))))))
theorem rX7_copy_4 : am_allR (fun pc o => am_ok am_tb0 cX7_copy RX7 8 (some .int) false pc o ∧ am_mo o) 64 (am_nth [] tX7_copy 4) :=
  And.intro ⟨ok_aload dX7_copy_64 rfl, mo_aload⟩ (
  And.intro ⟨ok_nop, mo_nop⟩ (
  And.intro ⟨ok_iload_n dX7_copy_66 rfl rfl, mo_iload⟩ (
  And.intro ⟨ok_iload dX7_copy_67 rfl, mo_iload⟩ (
  And.intro ⟨ok_nop, mo_nop⟩ (
  And.intro ⟨ok_cv (z := 37) dX7_copy_69 hclX3 (by decide) wd_833 wd_834 wd_835 wd_6 wd_836 rfl (by decide) ⟨rfl, hy_X3_hasAll⟩ rfl, mo_cv⟩ (
  And.intro ⟨ok_nop, mo_nop⟩ (
  And.intro ⟨ok_nop, mo_nop⟩ (
  And.intro ⟨ok_if_eq dX7_copy_72 (by decide) rfl, mo_if⟩ (
  And.intro ⟨ok_nop, mo_nop⟩ (
  And.intro ⟨ok_nop, mo_nop⟩ (
  And.intro ⟨ok_aload dX7_copy_75 rfl, mo_aload⟩ (
  And.intro ⟨ok_nop, mo_nop⟩ (
  And.intro ⟨ok_iload dX7_copy_77 rfl, mo_iload⟩ (
  And.intro ⟨ok_nop, mo_nop⟩ (
  And.intro ⟨ok_iload dX7_copy_79 rfl, mo_iload⟩ (
  trivial))))))))))))))))
theorem rX7_copy_5 : am_allR (fun pc o => am_ok am_tb0 cX7_copy RX7 8 (some .int) false pc o ∧ am_mo o) 80 (am_nth [] tX7_copy 5) :=
  And.intro ⟨ok_nop, mo_nop⟩ (
  And.intro ⟨ok_cv (z := 37) dX7_copy_81 hclX3 (by decide) wd_833 wd_834 wd_835 wd_6 wd_836 rfl (by decide) ⟨rfl, hy_X3_hasAll⟩ rfl, mo_cv⟩ (
  And.intro ⟨ok_nop, mo_nop⟩ (
  And.intro ⟨ok_nop, mo_nop⟩ (
  And.intro ⟨ok_if_ne dX7_copy_84 (by decide) rfl, mo_if⟩ (
  And.intro ⟨ok_nop, mo_nop⟩ (
  And.intro ⟨ok_nop, mo_nop⟩ (
  And.intro ⟨ok_ldcw dX7_copy_87 rfl wd_817, mo_push⟩ (
  And.intro ⟨ok_nop, mo_nop⟩ (
  And.intro ⟨ok_nop, mo_nop⟩ (
  And.intro ⟨ok_iret dX7_copy_90 rfl, mo_iret⟩ (
  And.intro ⟨ok_aload dX7_copy_91 rfl, mo_aload⟩ (
  And.intro ⟨ok_nop, mo_nop⟩ (
  And.intro ⟨ok_getRN dX7_copy_93 hclX3 inWX3 (by decide) (by decide) wn_203 (fun _ _ _ => rfl) rfl, mo_getR⟩ (
  And.intro ⟨ok_nop, mo_nop⟩ (
  And.intro ⟨ok_nop, mo_nop⟩ (
  trivial))))))))))))))))
theorem rX7_copy_6 : am_allR (fun pc o => am_ok am_tb0 cX7_copy RX7 8 (some .int) false pc o ∧ am_mo o) 96 (am_nth [] tX7_copy 6) :=
  And.intro ⟨ok_iload_n dX7_copy_96 rfl rfl, mo_iload⟩ (
  And.intro ⟨ok_aload dX7_copy_97 rfl, mo_aload⟩ (
  And.intro ⟨ok_nop, mo_nop⟩ (
  And.intro ⟨ok_getRN dX7_copy_99 hclX3 inWX3 (by decide) (by decide) wn_203 (fun _ _ _ => rfl) rfl, mo_getR⟩ (
  And.intro ⟨ok_nop, mo_nop⟩ (
  And.intro ⟨ok_nop, mo_nop⟩ (
  And.intro ⟨ok_iload dX7_copy_102 rfl, mo_iload⟩ (
  And.intro ⟨ok_nop, mo_nop⟩ (
  And.intro ⟨ok_iload dX7_copy_104 rfl, mo_iload⟩ (
  And.intro ⟨ok_nop, mo_nop⟩ (
  And.intro ⟨ok_acopy dX7_copy_106 wd_837 wd_512 wd_511 wd_12 rfl, mo_acopy⟩ (
  And.intro ⟨ok_nop, mo_nop⟩ (
  And.intro ⟨ok_nop, mo_nop⟩ (
  And.intro ⟨ok_iload dX7_copy_109 rfl, mo_iload⟩ (
  And.intro ⟨ok_nop, mo_nop⟩ (
  And.intro ⟨ok_iret dX7_copy_111 rfl, mo_iret⟩ (
  trivial))))))))))))))))
theorem kX7_copy : am_M1 am_tb0 cX7_copy RX7 8 (some .int) false tX7_copy := And.intro rX7_copy_0 (And.intro rX7_copy_1 (And.intro rX7_copy_2 (And.intro rX7_copy_3 (And.intro rX7_copy_4 (And.intro rX7_copy_5 (And.intro rX7_copy_6 (trivial)))))))
def tX7_lay : List (List am_Op) := [[o_aload 0 1, o_iload 1 2, o_cv 7 11 111 2 1 1 5, am_nop, am_nop, o_astore 4 7, am_nop, o_aload 4 9, am_nop, o_null 20 12, am_nop, am_nop, o_iload 2 13, o_push (.int 3) 14, o_cs 105 2 0 2 17, am_nop],
  [am_nop, o_if (fun x => ¬ x = 0) 23 20, am_nop, am_nop, o_push (.int (-1000000001)) 22, am_nop, o_iret, o_aload 0 24, o_getR 7 11 0 27, am_nop, am_nop, o_iload 3 28, o_cv 2 14 15 2 0 1 31, am_nop, am_nop, o_astore 5 33],
  [am_nop, o_aload 0 34, o_iload 3 35, o_cv 7 11 110 2 1 1 38, am_nop, am_nop, o_astore 6 40, am_nop, o_iload 2 41, o_push (.int 1) 42, o_icmp (fun x y => ¬ x = y) 50 45, am_nop, am_nop, o_aload 5 47, am_nop, o_null 60 50],
  [am_nop, am_nop, o_iload 2 51, o_push (.int 2) 52, o_icmp (fun x y => ¬ x = y) 63 55, am_nop, am_nop, o_aload 6 57, am_nop, o_null 60 63, am_nop, am_nop, o_push (.int (-1000000001)) 62, am_nop, o_iret, o_iload 2 64],
  [o_push (.int 2) 65, o_icmp (fun x y => ¬ x = y) 85 68, am_nop, am_nop, o_aload 6 70, am_nop, o_null 85 73, am_nop, am_nop, o_aload 6 75, am_nop, o_getI 3 3 0 78, am_nop, am_nop, o_push (.int (-1)) 79, o_icmp (fun x y => ¬ x = y) 85 82],
  [am_nop, am_nop, o_push (.int (-1000000011)) 84, am_nop, o_iret, o_aload 4 87, am_nop, o_getI 4 4 0 90, am_nop, am_nop, o_istore 7 92, am_nop, o_aload 4 94, am_nop, o_iload 2 95, o_putI 4 4 0 98],
  [am_nop, am_nop, o_aload 4 100, am_nop, o_iload 3 101, o_putI 4 4 1 104, am_nop, am_nop, o_iload 2 105, o_push (.int 1) 106, o_icmp (fun x y => ¬ x = y) 124 109, am_nop, am_nop, o_aload 5 111, am_nop, o_null 124 114],
  [am_nop, am_nop, o_aload 4 116, am_nop, o_getR 4 4 2 119, am_nop, am_nop, o_aload 5 121, am_nop, o_cv 1 5 8 2 1 1 124, am_nop, am_nop, o_iload 2 125, o_push (.int 2) 126, o_icmp (fun x y => ¬ x = y) 144 129, am_nop],
  [am_nop, o_aload 6 131, am_nop, o_null 144 134, am_nop, am_nop, o_aload 4 136, am_nop, o_getR 4 4 3 139, am_nop, am_nop, o_aload 6 141, am_nop, o_cv 3 3 35 2 0 1 144, am_nop, am_nop],
  [o_iload 7 146, am_nop, o_iret, am_nop, am_nop, am_nop, am_nop, am_nop, am_nop, am_nop, am_nop, am_nop, am_nop, am_nop, am_nop, am_nop]]
theorem rX7_lay_0 : am_allR (fun pc o => am_ok am_tb0 cX7_lay RX7 8 (some .int) false pc o ∧ am_mo o) 0 (am_nth [] tX7_lay 0) :=
  And.intro ⟨ok_aload_n dX7_lay_0 rfl rfl, mo_aload⟩ (
  And.intro ⟨ok_iload_n dX7_lay_1 rfl rfl, mo_iload⟩ (
  And.intro ⟨ok_cv (z := 111) dX7_lay_2 hclX7 (by decide) wd_842 wd_844 wp_16 wd_1 wd_845 rfl (by decide) ⟨rfl, hy_X7_slotAt⟩ rfl, mo_cv⟩ (
  And.intro ⟨ok_nop, mo_nop⟩ (
  And.intro ⟨ok_nop, mo_nop⟩ (
  And.intro ⟨ok_astore dX7_lay_5 (by decide) rfl, mo_astore⟩ (
  And.intro ⟨ok_nop, mo_nop⟩ (
  And.intro ⟨ok_aload dX7_lay_7 rfl, mo_aload⟩ (
  And.intro ⟨ok_nop, mo_nop⟩ (
  And.intro ⟨ok_ifnull dX7_lay_9 (by decide) rfl, mo_null⟩ (
  And.intro ⟨ok_nop, mo_nop⟩ (
  And.intro ⟨ok_nop, mo_nop⟩ (
  And.intro ⟨ok_iload_n dX7_lay_12 rfl rfl, mo_iload⟩ (
  And.intro ⟨ok_iconst dX7_lay_13 rfl ic_3, mo_push⟩ (
  And.intro ⟨ok_cs (z := 105) dX7_lay_14 wd_275 wd_276 wd_1 wd_277 rfl (by decide) hy_X7_within rfl, mo_cs⟩ (
  And.intro ⟨ok_nop, mo_nop⟩ (
  trivial))))))))))))))))
theorem rX7_lay_1 : am_allR (fun pc o => am_ok am_tb0 cX7_lay RX7 8 (some .int) false pc o ∧ am_mo o) 16 (am_nth [] tX7_lay 1) :=
  And.intro ⟨ok_nop, mo_nop⟩ (
  And.intro ⟨ok_if_ne dX7_lay_17 (by decide) rfl, mo_if⟩ (
  And.intro ⟨ok_nop, mo_nop⟩ (
  And.intro ⟨ok_nop, mo_nop⟩ (
  And.intro ⟨ok_ldc dX7_lay_20 rfl wd_278, mo_push⟩ (
  And.intro ⟨ok_nop, mo_nop⟩ (
  And.intro ⟨ok_iret dX7_lay_22 rfl, mo_iret⟩ (
  And.intro ⟨ok_aload_n dX7_lay_23 rfl rfl, mo_aload⟩ (
  And.intro ⟨ok_getR dX7_lay_24 hclX7 inWX7 (by decide) (by decide) wd_237 (fun _ _ _ => rfl) rfl, mo_getR⟩ (
  And.intro ⟨ok_nop, mo_nop⟩ (
  And.intro ⟨ok_nop, mo_nop⟩ (
  And.intro ⟨ok_iload_n dX7_lay_27 rfl rfl, mo_iload⟩ (
  And.intro ⟨ok_cv (z := 15) dX7_lay_28 hclX2 (by decide) wd_293 wd_294 wd_295 wd_2 wd_296 rfl (by decide) ⟨rfl, hy_X2_find⟩ rfl, mo_cv⟩ (
  And.intro ⟨ok_nop, mo_nop⟩ (
  And.intro ⟨ok_nop, mo_nop⟩ (
  And.intro ⟨ok_astore dX7_lay_31 (by decide) rfl, mo_astore⟩ (
  trivial))))))))))))))))
theorem rX7_lay_2 : am_allR (fun pc o => am_ok am_tb0 cX7_lay RX7 8 (some .int) false pc o ∧ am_mo o) 32 (am_nth [] tX7_lay 2) :=
  And.intro ⟨ok_nop, mo_nop⟩ (
  And.intro ⟨ok_aload_n dX7_lay_33 rfl rfl, mo_aload⟩ (
  And.intro ⟨ok_iload_n dX7_lay_34 rfl rfl, mo_iload⟩ (
  And.intro ⟨ok_cv (z := 110) dX7_lay_35 hclX7 (by decide) wd_541 wd_543 wp_2 wd_1 wd_544 rfl (by decide) ⟨rfl, hy_X7_sheetAt⟩ rfl, mo_cv⟩ (
  And.intro ⟨ok_nop, mo_nop⟩ (
  And.intro ⟨ok_nop, mo_nop⟩ (
  And.intro ⟨ok_astore dX7_lay_38 (by decide) rfl, mo_astore⟩ (
  And.intro ⟨ok_nop, mo_nop⟩ (
  And.intro ⟨ok_iload_n dX7_lay_40 rfl rfl, mo_iload⟩ (
  And.intro ⟨ok_iconst dX7_lay_41 rfl ic_1, mo_push⟩ (
  And.intro ⟨ok_icmp_ne dX7_lay_42 (by decide) rfl, mo_icmp⟩ (
  And.intro ⟨ok_nop, mo_nop⟩ (
  And.intro ⟨ok_nop, mo_nop⟩ (
  And.intro ⟨ok_aload dX7_lay_45 rfl, mo_aload⟩ (
  And.intro ⟨ok_nop, mo_nop⟩ (
  And.intro ⟨ok_ifnull dX7_lay_47 (by decide) rfl, mo_null⟩ (
  trivial))))))))))))))))
theorem rX7_lay_3 : am_allR (fun pc o => am_ok am_tb0 cX7_lay RX7 8 (some .int) false pc o ∧ am_mo o) 48 (am_nth [] tX7_lay 3) :=
  And.intro ⟨ok_nop, mo_nop⟩ (
  And.intro ⟨ok_nop, mo_nop⟩ (
  And.intro ⟨ok_iload_n dX7_lay_50 rfl rfl, mo_iload⟩ (
  And.intro ⟨ok_iconst dX7_lay_51 rfl ic_2, mo_push⟩ (
  And.intro ⟨ok_icmp_ne dX7_lay_52 (by decide) rfl, mo_icmp⟩ (
  And.intro ⟨ok_nop, mo_nop⟩ (
  And.intro ⟨ok_nop, mo_nop⟩ (
  And.intro ⟨ok_aload dX7_lay_55 rfl, mo_aload⟩ (
  And.intro ⟨ok_nop, mo_nop⟩ (
  And.intro ⟨ok_ifnonnull dX7_lay_57 (by decide) rfl, mo_null⟩ (
  And.intro ⟨ok_nop, mo_nop⟩ (
  And.intro ⟨ok_nop, mo_nop⟩ (
  And.intro ⟨ok_ldc dX7_lay_60 rfl wd_278, mo_push⟩ (
  And.intro ⟨ok_nop, mo_nop⟩ (
  And.intro ⟨ok_iret dX7_lay_62 rfl, mo_iret⟩ (
  And.intro ⟨ok_iload_n dX7_lay_63 rfl rfl, mo_iload⟩ (
  trivial))))))))))))))))
theorem rX7_lay_4 : am_allR (fun pc o => am_ok am_tb0 cX7_lay RX7 8 (some .int) false pc o ∧ am_mo o) 64 (am_nth [] tX7_lay 4) :=
  And.intro ⟨ok_iconst dX7_lay_64 rfl ic_2, mo_push⟩ (
  And.intro ⟨ok_icmp_ne dX7_lay_65 (by decide) rfl, mo_icmp⟩ (
  And.intro ⟨ok_nop, mo_nop⟩ (
  And.intro ⟨ok_nop, mo_nop⟩ (
  And.intro ⟨ok_aload dX7_lay_68 rfl, mo_aload⟩ (
  And.intro ⟨ok_nop, mo_nop⟩ (
  And.intro ⟨ok_ifnull dX7_lay_70 (by decide) rfl, mo_null⟩ (
  And.intro ⟨ok_nop, mo_nop⟩ (
  And.intro ⟨ok_nop, mo_nop⟩ (
  And.intro ⟨ok_aload dX7_lay_73 rfl, mo_aload⟩ (
  And.intro ⟨ok_nop, mo_nop⟩ (
  And.intro ⟨ok_getIN dX7_lay_75 hclX3 inWX3 (by decide) (by decide) wn_199 (fun _ _ _ => rfl) rfl, mo_getI⟩ (
  And.intro ⟨ok_nop, mo_nop⟩ (
  And.intro ⟨ok_nop, mo_nop⟩ (
  And.intro ⟨ok_iconst dX7_lay_78 rfl ic_m1, mo_push⟩ (
  And.intro ⟨ok_icmp_ne dX7_lay_79 (by decide) rfl, mo_icmp⟩ (
  trivial))))))))))))))))
theorem rX7_lay_5 : am_allR (fun pc o => am_ok am_tb0 cX7_lay RX7 8 (some .int) false pc o ∧ am_mo o) 80 (am_nth [] tX7_lay 5) :=
  And.intro ⟨ok_nop, mo_nop⟩ (
  And.intro ⟨ok_nop, mo_nop⟩ (
  And.intro ⟨ok_ldc dX7_lay_82 rfl wd_545, mo_push⟩ (
  And.intro ⟨ok_nop, mo_nop⟩ (
  And.intro ⟨ok_iret dX7_lay_84 rfl, mo_iret⟩ (
  And.intro ⟨ok_aload dX7_lay_85 rfl, mo_aload⟩ (
  And.intro ⟨ok_nop, mo_nop⟩ (
  And.intro ⟨ok_getIN dX7_lay_87 hclX4 inWX4 (by decide) (by decide) wn_221 (fun _ _ _ => rfl) rfl, mo_getI⟩ (
  And.intro ⟨ok_nop, mo_nop⟩ (
  And.intro ⟨ok_nop, mo_nop⟩ (
  And.intro ⟨ok_istore dX7_lay_90 (by decide) rfl, mo_istore⟩ (
  And.intro ⟨ok_nop, mo_nop⟩ (
  And.intro ⟨ok_aload dX7_lay_92 rfl, mo_aload⟩ (
  And.intro ⟨ok_nop, mo_nop⟩ (
  And.intro ⟨ok_iload_n dX7_lay_94 rfl rfl, mo_iload⟩ (
  And.intro ⟨ok_putIN dX7_lay_95 hclX4 inWX4 tyX4_ok nmX4 (by decide) (by decide) wn_221 rfl (tyX4_ok 0 (by decide)) (fun _ _ _ => rfl) rfl, mo_putI⟩ (
  trivial))))))))))))))))
theorem rX7_lay_6 : am_allR (fun pc o => am_ok am_tb0 cX7_lay RX7 8 (some .int) false pc o ∧ am_mo o) 96 (am_nth [] tX7_lay 6) :=
  And.intro ⟨ok_nop, mo_nop⟩ (
  And.intro ⟨ok_nop, mo_nop⟩ (
  And.intro ⟨ok_aload dX7_lay_98 rfl, mo_aload⟩ (
  And.intro ⟨ok_nop, mo_nop⟩ (
  And.intro ⟨ok_iload_n dX7_lay_100 rfl rfl, mo_iload⟩ (
  And.intro ⟨ok_putIN dX7_lay_101 hclX4 inWX4 tyX4_ok nmX4 (by decide) (by decide) wn_223 rfl (tyX4_ok 1 (by decide)) (fun _ _ _ => rfl) rfl, mo_putI⟩ (
  And.intro ⟨ok_nop, mo_nop⟩ (
  And.intro ⟨ok_nop, mo_nop⟩ (
  And.intro ⟨ok_iload_n dX7_lay_104 rfl rfl, mo_iload⟩ (
  And.intro ⟨ok_iconst dX7_lay_105 rfl ic_1, mo_push⟩ (
  And.intro ⟨ok_icmp_ne dX7_lay_106 (by decide) rfl, mo_icmp⟩ (
  And.intro ⟨ok_nop, mo_nop⟩ (
  And.intro ⟨ok_nop, mo_nop⟩ (
  And.intro ⟨ok_aload dX7_lay_109 rfl, mo_aload⟩ (
  And.intro ⟨ok_nop, mo_nop⟩ (
  And.intro ⟨ok_ifnull dX7_lay_111 (by decide) rfl, mo_null⟩ (
  trivial))))))))))))))))
theorem rX7_lay_7 : am_allR (fun pc o => am_ok am_tb0 cX7_lay RX7 8 (some .int) false pc o ∧ am_mo o) 112 (am_nth [] tX7_lay 7) :=
  And.intro ⟨ok_nop, mo_nop⟩ (
  And.intro ⟨ok_nop, mo_nop⟩ (
  And.intro ⟨ok_aload dX7_lay_114 rfl, mo_aload⟩ (
  And.intro ⟨ok_nop, mo_nop⟩ (
  And.intro ⟨ok_getRN dX7_lay_116 hclX4 inWX4 (by decide) (by decide) wn_225 (fun _ _ _ => rfl) rfl, mo_getR⟩ (
  And.intro ⟨ok_nop, mo_nop⟩ (
  And.intro ⟨ok_nop, mo_nop⟩ (
  And.intro ⟨ok_aload dX7_lay_119 rfl, mo_aload⟩ (
  And.intro ⟨ok_nop, mo_nop⟩ (
  And.intro ⟨ok_cv (z := 8) dX7_lay_121 hclX1 (by decide) wd_846 wd_506 wd_507 wd_3 wd_508 rfl (by decide) ⟨rfl, hy_X1_become⟩ rfl, mo_cv⟩ (
  And.intro ⟨ok_nop, mo_nop⟩ (
  And.intro ⟨ok_nop, mo_nop⟩ (
  And.intro ⟨ok_iload_n dX7_lay_124 rfl rfl, mo_iload⟩ (
  And.intro ⟨ok_iconst dX7_lay_125 rfl ic_2, mo_push⟩ (
  And.intro ⟨ok_icmp_ne dX7_lay_126 (by decide) rfl, mo_icmp⟩ (
  And.intro ⟨ok_nop, mo_nop⟩ (
  trivial))))))))))))))))
theorem rX7_lay_8 : am_allR (fun pc o => am_ok am_tb0 cX7_lay RX7 8 (some .int) false pc o ∧ am_mo o) 128 (am_nth [] tX7_lay 8) :=
  And.intro ⟨ok_nop, mo_nop⟩ (
  And.intro ⟨ok_aload dX7_lay_129 rfl, mo_aload⟩ (
  And.intro ⟨ok_nop, mo_nop⟩ (
  And.intro ⟨ok_ifnull dX7_lay_131 (by decide) rfl, mo_null⟩ (
  And.intro ⟨ok_nop, mo_nop⟩ (
  And.intro ⟨ok_nop, mo_nop⟩ (
  And.intro ⟨ok_aload dX7_lay_134 rfl, mo_aload⟩ (
  And.intro ⟨ok_nop, mo_nop⟩ (
  And.intro ⟨ok_getRN dX7_lay_136 hclX4 inWX4 (by decide) (by decide) wn_227 (fun _ _ _ => rfl) rfl, mo_getR⟩ (
  And.intro ⟨ok_nop, mo_nop⟩ (
  And.intro ⟨ok_nop, mo_nop⟩ (
  And.intro ⟨ok_aload dX7_lay_139 rfl, mo_aload⟩ (
  And.intro ⟨ok_nop, mo_nop⟩ (
  And.intro ⟨ok_cv (z := 35) dX7_lay_141 hclX3 (by decide) wd_847 wd_848 wd_849 wd_6 wd_850 rfl (by decide) ⟨rfl, hy_X3_become⟩ rfl, mo_cv⟩ (
  And.intro ⟨ok_nop, mo_nop⟩ (
  And.intro ⟨ok_nop, mo_nop⟩ (
  trivial))))))))))))))))
theorem rX7_lay_9 : am_allR (fun pc o => am_ok am_tb0 cX7_lay RX7 8 (some .int) false pc o ∧ am_mo o) 144 (am_nth [] tX7_lay 9) :=
  And.intro ⟨ok_iload dX7_lay_144 rfl, mo_iload⟩ (
  And.intro ⟨ok_nop, mo_nop⟩ (
  And.intro ⟨ok_iret dX7_lay_146 rfl, mo_iret⟩ (
  And.intro ⟨ok_nop, mo_nop⟩ (
  And.intro ⟨ok_nop, mo_nop⟩ (
  And.intro ⟨ok_nop, mo_nop⟩ (
  And.intro ⟨ok_nop, mo_nop⟩ (
  And.intro ⟨ok_nop, mo_nop⟩ (
  And.intro ⟨ok_nop, mo_nop⟩ (
  And.intro ⟨ok_nop, mo_nop⟩ (
  And.intro ⟨ok_nop, mo_nop⟩ (
  And.intro ⟨ok_nop, mo_nop⟩ (
  And.intro ⟨ok_nop, mo_nop⟩ (
  And.intro ⟨ok_nop, mo_nop⟩ (
  And.intro ⟨ok_nop, mo_nop⟩ (
  And.intro ⟨ok_nop, mo_nop⟩ (
  trivial))))))))))))))))
theorem kX7_lay : am_M1 am_tb0 cX7_lay RX7 8 (some .int) false tX7_lay := And.intro rX7_lay_0 (And.intro rX7_lay_1 (And.intro rX7_lay_2 (And.intro rX7_lay_3 (And.intro rX7_lay_4 (And.intro rX7_lay_5 (And.intro rX7_lay_6 (And.intro rX7_lay_7 (And.intro rX7_lay_8 (And.intro rX7_lay_9 (trivial))))))))))
def tX7_ask : List (List am_Op) := [[o_aload 0 1, o_iload 1 2, o_cv 7 11 111 2 1 1 5, am_nop, am_nop, o_astore 3 6, o_aload 3 7, o_null 18 10, am_nop, am_nop, o_iload 2 11, o_push (.int 5) 12, o_cs 105 2 0 2 15, am_nop, am_nop, o_if (fun x => ¬ x = 0) 21 18],
  [am_nop, am_nop, o_push (.int (-1000000001)) 20, am_nop, o_iret, o_aload 3 22, o_getI 4 4 0 25, am_nop, am_nop, o_if (fun x => ¬ x = 0) 31 28, am_nop, am_nop, o_push (.int (-1000000011)) 30, am_nop, o_iret, o_aload 3 32],
  [o_getI 4 4 0 35, am_nop, am_nop, o_push (.int 1) 36, o_icmp (fun x y => ¬ x = y) 50 39, am_nop, am_nop, o_aload 3 40, o_getR 4 4 2 43, am_nop, am_nop, o_iload 2 44, o_cv 1 5 11 4 0 1 47, am_nop, am_nop, o_if (fun x => ¬ x = 0) 53 50],
  [am_nop, am_nop, o_push (.int (-1000000012)) 52, am_nop, o_iret, o_aload 3 54, o_getR 4 4 2 57, am_nop, am_nop, o_cv 1 5 12 1 0 0 60, am_nop, am_nop, o_iret, am_nop, am_nop, am_nop]]
theorem rX7_ask_0 : am_allR (fun pc o => am_ok am_tb0 cX7_ask RX7 4 (some .int) false pc o ∧ am_mo o) 0 (am_nth [] tX7_ask 0) :=
  And.intro ⟨ok_aload_n dX7_ask_0 rfl rfl, mo_aload⟩ (
  And.intro ⟨ok_iload_n dX7_ask_1 rfl rfl, mo_iload⟩ (
  And.intro ⟨ok_cv (z := 111) dX7_ask_2 hclX7 (by decide) wd_842 wd_844 wp_16 wd_1 wd_845 rfl (by decide) ⟨rfl, hy_X7_slotAt⟩ rfl, mo_cv⟩ (
  And.intro ⟨ok_nop, mo_nop⟩ (
  And.intro ⟨ok_nop, mo_nop⟩ (
  And.intro ⟨ok_astore_n dX7_ask_5 rfl (by decide) rfl, mo_astore⟩ (
  And.intro ⟨ok_aload_n dX7_ask_6 rfl rfl, mo_aload⟩ (
  And.intro ⟨ok_ifnull dX7_ask_7 (by decide) rfl, mo_null⟩ (
  And.intro ⟨ok_nop, mo_nop⟩ (
  And.intro ⟨ok_nop, mo_nop⟩ (
  And.intro ⟨ok_iload_n dX7_ask_10 rfl rfl, mo_iload⟩ (
  And.intro ⟨ok_iconst dX7_ask_11 rfl ic_5, mo_push⟩ (
  And.intro ⟨ok_cs (z := 105) dX7_ask_12 wd_275 wd_276 wd_1 wd_277 rfl (by decide) hy_X7_within rfl, mo_cs⟩ (
  And.intro ⟨ok_nop, mo_nop⟩ (
  And.intro ⟨ok_nop, mo_nop⟩ (
  And.intro ⟨ok_if_ne dX7_ask_15 (by decide) rfl, mo_if⟩ (
  trivial))))))))))))))))
theorem rX7_ask_1 : am_allR (fun pc o => am_ok am_tb0 cX7_ask RX7 4 (some .int) false pc o ∧ am_mo o) 16 (am_nth [] tX7_ask 1) :=
  And.intro ⟨ok_nop, mo_nop⟩ (
  And.intro ⟨ok_nop, mo_nop⟩ (
  And.intro ⟨ok_ldc dX7_ask_18 rfl wd_278, mo_push⟩ (
  And.intro ⟨ok_nop, mo_nop⟩ (
  And.intro ⟨ok_iret dX7_ask_20 rfl, mo_iret⟩ (
  And.intro ⟨ok_aload_n dX7_ask_21 rfl rfl, mo_aload⟩ (
  And.intro ⟨ok_getIN dX7_ask_22 hclX4 inWX4 (by decide) (by decide) wn_221 (fun _ _ _ => rfl) rfl, mo_getI⟩ (
  And.intro ⟨ok_nop, mo_nop⟩ (
  And.intro ⟨ok_nop, mo_nop⟩ (
  And.intro ⟨ok_if_ne dX7_ask_25 (by decide) rfl, mo_if⟩ (
  And.intro ⟨ok_nop, mo_nop⟩ (
  And.intro ⟨ok_nop, mo_nop⟩ (
  And.intro ⟨ok_ldc dX7_ask_28 rfl wd_545, mo_push⟩ (
  And.intro ⟨ok_nop, mo_nop⟩ (
  And.intro ⟨ok_iret dX7_ask_30 rfl, mo_iret⟩ (
  And.intro ⟨ok_aload_n dX7_ask_31 rfl rfl, mo_aload⟩ (
  trivial))))))))))))))))
theorem rX7_ask_2 : am_allR (fun pc o => am_ok am_tb0 cX7_ask RX7 4 (some .int) false pc o ∧ am_mo o) 32 (am_nth [] tX7_ask 2) :=
  And.intro ⟨ok_getIN dX7_ask_32 hclX4 inWX4 (by decide) (by decide) wn_221 (fun _ _ _ => rfl) rfl, mo_getI⟩ (
  And.intro ⟨ok_nop, mo_nop⟩ (
  And.intro ⟨ok_nop, mo_nop⟩ (
  And.intro ⟨ok_iconst dX7_ask_35 rfl ic_1, mo_push⟩ (
  And.intro ⟨ok_icmp_ne dX7_ask_36 (by decide) rfl, mo_icmp⟩ (
  And.intro ⟨ok_nop, mo_nop⟩ (
  And.intro ⟨ok_nop, mo_nop⟩ (
  And.intro ⟨ok_aload_n dX7_ask_39 rfl rfl, mo_aload⟩ (
  And.intro ⟨ok_getRN dX7_ask_40 hclX4 inWX4 (by decide) (by decide) wn_225 (fun _ _ _ => rfl) rfl, mo_getR⟩ (
  And.intro ⟨ok_nop, mo_nop⟩ (
  And.intro ⟨ok_nop, mo_nop⟩ (
  And.intro ⟨ok_iload_n dX7_ask_43 rfl rfl, mo_iload⟩ (
  And.intro ⟨ok_cv (z := 11) dX7_ask_44 hclX1 (by decide) wd_309 wd_310 wd_311 wd_3 wd_312 rfl (by decide) ⟨rfl, hy_X1_isOf⟩ rfl, mo_cv⟩ (
  And.intro ⟨ok_nop, mo_nop⟩ (
  And.intro ⟨ok_nop, mo_nop⟩ (
  And.intro ⟨ok_if_ne dX7_ask_47 (by decide) rfl, mo_if⟩ (
  trivial))))))))))))))))
theorem rX7_ask_3 : am_allR (fun pc o => am_ok am_tb0 cX7_ask RX7 4 (some .int) false pc o ∧ am_mo o) 48 (am_nth [] tX7_ask 3) :=
  And.intro ⟨ok_nop, mo_nop⟩ (
  And.intro ⟨ok_nop, mo_nop⟩ (
  And.intro ⟨ok_ldc dX7_ask_50 rfl wd_315, mo_push⟩ (
  And.intro ⟨ok_nop, mo_nop⟩ (
  And.intro ⟨ok_iret dX7_ask_52 rfl, mo_iret⟩ (
  And.intro ⟨ok_aload_n dX7_ask_53 rfl rfl, mo_aload⟩ (
  And.intro ⟨ok_getRN dX7_ask_54 hclX4 inWX4 (by decide) (by decide) wn_225 (fun _ _ _ => rfl) rfl, mo_getR⟩ (
  And.intro ⟨ok_nop, mo_nop⟩ (
  And.intro ⟨ok_nop, mo_nop⟩ (
  And.intro ⟨ok_cv (z := 12) dX7_ask_57 hclX1 (by decide) wd_856 wd_302 wd_303 wd_3 wd_304 rfl (by decide) ⟨rfl, hy_X1_worth⟩ rfl, mo_cv⟩ (
  And.intro ⟨ok_nop, mo_nop⟩ (
  And.intro ⟨ok_nop, mo_nop⟩ (
  And.intro ⟨ok_iret dX7_ask_60 rfl, mo_iret⟩ (
  And.intro ⟨ok_nop, mo_nop⟩ (
  And.intro ⟨ok_nop, mo_nop⟩ (
  And.intro ⟨ok_nop, mo_nop⟩ (
  trivial))))))))))))))))
theorem kX7_ask : am_M1 am_tb0 cX7_ask RX7 4 (some .int) false tX7_ask := And.intro rX7_ask_0 (And.intro rX7_ask_1 (And.intro rX7_ask_2 (And.intro rX7_ask_3 (trivial))))
def tX7_item : List (List am_Op) := [[o_aload 0 1, o_iload 1 2, o_cv 7 11 111 2 1 1 5, am_nop, am_nop, o_astore 3 6, o_aload 3 7, o_null 10 13, am_nop, am_nop, o_push (.int (-1000000001)) 12, am_nop, o_iret, o_aload 3 14, o_getI 4 4 0 17, am_nop],
  [am_nop, o_if (fun x => ¬ x = 0) 23 20, am_nop, am_nop, o_push (.int (-1000000011)) 22, am_nop, o_iret, o_aload 3 24, o_getI 4 4 0 27, am_nop, am_nop, o_push (.int 2) 28, o_icmp (fun x y => x = y) 34 31, am_nop, am_nop, o_push (.int (-1000000012)) 33],
  [am_nop, o_iret, o_aload 3 35, o_getR 4 4 3 38, am_nop, am_nop, o_iload 2 39, o_cv 3 3 36 2 0 1 42, am_nop, am_nop, o_if (fun x => ¬ x = 0) 49 45, am_nop, am_nop, o_push (.int (-1000000013)) 48, am_nop, am_nop],
  [o_iret, o_aload 3 50, o_getR 4 4 3 53, am_nop, am_nop, o_iload 2 54, o_cv 3 3 38 2 1 1 57, am_nop, am_nop, o_if (fun x => x = 0) 72 60, am_nop, am_nop, o_aload 3 61, o_getR 4 4 3 64, am_nop, am_nop],
  [o_getR 3 3 2 67, am_nop, am_nop, o_iload 2 68, o_iald 20 69, o_goto 74, am_nop, am_nop, o_push (.int (-1000000012)) 74, am_nop, o_iret, am_nop, am_nop, am_nop, am_nop, am_nop]]
theorem rX7_item_0 : am_allR (fun pc o => am_ok am_tb0 cX7_item RX7 4 (some .int) false pc o ∧ am_mo o) 0 (am_nth [] tX7_item 0) :=
  And.intro ⟨ok_aload_n dX7_item_0 rfl rfl, mo_aload⟩ (
  And.intro ⟨ok_iload_n dX7_item_1 rfl rfl, mo_iload⟩ (
  And.intro ⟨ok_cv (z := 111) dX7_item_2 hclX7 (by decide) wd_842 wd_844 wp_16 wd_1 wd_845 rfl (by decide) ⟨rfl, hy_X7_slotAt⟩ rfl, mo_cv⟩ (
  And.intro ⟨ok_nop, mo_nop⟩ (
  And.intro ⟨ok_nop, mo_nop⟩ (
  And.intro ⟨ok_astore_n dX7_item_5 rfl (by decide) rfl, mo_astore⟩ (
  And.intro ⟨ok_aload_n dX7_item_6 rfl rfl, mo_aload⟩ (
  And.intro ⟨ok_ifnonnull dX7_item_7 (by decide) rfl, mo_null⟩ (
  And.intro ⟨ok_nop, mo_nop⟩ (
  And.intro ⟨ok_nop, mo_nop⟩ (
  And.intro ⟨ok_ldc dX7_item_10 rfl wd_278, mo_push⟩ (
  And.intro ⟨ok_nop, mo_nop⟩ (
  And.intro ⟨ok_iret dX7_item_12 rfl, mo_iret⟩ (
  And.intro ⟨ok_aload_n dX7_item_13 rfl rfl, mo_aload⟩ (
  And.intro ⟨ok_getIN dX7_item_14 hclX4 inWX4 (by decide) (by decide) wn_221 (fun _ _ _ => rfl) rfl, mo_getI⟩ (
  And.intro ⟨ok_nop, mo_nop⟩ (
  trivial))))))))))))))))
theorem rX7_item_1 : am_allR (fun pc o => am_ok am_tb0 cX7_item RX7 4 (some .int) false pc o ∧ am_mo o) 16 (am_nth [] tX7_item 1) :=
  And.intro ⟨ok_nop, mo_nop⟩ (
  And.intro ⟨ok_if_ne dX7_item_17 (by decide) rfl, mo_if⟩ (
  And.intro ⟨ok_nop, mo_nop⟩ (
  And.intro ⟨ok_nop, mo_nop⟩ (
  And.intro ⟨ok_ldc dX7_item_20 rfl wd_545, mo_push⟩ (
  And.intro ⟨ok_nop, mo_nop⟩ (
  And.intro ⟨ok_iret dX7_item_22 rfl, mo_iret⟩ (
  And.intro ⟨ok_aload_n dX7_item_23 rfl rfl, mo_aload⟩ (
  And.intro ⟨ok_getIN dX7_item_24 hclX4 inWX4 (by decide) (by decide) wn_221 (fun _ _ _ => rfl) rfl, mo_getI⟩ (
  And.intro ⟨ok_nop, mo_nop⟩ (
  And.intro ⟨ok_nop, mo_nop⟩ (
  And.intro ⟨ok_iconst dX7_item_27 rfl ic_2, mo_push⟩ (
  And.intro ⟨ok_icmp_eq dX7_item_28 (by decide) rfl, mo_icmp⟩ (
  And.intro ⟨ok_nop, mo_nop⟩ (
  And.intro ⟨ok_nop, mo_nop⟩ (
  And.intro ⟨ok_ldc dX7_item_31 rfl wd_315, mo_push⟩ (
  trivial))))))))))))))))
theorem rX7_item_2 : am_allR (fun pc o => am_ok am_tb0 cX7_item RX7 4 (some .int) false pc o ∧ am_mo o) 32 (am_nth [] tX7_item 2) :=
  And.intro ⟨ok_nop, mo_nop⟩ (
  And.intro ⟨ok_iret dX7_item_33 rfl, mo_iret⟩ (
  And.intro ⟨ok_aload_n dX7_item_34 rfl rfl, mo_aload⟩ (
  And.intro ⟨ok_getRN dX7_item_35 hclX4 inWX4 (by decide) (by decide) wn_227 (fun _ _ _ => rfl) rfl, mo_getR⟩ (
  And.intro ⟨ok_nop, mo_nop⟩ (
  And.intro ⟨ok_nop, mo_nop⟩ (
  And.intro ⟨ok_iload_n dX7_item_38 rfl rfl, mo_iload⟩ (
  And.intro ⟨ok_cv (z := 36) dX7_item_39 hclX3 (by decide) wd_816 wd_558 wd_559 wd_6 wd_560 rfl (by decide) ⟨rfl, hy_X3_has⟩ rfl, mo_cv⟩ (
  And.intro ⟨ok_nop, mo_nop⟩ (
  And.intro ⟨ok_nop, mo_nop⟩ (
  And.intro ⟨ok_if_ne dX7_item_42 (by decide) rfl, mo_if⟩ (
  And.intro ⟨ok_nop, mo_nop⟩ (
  And.intro ⟨ok_nop, mo_nop⟩ (
  And.intro ⟨ok_ldcw dX7_item_45 rfl wd_817, mo_push⟩ (
  And.intro ⟨ok_nop, mo_nop⟩ (
  And.intro ⟨ok_nop, mo_nop⟩ (
  trivial))))))))))))))))
theorem rX7_item_3 : am_allR (fun pc o => am_ok am_tb0 cX7_item RX7 4 (some .int) false pc o ∧ am_mo o) 48 (am_nth [] tX7_item 3) :=
  And.intro ⟨ok_iret dX7_item_48 rfl, mo_iret⟩ (
  And.intro ⟨ok_aload_n dX7_item_49 rfl rfl, mo_aload⟩ (
  And.intro ⟨ok_getRN dX7_item_50 hclX4 inWX4 (by decide) (by decide) wn_227 (fun _ _ _ => rfl) rfl, mo_getR⟩ (
  And.intro ⟨ok_nop, mo_nop⟩ (
  And.intro ⟨ok_nop, mo_nop⟩ (
  And.intro ⟨ok_iload_n dX7_item_53 rfl rfl, mo_iload⟩ (
  And.intro ⟨ok_cv (z := 38) dX7_item_54 hclX3 (by decide) wd_553 wd_554 wd_555 wd_6 wd_556 rfl (by decide) ⟨rfl, hy_X3_isNumber⟩ rfl, mo_cv⟩ (
  And.intro ⟨ok_nop, mo_nop⟩ (
  And.intro ⟨ok_nop, mo_nop⟩ (
  And.intro ⟨ok_if_eq dX7_item_57 (by decide) rfl, mo_if⟩ (
  And.intro ⟨ok_nop, mo_nop⟩ (
  And.intro ⟨ok_nop, mo_nop⟩ (
  And.intro ⟨ok_aload_n dX7_item_60 rfl rfl, mo_aload⟩ (
  And.intro ⟨ok_getRN dX7_item_61 hclX4 inWX4 (by decide) (by decide) wn_227 (fun _ _ _ => rfl) rfl, mo_getR⟩ (
  And.intro ⟨ok_nop, mo_nop⟩ (
  And.intro ⟨ok_nop, mo_nop⟩ (
  trivial))))))))))))))))
theorem rX7_item_4 : am_allR (fun pc o => am_ok am_tb0 cX7_item RX7 4 (some .int) false pc o ∧ am_mo o) 64 (am_nth [] tX7_item 4) :=
  And.intro ⟨ok_getRN dX7_item_64 hclX3 inWX3 (by decide) (by decide) wn_203 (fun _ _ _ => rfl) rfl, mo_getR⟩ (
  And.intro ⟨ok_nop, mo_nop⟩ (
  And.intro ⟨ok_nop, mo_nop⟩ (
  And.intro ⟨ok_iload_n dX7_item_67 rfl rfl, mo_iload⟩ (
  And.intro ⟨ok_iald dX7_item_68 rfl, mo_iald⟩ (
  And.intro ⟨ok_goto dX7_item_69 (by decide), mo_goto⟩ (
  And.intro ⟨ok_nop, mo_nop⟩ (
  And.intro ⟨ok_nop, mo_nop⟩ (
  And.intro ⟨ok_ldc dX7_item_72 rfl wd_315, mo_push⟩ (
  And.intro ⟨ok_nop, mo_nop⟩ (
  And.intro ⟨ok_iret dX7_item_74 rfl, mo_iret⟩ (
  And.intro ⟨ok_nop, mo_nop⟩ (
  And.intro ⟨ok_nop, mo_nop⟩ (
  And.intro ⟨ok_nop, mo_nop⟩ (
  And.intro ⟨ok_nop, mo_nop⟩ (
  And.intro ⟨ok_nop, mo_nop⟩ (
  trivial))))))))))))))))
theorem kX7_item : am_M1 am_tb0 cX7_item RX7 4 (some .int) false tX7_item := And.intro rX7_item_0 (And.intro rX7_item_1 (And.intro rX7_item_2 (And.intro rX7_item_3 (And.intro rX7_item_4 (trivial)))))
def tX7_rest : List (List am_Op) := [[o_aload 0 1, o_iload 1 2, o_cv 7 11 111 2 1 1 5, am_nop, am_nop, o_astore 3 6, o_aload 3 7, o_null 10 13, am_nop, am_nop, o_push (.int (-1000000001)) 12, am_nop, o_iret, o_aload 3 14, o_getI 4 4 0 17, am_nop],
  [am_nop, o_if (fun x => ¬ x = 0) 23 20, am_nop, am_nop, o_push (.int (-1000000011)) 22, am_nop, o_iret, o_aload 3 24, o_getI 4 4 0 27, am_nop, am_nop, o_push (.int 3) 28, o_icmp (fun x y => x = y) 34 31, am_nop, am_nop, o_push (.int (-1000000012)) 33],
  [am_nop, o_iret, o_iload 2 35, o_if (fun x => ¬ x = 0) 43 38, am_nop, am_nop, o_push (.int (-1000000002)) 40, am_nop, o_goto 49, am_nop, am_nop, o_aload 3 44, o_getI 4 4 1 47, am_nop, am_nop, o_iload 2 48],
  [o_binS (fun x y => x - x / y * y) 49, o_iret, am_nop, am_nop, am_nop, am_nop, am_nop, am_nop, am_nop, am_nop, am_nop, am_nop, am_nop, am_nop, am_nop, am_nop]]
theorem rX7_rest_0 : am_allR (fun pc o => am_ok am_tb0 cX7_rest RX7 4 (some .int) false pc o ∧ am_mo o) 0 (am_nth [] tX7_rest 0) :=
  And.intro ⟨ok_aload_n dX7_rest_0 rfl rfl, mo_aload⟩ (
  And.intro ⟨ok_iload_n dX7_rest_1 rfl rfl, mo_iload⟩ (
  And.intro ⟨ok_cv (z := 111) dX7_rest_2 hclX7 (by decide) wd_842 wd_844 wp_16 wd_1 wd_845 rfl (by decide) ⟨rfl, hy_X7_slotAt⟩ rfl, mo_cv⟩ (
  And.intro ⟨ok_nop, mo_nop⟩ (
  And.intro ⟨ok_nop, mo_nop⟩ (
  And.intro ⟨ok_astore_n dX7_rest_5 rfl (by decide) rfl, mo_astore⟩ (
  And.intro ⟨ok_aload_n dX7_rest_6 rfl rfl, mo_aload⟩ (
  And.intro ⟨ok_ifnonnull dX7_rest_7 (by decide) rfl, mo_null⟩ (
  And.intro ⟨ok_nop, mo_nop⟩ (
  And.intro ⟨ok_nop, mo_nop⟩ (
  And.intro ⟨ok_ldc dX7_rest_10 rfl wd_278, mo_push⟩ (
  And.intro ⟨ok_nop, mo_nop⟩ (
  And.intro ⟨ok_iret dX7_rest_12 rfl, mo_iret⟩ (
  And.intro ⟨ok_aload_n dX7_rest_13 rfl rfl, mo_aload⟩ (
  And.intro ⟨ok_getIN dX7_rest_14 hclX4 inWX4 (by decide) (by decide) wn_221 (fun _ _ _ => rfl) rfl, mo_getI⟩ (
  And.intro ⟨ok_nop, mo_nop⟩ (
  trivial))))))))))))))))
theorem rX7_rest_1 : am_allR (fun pc o => am_ok am_tb0 cX7_rest RX7 4 (some .int) false pc o ∧ am_mo o) 16 (am_nth [] tX7_rest 1) :=
  And.intro ⟨ok_nop, mo_nop⟩ (
  And.intro ⟨ok_if_ne dX7_rest_17 (by decide) rfl, mo_if⟩ (
  And.intro ⟨ok_nop, mo_nop⟩ (
  And.intro ⟨ok_nop, mo_nop⟩ (
  And.intro ⟨ok_ldc dX7_rest_20 rfl wd_545, mo_push⟩ (
  And.intro ⟨ok_nop, mo_nop⟩ (
  And.intro ⟨ok_iret dX7_rest_22 rfl, mo_iret⟩ (
  And.intro ⟨ok_aload_n dX7_rest_23 rfl rfl, mo_aload⟩ (
  And.intro ⟨ok_getIN dX7_rest_24 hclX4 inWX4 (by decide) (by decide) wn_221 (fun _ _ _ => rfl) rfl, mo_getI⟩ (
  And.intro ⟨ok_nop, mo_nop⟩ (
  And.intro ⟨ok_nop, mo_nop⟩ (
  And.intro ⟨ok_iconst dX7_rest_27 rfl ic_3, mo_push⟩ (
  And.intro ⟨ok_icmp_eq dX7_rest_28 (by decide) rfl, mo_icmp⟩ (
  And.intro ⟨ok_nop, mo_nop⟩ (
  And.intro ⟨ok_nop, mo_nop⟩ (
  And.intro ⟨ok_ldc dX7_rest_31 rfl wd_315, mo_push⟩ (
  trivial))))))))))))))))
theorem rX7_rest_2 : am_allR (fun pc o => am_ok am_tb0 cX7_rest RX7 4 (some .int) false pc o ∧ am_mo o) 32 (am_nth [] tX7_rest 2) :=
  And.intro ⟨ok_nop, mo_nop⟩ (
  And.intro ⟨ok_iret dX7_rest_33 rfl, mo_iret⟩ (
  And.intro ⟨ok_iload_n dX7_rest_34 rfl rfl, mo_iload⟩ (
  And.intro ⟨ok_if_ne dX7_rest_35 (by decide) rfl, mo_if⟩ (
  And.intro ⟨ok_nop, mo_nop⟩ (
  And.intro ⟨ok_nop, mo_nop⟩ (
  And.intro ⟨ok_ldc dX7_rest_38 rfl wd_419, mo_push⟩ (
  And.intro ⟨ok_nop, mo_nop⟩ (
  And.intro ⟨ok_goto dX7_rest_40 (by decide), mo_goto⟩ (
  And.intro ⟨ok_nop, mo_nop⟩ (
  And.intro ⟨ok_nop, mo_nop⟩ (
  And.intro ⟨ok_aload_n dX7_rest_43 rfl rfl, mo_aload⟩ (
  And.intro ⟨ok_getIN dX7_rest_44 hclX4 inWX4 (by decide) (by decide) wn_223 (fun _ _ _ => rfl) rfl, mo_getI⟩ (
  And.intro ⟨ok_nop, mo_nop⟩ (
  And.intro ⟨ok_nop, mo_nop⟩ (
  And.intro ⟨ok_iload_n dX7_rest_47 rfl rfl, mo_iload⟩ (
  trivial))))))))))))))))
theorem rX7_rest_3 : am_allR (fun pc o => am_ok am_tb0 cX7_rest RX7 4 (some .int) false pc o ∧ am_mo o) 48 (am_nth [] tX7_rest 3) :=
  And.intro ⟨ok_irem dX7_rest_48 rfl, mo_binS⟩ (
  And.intro ⟨ok_iret dX7_rest_49 rfl, mo_iret⟩ (
  And.intro ⟨ok_nop, mo_nop⟩ (
  And.intro ⟨ok_nop, mo_nop⟩ (
  And.intro ⟨ok_nop, mo_nop⟩ (
  And.intro ⟨ok_nop, mo_nop⟩ (
  And.intro ⟨ok_nop, mo_nop⟩ (
  And.intro ⟨ok_nop, mo_nop⟩ (
  And.intro ⟨ok_nop, mo_nop⟩ (
  And.intro ⟨ok_nop, mo_nop⟩ (
  And.intro ⟨ok_nop, mo_nop⟩ (
  And.intro ⟨ok_nop, mo_nop⟩ (
  And.intro ⟨ok_nop, mo_nop⟩ (
  And.intro ⟨ok_nop, mo_nop⟩ (
  And.intro ⟨ok_nop, mo_nop⟩ (
  And.intro ⟨ok_nop, mo_nop⟩ (
  trivial))))))))))))))))
theorem kX7_rest : am_M1 am_tb0 cX7_rest RX7 4 (some .int) false tX7_rest := And.intro rX7_rest_0 (And.intro rX7_rest_1 (And.intro rX7_rest_2 (And.intro rX7_rest_3 (trivial))))
def tX7_tell : List (List am_Op) := [[o_aload 0 1, o_getI 7 11 9 4, am_nop, am_nop, o_push (.int 60) 6, am_nop, o_icmp (fun x y => x < y) 12 9, am_nop, am_nop, o_push (.int (-1000000003)) 11, am_nop, o_iret, o_aload 0 13, o_getR 7 11 8 16, am_nop, am_nop],
  [o_aload 0 17, o_getI 7 11 9 20, am_nop, am_nop, o_iload 1 21, o_iast 22, o_aload 0 23, o_dup 24, o_getI 7 11 9 27, am_nop, am_nop, o_push (.int 1) 28, o_bin (fun x y => x + y) 29, o_putI 7 11 9 32, am_nop, am_nop],
  [o_aload 0 33, o_getI 7 11 9 36, am_nop, am_nop, o_iret, am_nop, am_nop, am_nop, am_nop, am_nop, am_nop, am_nop, am_nop, am_nop, am_nop, am_nop]]
theorem rX7_tell_0 : am_allR (fun pc o => am_ok am_tb0 cX7_tell RX7 2 (some .int) false pc o ∧ am_mo o) 0 (am_nth [] tX7_tell 0) :=
  And.intro ⟨ok_aload_n dX7_tell_0 rfl rfl, mo_aload⟩ (
  And.intro ⟨ok_getI dX7_tell_1 hclX7 inWX7 (by decide) (by decide) wd_246 (fun _ _ _ => rfl) rfl, mo_getI⟩ (
  And.intro ⟨ok_nop, mo_nop⟩ (
  And.intro ⟨ok_nop, mo_nop⟩ (
  And.intro ⟨ok_bipush dX7_tell_4 rfl bi_60, mo_push⟩ (
  And.intro ⟨ok_nop, mo_nop⟩ (
  And.intro ⟨ok_icmp_lt dX7_tell_6 (by decide) rfl, mo_icmp⟩ (
  And.intro ⟨ok_nop, mo_nop⟩ (
  And.intro ⟨ok_nop, mo_nop⟩ (
  And.intro ⟨ok_ldc dX7_tell_9 rfl wd_279, mo_push⟩ (
  And.intro ⟨ok_nop, mo_nop⟩ (
  And.intro ⟨ok_iret dX7_tell_11 rfl, mo_iret⟩ (
  And.intro ⟨ok_aload_n dX7_tell_12 rfl rfl, mo_aload⟩ (
  And.intro ⟨ok_getR dX7_tell_13 hclX7 inWX7 (by decide) (by decide) wd_245 (fun _ _ _ => rfl) rfl, mo_getR⟩ (
  And.intro ⟨ok_nop, mo_nop⟩ (
  And.intro ⟨ok_nop, mo_nop⟩ (
  trivial))))))))))))))))
theorem rX7_tell_1 : am_allR (fun pc o => am_ok am_tb0 cX7_tell RX7 2 (some .int) false pc o ∧ am_mo o) 16 (am_nth [] tX7_tell 1) :=
  And.intro ⟨ok_aload_n dX7_tell_16 rfl rfl, mo_aload⟩ (
  And.intro ⟨ok_getI dX7_tell_17 hclX7 inWX7 (by decide) (by decide) wd_246 (fun _ _ _ => rfl) rfl, mo_getI⟩ (
  And.intro ⟨ok_nop, mo_nop⟩ (
  And.intro ⟨ok_nop, mo_nop⟩ (
  And.intro ⟨ok_iload_n dX7_tell_20 rfl rfl, mo_iload⟩ (
  And.intro ⟨ok_iast dX7_tell_21 rfl, mo_iast⟩ (
  And.intro ⟨ok_aload_n dX7_tell_22 rfl rfl, mo_aload⟩ (
  And.intro ⟨ok_dup dX7_tell_23 rfl, mo_dup⟩ (
  And.intro ⟨ok_getI dX7_tell_24 hclX7 inWX7 (by decide) (by decide) wd_246 (fun _ _ _ => rfl) rfl, mo_getI⟩ (
  And.intro ⟨ok_nop, mo_nop⟩ (
  And.intro ⟨ok_nop, mo_nop⟩ (
  And.intro ⟨ok_iconst dX7_tell_27 rfl ic_1, mo_push⟩ (
  And.intro ⟨ok_iadd dX7_tell_28 rfl, mo_bin⟩ (
  And.intro ⟨ok_putI dX7_tell_29 hclX7 inWX7 tyX7_ok nmX7 (by decide) (by decide) wd_246 rfl (tyX7_ok 9 (by decide)) (fun _ _ _ => rfl) rfl, mo_putI⟩ (
  And.intro ⟨ok_nop, mo_nop⟩ (
  And.intro ⟨ok_nop, mo_nop⟩ (
  trivial))))))))))))))))
theorem rX7_tell_2 : am_allR (fun pc o => am_ok am_tb0 cX7_tell RX7 2 (some .int) false pc o ∧ am_mo o) 32 (am_nth [] tX7_tell 2) :=
  And.intro ⟨ok_aload_n dX7_tell_32 rfl rfl, mo_aload⟩ (
  And.intro ⟨ok_getI dX7_tell_33 hclX7 inWX7 (by decide) (by decide) wd_246 (fun _ _ _ => rfl) rfl, mo_getI⟩ (
  And.intro ⟨ok_nop, mo_nop⟩ (
  And.intro ⟨ok_nop, mo_nop⟩ (
  And.intro ⟨ok_iret dX7_tell_36 rfl, mo_iret⟩ (
  And.intro ⟨ok_nop, mo_nop⟩ (
  And.intro ⟨ok_nop, mo_nop⟩ (
  And.intro ⟨ok_nop, mo_nop⟩ (
  And.intro ⟨ok_nop, mo_nop⟩ (
  And.intro ⟨ok_nop, mo_nop⟩ (
  And.intro ⟨ok_nop, mo_nop⟩ (
  And.intro ⟨ok_nop, mo_nop⟩ (
  And.intro ⟨ok_nop, mo_nop⟩ (
  And.intro ⟨ok_nop, mo_nop⟩ (
  And.intro ⟨ok_nop, mo_nop⟩ (
  And.intro ⟨ok_nop, mo_nop⟩ (
  trivial))))))))))))))))
theorem kX7_tell : am_M1 am_tb0 cX7_tell RX7 2 (some .int) false tX7_tell := And.intro rX7_tell_0 (And.intro rX7_tell_1 (And.intro rX7_tell_2 (trivial)))
def tX7_check : List (List am_Op) := [[o_aload 0 1, o_getI 7 11 9 4, am_nop, am_nop, o_istore 2 5, o_aload 0 6, o_push (.int 0) 7, o_putI 7 11 9 10, am_nop, am_nop, o_iload 1 11, o_push (.int 1) 12, o_icmp (fun x y => x < y) 21 15, am_nop, am_nop, o_iload 1 16],
  [o_push (.int 30) 18, am_nop, o_icmp (fun x y => x ≤ y) 24 21, am_nop, am_nop, o_push (.int (-1000000001)) 23, am_nop, o_iret, o_aload 0 25, o_getI 7 11 3 28, am_nop, am_nop, o_if (fun x => ¬ x = 0) 34 31, am_nop, am_nop, o_push (.int (-1000000002)) 33],
  [am_nop, o_iret, o_aload 0 35, o_getR 7 11 1 38, am_nop, am_nop, o_aload 0 39, o_getR 7 11 2 42, am_nop, am_nop, o_cv 2 14 14 3 2 1 45, am_nop, am_nop, o_iload 1 46, o_push (.int 9999) 49, am_nop],
  [am_nop, o_aload 0 50, o_getR 7 11 2 53, am_nop, am_nop, o_getI 2 14 10 56, am_nop, am_nop, o_bin (fun x y => x - y) 57, o_mbin (fun x y => if y < x then y else x) 60, am_nop, am_nop, o_istore 3 61, o_push (.int 0) 62, o_istore 4 64, am_nop],
  [o_push (.int 0) 65, o_istore 5 67, am_nop, o_iload 5 69, am_nop, o_iload 3 70, o_icmp (fun x y => y ≤ x) 148 73, am_nop, am_nop, o_aload 0 74, o_getR 7 11 1 77, am_nop, am_nop, o_cv 2 14 25 4 4 0 80, am_nop, am_nop],
  [o_iload 4 82, am_nop, o_iload 2 83, o_icmp (fun x y => y ≤ x) 103 86, am_nop, am_nop, o_aload 0 87, o_getR 7 11 8 90, am_nop, am_nop, o_iload 4 92, am_nop, o_iald 20 93, o_aload 0 94, o_getR 7 11 1 97, am_nop],
  [am_nop, o_cv 2 14 27 3 0 0 100, am_nop, am_nop, o_icmp (fun x y => x = y) 108 103, am_nop, am_nop, o_push (.int 1) 104, o_iload 4 106, am_nop, o_bin (fun x y => x + y) 107, o_iret, o_iinc 4 1 111, am_nop, am_nop, o_iload 4 113],
  [am_nop, o_iload 2 114, o_icmp (fun x y => y ≤ x) 134 117, am_nop, am_nop, o_aload 0 118, o_getR 7 11 8 121, am_nop, am_nop, o_iload 4 123, am_nop, o_iald 20 124, o_aload 0 125, o_getR 7 11 1 128, am_nop, am_nop],
  [o_cv 2 14 26 3 0 0 131, am_nop, am_nop, o_icmp (fun x y => x = y) 139 134, am_nop, am_nop, o_push (.int 1) 135, o_iload 4 137, am_nop, o_bin (fun x y => x + y) 138, o_iret, o_iinc 4 1 142, am_nop, am_nop, o_iinc 5 1 145, am_nop],
  [am_nop, o_goto 67, am_nop, am_nop, o_iload 4 150, am_nop, o_iload 2 151, o_icmp (fun x y => ¬ x = y) 158 154, am_nop, am_nop, o_push (.int 0) 155, o_goto 162, am_nop, am_nop, o_push (.int 1) 159, o_iload 4 161],
  [am_nop, o_bin (fun x y => x + y) 162, o_iret, am_nop, am_nop, am_nop, am_nop, am_nop, am_nop, am_nop, am_nop, am_nop, am_nop, am_nop, am_nop, am_nop]]
theorem rX7_check_0 : am_allR (fun pc o => am_ok am_tb0 cX7_check RX7 6 (some .int) false pc o ∧ am_mo o) 0 (am_nth [] tX7_check 0) :=
  And.intro ⟨ok_aload_n dX7_check_0 rfl rfl, mo_aload⟩ (
  And.intro ⟨ok_getI dX7_check_1 hclX7 inWX7 (by decide) (by decide) wd_246 (fun _ _ _ => rfl) rfl, mo_getI⟩ (
  And.intro ⟨ok_nop, mo_nop⟩ (
  And.intro ⟨ok_nop, mo_nop⟩ (
  And.intro ⟨ok_istore_n dX7_check_4 rfl (by decide) rfl, mo_istore⟩ (
  And.intro ⟨ok_aload_n dX7_check_5 rfl rfl, mo_aload⟩ (
  And.intro ⟨ok_iconst dX7_check_6 rfl ic_0, mo_push⟩ (
  And.intro ⟨ok_putI dX7_check_7 hclX7 inWX7 tyX7_ok nmX7 (by decide) (by decide) wd_246 rfl (tyX7_ok 9 (by decide)) (fun _ _ _ => rfl) rfl, mo_putI⟩ (
  And.intro ⟨ok_nop, mo_nop⟩ (
  And.intro ⟨ok_nop, mo_nop⟩ (
  And.intro ⟨ok_iload_n dX7_check_10 rfl rfl, mo_iload⟩ (
  And.intro ⟨ok_iconst dX7_check_11 rfl ic_1, mo_push⟩ (
  And.intro ⟨ok_icmp_lt dX7_check_12 (by decide) rfl, mo_icmp⟩ (
  And.intro ⟨ok_nop, mo_nop⟩ (
  And.intro ⟨ok_nop, mo_nop⟩ (
  And.intro ⟨ok_iload_n dX7_check_15 rfl rfl, mo_iload⟩ (
  trivial))))))))))))))))
theorem rX7_check_1 : am_allR (fun pc o => am_ok am_tb0 cX7_check RX7 6 (some .int) false pc o ∧ am_mo o) 16 (am_nth [] tX7_check 1) :=
  And.intro ⟨ok_bipush dX7_check_16 rfl bi_30, mo_push⟩ (
  And.intro ⟨ok_nop, mo_nop⟩ (
  And.intro ⟨ok_icmp_le dX7_check_18 (by decide) rfl, mo_icmp⟩ (
  And.intro ⟨ok_nop, mo_nop⟩ (
  And.intro ⟨ok_nop, mo_nop⟩ (
  And.intro ⟨ok_ldc dX7_check_21 rfl wd_278, mo_push⟩ (
  And.intro ⟨ok_nop, mo_nop⟩ (
  And.intro ⟨ok_iret dX7_check_23 rfl, mo_iret⟩ (
  And.intro ⟨ok_aload_n dX7_check_24 rfl rfl, mo_aload⟩ (
  And.intro ⟨ok_getI dX7_check_25 hclX7 inWX7 (by decide) (by decide) wd_240 (fun _ _ _ => rfl) rfl, mo_getI⟩ (
  And.intro ⟨ok_nop, mo_nop⟩ (
  And.intro ⟨ok_nop, mo_nop⟩ (
  And.intro ⟨ok_if_ne dX7_check_28 (by decide) rfl, mo_if⟩ (
  And.intro ⟨ok_nop, mo_nop⟩ (
  And.intro ⟨ok_nop, mo_nop⟩ (
  And.intro ⟨ok_ldc dX7_check_31 rfl wd_419, mo_push⟩ (
  trivial))))))))))))))))
theorem rX7_check_2 : am_allR (fun pc o => am_ok am_tb0 cX7_check RX7 6 (some .int) false pc o ∧ am_mo o) 32 (am_nth [] tX7_check 2) :=
  And.intro ⟨ok_nop, mo_nop⟩ (
  And.intro ⟨ok_iret dX7_check_33 rfl, mo_iret⟩ (
  And.intro ⟨ok_aload_n dX7_check_34 rfl rfl, mo_aload⟩ (
  And.intro ⟨ok_getR dX7_check_35 hclX7 inWX7 (by decide) (by decide) wd_238 (fun _ _ _ => rfl) rfl, mo_getR⟩ (
  And.intro ⟨ok_nop, mo_nop⟩ (
  And.intro ⟨ok_nop, mo_nop⟩ (
  And.intro ⟨ok_aload_n dX7_check_38 rfl rfl, mo_aload⟩ (
  And.intro ⟨ok_getR dX7_check_39 hclX7 inWX7 (by decide) (by decide) wd_239 (fun _ _ _ => rfl) rfl, mo_getR⟩ (
  And.intro ⟨ok_nop, mo_nop⟩ (
  And.intro ⟨ok_nop, mo_nop⟩ (
  And.intro ⟨ok_cv (z := 14) dX7_check_42 hclX2 (by decide) wd_501 wd_502 wd_503 wd_2 wd_504 rfl (by decide) ⟨rfl, hy_X2_become⟩ rfl, mo_cv⟩ (
  And.intro ⟨ok_nop, mo_nop⟩ (
  And.intro ⟨ok_nop, mo_nop⟩ (
  And.intro ⟨ok_iload_n dX7_check_45 rfl rfl, mo_iload⟩ (
  And.intro ⟨ok_sipush dX7_check_46 rfl si_9999, mo_push⟩ (
  And.intro ⟨ok_nop, mo_nop⟩ (
  trivial))))))))))))))))
theorem rX7_check_3 : am_allR (fun pc o => am_ok am_tb0 cX7_check RX7 6 (some .int) false pc o ∧ am_mo o) 48 (am_nth [] tX7_check 3) :=
  And.intro ⟨ok_nop, mo_nop⟩ (
  And.intro ⟨ok_aload_n dX7_check_49 rfl rfl, mo_aload⟩ (
  And.intro ⟨ok_getR dX7_check_50 hclX7 inWX7 (by decide) (by decide) wd_239 (fun _ _ _ => rfl) rfl, mo_getR⟩ (
  And.intro ⟨ok_nop, mo_nop⟩ (
  And.intro ⟨ok_nop, mo_nop⟩ (
  And.intro ⟨ok_getIN dX7_check_53 hclX2 inWX2 (by decide) (by decide) wn_91 (fun _ _ _ => rfl) rfl, mo_getI⟩ (
  And.intro ⟨ok_nop, mo_nop⟩ (
  And.intro ⟨ok_nop, mo_nop⟩ (
  And.intro ⟨ok_isub dX7_check_56 rfl, mo_bin⟩ (
  And.intro ⟨ok_mmin dX7_check_57 wd_364 wd_365 wd_10 wm_mmin rfl, mo_mbin⟩ (
  And.intro ⟨ok_nop, mo_nop⟩ (
  And.intro ⟨ok_nop, mo_nop⟩ (
  And.intro ⟨ok_istore_n dX7_check_60 rfl (by decide) rfl, mo_istore⟩ (
  And.intro ⟨ok_iconst dX7_check_61 rfl ic_0, mo_push⟩ (
  And.intro ⟨ok_istore dX7_check_62 (by decide) rfl, mo_istore⟩ (
  And.intro ⟨ok_nop, mo_nop⟩ (
  trivial))))))))))))))))
theorem rX7_check_4 : am_allR (fun pc o => am_ok am_tb0 cX7_check RX7 6 (some .int) false pc o ∧ am_mo o) 64 (am_nth [] tX7_check 4) :=
  And.intro ⟨ok_iconst dX7_check_64 rfl ic_0, mo_push⟩ (
  And.intro ⟨ok_istore dX7_check_65 (by decide) rfl, mo_istore⟩ (
  And.intro ⟨ok_nop, mo_nop⟩ (
  And.intro ⟨ok_iload dX7_check_67 rfl, mo_iload⟩ (
  And.intro ⟨ok_nop, mo_nop⟩ (
  And.intro ⟨ok_iload_n dX7_check_69 rfl rfl, mo_iload⟩ (
  And.intro ⟨ok_icmp_ge dX7_check_70 (by decide) rfl, mo_icmp⟩ (
  And.intro ⟨ok_nop, mo_nop⟩ (
  And.intro ⟨ok_nop, mo_nop⟩ (
  And.intro ⟨ok_aload_n dX7_check_73 rfl rfl, mo_aload⟩ (
  And.intro ⟨ok_getR dX7_check_74 hclX7 inWX7 (by decide) (by decide) wd_238 (fun _ _ _ => rfl) rfl, mo_getR⟩ (
  And.intro ⟨ok_nop, mo_nop⟩ (
  And.intro ⟨ok_nop, mo_nop⟩ (
  And.intro ⟨ok_cv (z := 25) dX7_check_77 hclX2 (by decide) wd_488 wd_489 wd_490 wd_2 wd_491 rfl (by decide) ⟨rfl, hy_X2_passDay⟩ rfl, mo_cv⟩ (
  And.intro ⟨ok_nop, mo_nop⟩ (
  And.intro ⟨ok_nop, mo_nop⟩ (
  trivial))))))))))))))))
theorem rX7_check_5 : am_allR (fun pc o => am_ok am_tb0 cX7_check RX7 6 (some .int) false pc o ∧ am_mo o) 80 (am_nth [] tX7_check 5) :=
  And.intro ⟨ok_iload dX7_check_80 rfl, mo_iload⟩ (
  And.intro ⟨ok_nop, mo_nop⟩ (
  And.intro ⟨ok_iload_n dX7_check_82 rfl rfl, mo_iload⟩ (
  And.intro ⟨ok_icmp_ge dX7_check_83 (by decide) rfl, mo_icmp⟩ (
  And.intro ⟨ok_nop, mo_nop⟩ (
  And.intro ⟨ok_nop, mo_nop⟩ (
  And.intro ⟨ok_aload_n dX7_check_86 rfl rfl, mo_aload⟩ (
  And.intro ⟨ok_getR dX7_check_87 hclX7 inWX7 (by decide) (by decide) wd_245 (fun _ _ _ => rfl) rfl, mo_getR⟩ (
  And.intro ⟨ok_nop, mo_nop⟩ (
  And.intro ⟨ok_nop, mo_nop⟩ (
  And.intro ⟨ok_iload dX7_check_90 rfl, mo_iload⟩ (
  And.intro ⟨ok_nop, mo_nop⟩ (
  And.intro ⟨ok_iald dX7_check_92 rfl, mo_iald⟩ (
  And.intro ⟨ok_aload_n dX7_check_93 rfl rfl, mo_aload⟩ (
  And.intro ⟨ok_getR dX7_check_94 hclX7 inWX7 (by decide) (by decide) wd_238 (fun _ _ _ => rfl) rfl, mo_getR⟩ (
  And.intro ⟨ok_nop, mo_nop⟩ (
  trivial))))))))))))))))
theorem rX7_check_6 : am_allR (fun pc o => am_ok am_tb0 cX7_check RX7 6 (some .int) false pc o ∧ am_mo o) 96 (am_nth [] tX7_check 6) :=
  And.intro ⟨ok_nop, mo_nop⟩ (
  And.intro ⟨ok_cv (z := 27) dX7_check_97 hclX2 (by decide) wd_513 wd_514 wd_515 wd_2 wd_516 rfl (by decide) ⟨rfl, hy_X2_depthSum⟩ rfl, mo_cv⟩ (
  And.intro ⟨ok_nop, mo_nop⟩ (
  And.intro ⟨ok_nop, mo_nop⟩ (
  And.intro ⟨ok_icmp_eq dX7_check_100 (by decide) rfl, mo_icmp⟩ (
  And.intro ⟨ok_nop, mo_nop⟩ (
  And.intro ⟨ok_nop, mo_nop⟩ (
  And.intro ⟨ok_iconst dX7_check_103 rfl ic_1, mo_push⟩ (
  And.intro ⟨ok_iload dX7_check_104 rfl, mo_iload⟩ (
  And.intro ⟨ok_nop, mo_nop⟩ (
  And.intro ⟨ok_iadd dX7_check_106 rfl, mo_bin⟩ (
  And.intro ⟨ok_iret dX7_check_107 rfl, mo_iret⟩ (
  And.intro ⟨ok_iinc dX7_check_108 ic_1 (by decide) rfl, mo_iinc⟩ (
  And.intro ⟨ok_nop, mo_nop⟩ (
  And.intro ⟨ok_nop, mo_nop⟩ (
  And.intro ⟨ok_iload dX7_check_111 rfl, mo_iload⟩ (
  trivial))))))))))))))))
theorem rX7_check_7 : am_allR (fun pc o => am_ok am_tb0 cX7_check RX7 6 (some .int) false pc o ∧ am_mo o) 112 (am_nth [] tX7_check 7) :=
  And.intro ⟨ok_nop, mo_nop⟩ (
  And.intro ⟨ok_iload_n dX7_check_113 rfl rfl, mo_iload⟩ (
  And.intro ⟨ok_icmp_ge dX7_check_114 (by decide) rfl, mo_icmp⟩ (
  And.intro ⟨ok_nop, mo_nop⟩ (
  And.intro ⟨ok_nop, mo_nop⟩ (
  And.intro ⟨ok_aload_n dX7_check_117 rfl rfl, mo_aload⟩ (
  And.intro ⟨ok_getR dX7_check_118 hclX7 inWX7 (by decide) (by decide) wd_245 (fun _ _ _ => rfl) rfl, mo_getR⟩ (
  And.intro ⟨ok_nop, mo_nop⟩ (
  And.intro ⟨ok_nop, mo_nop⟩ (
  And.intro ⟨ok_iload dX7_check_121 rfl, mo_iload⟩ (
  And.intro ⟨ok_nop, mo_nop⟩ (
  And.intro ⟨ok_iald dX7_check_123 rfl, mo_iald⟩ (
  And.intro ⟨ok_aload_n dX7_check_124 rfl rfl, mo_aload⟩ (
  And.intro ⟨ok_getR dX7_check_125 hclX7 inWX7 (by decide) (by decide) wd_238 (fun _ _ _ => rfl) rfl, mo_getR⟩ (
  And.intro ⟨ok_nop, mo_nop⟩ (
  And.intro ⟨ok_nop, mo_nop⟩ (
  trivial))))))))))))))))
theorem rX7_check_8 : am_allR (fun pc o => am_ok am_tb0 cX7_check RX7 6 (some .int) false pc o ∧ am_mo o) 128 (am_nth [] tX7_check 8) :=
  And.intro ⟨ok_cv (z := 26) dX7_check_128 hclX2 (by decide) wd_493 wd_494 wd_495 wd_2 wd_496 rfl (by decide) ⟨rfl, hy_X2_filledCount⟩ rfl, mo_cv⟩ (
  And.intro ⟨ok_nop, mo_nop⟩ (
  And.intro ⟨ok_nop, mo_nop⟩ (
  And.intro ⟨ok_icmp_eq dX7_check_131 (by decide) rfl, mo_icmp⟩ (
  And.intro ⟨ok_nop, mo_nop⟩ (
  And.intro ⟨ok_nop, mo_nop⟩ (
  And.intro ⟨ok_iconst dX7_check_134 rfl ic_1, mo_push⟩ (
  And.intro ⟨ok_iload dX7_check_135 rfl, mo_iload⟩ (
  And.intro ⟨ok_nop, mo_nop⟩ (
  And.intro ⟨ok_iadd dX7_check_137 rfl, mo_bin⟩ (
  And.intro ⟨ok_iret dX7_check_138 rfl, mo_iret⟩ (
  And.intro ⟨ok_iinc dX7_check_139 ic_1 (by decide) rfl, mo_iinc⟩ (
  And.intro ⟨ok_nop, mo_nop⟩ (
  And.intro ⟨ok_nop, mo_nop⟩ (
  And.intro ⟨ok_iinc dX7_check_142 ic_1 (by decide) rfl, mo_iinc⟩ (
  And.intro ⟨ok_nop, mo_nop⟩ (
  trivial))))))))))))))))
theorem rX7_check_9 : am_allR (fun pc o => am_ok am_tb0 cX7_check RX7 6 (some .int) false pc o ∧ am_mo o) 144 (am_nth [] tX7_check 9) :=
  And.intro ⟨ok_nop, mo_nop⟩ (
  And.intro ⟨ok_goto dX7_check_145 (by decide), mo_goto⟩ (
  And.intro ⟨ok_nop, mo_nop⟩ (
  And.intro ⟨ok_nop, mo_nop⟩ (
  And.intro ⟨ok_iload dX7_check_148 rfl, mo_iload⟩ (
  And.intro ⟨ok_nop, mo_nop⟩ (
  And.intro ⟨ok_iload_n dX7_check_150 rfl rfl, mo_iload⟩ (
  And.intro ⟨ok_icmp_ne dX7_check_151 (by decide) rfl, mo_icmp⟩ (
  And.intro ⟨ok_nop, mo_nop⟩ (
  And.intro ⟨ok_nop, mo_nop⟩ (
  And.intro ⟨ok_iconst dX7_check_154 rfl ic_0, mo_push⟩ (
  And.intro ⟨ok_goto dX7_check_155 (by decide), mo_goto⟩ (
  And.intro ⟨ok_nop, mo_nop⟩ (
  And.intro ⟨ok_nop, mo_nop⟩ (
  And.intro ⟨ok_iconst dX7_check_158 rfl ic_1, mo_push⟩ (
  And.intro ⟨ok_iload dX7_check_159 rfl, mo_iload⟩ (
  trivial))))))))))))))))
theorem rX7_check_10 : am_allR (fun pc o => am_ok am_tb0 cX7_check RX7 6 (some .int) false pc o ∧ am_mo o) 160 (am_nth [] tX7_check 10) :=
  And.intro ⟨ok_nop, mo_nop⟩ (
  And.intro ⟨ok_iadd dX7_check_161 rfl, mo_bin⟩ (
  And.intro ⟨ok_iret dX7_check_162 rfl, mo_iret⟩ (
  And.intro ⟨ok_nop, mo_nop⟩ (
  And.intro ⟨ok_nop, mo_nop⟩ (
  And.intro ⟨ok_nop, mo_nop⟩ (
  And.intro ⟨ok_nop, mo_nop⟩ (
  And.intro ⟨ok_nop, mo_nop⟩ (
  And.intro ⟨ok_nop, mo_nop⟩ (
  And.intro ⟨ok_nop, mo_nop⟩ (
  And.intro ⟨ok_nop, mo_nop⟩ (
  And.intro ⟨ok_nop, mo_nop⟩ (
  And.intro ⟨ok_nop, mo_nop⟩ (
  And.intro ⟨ok_nop, mo_nop⟩ (
  And.intro ⟨ok_nop, mo_nop⟩ (
  And.intro ⟨ok_nop, mo_nop⟩ (
  trivial))))))))))))))))
theorem kX7_check : am_M1 am_tb0 cX7_check RX7 6 (some .int) false tX7_check := And.intro rX7_check_0 (And.intro rX7_check_1 (And.intro rX7_check_2 (And.intro rX7_check_3 (And.intro rX7_check_4 (And.intro rX7_check_5 (And.intro rX7_check_6 (And.intro rX7_check_7 (And.intro rX7_check_8 (And.intro rX7_check_9 (And.intro rX7_check_10 (trivial)))))))))))
def tX7_keep : List (List am_Op) := [[o_aload 0 1, o_getR 7 11 2 4, am_nop, am_nop, o_aload 0 5, o_getR 7 11 0 8, am_nop, am_nop, o_cv 2 14 14 3 2 1 11, am_nop, am_nop, o_aload 0 12, o_push (.int 1) 13, o_putZ 7 11 3 16, am_nop, am_nop],
  [o_aload 0 17, o_getR 7 11 0 20, am_nop, am_nop, o_getI 2 14 1 23, am_nop, am_nop, o_iret, am_nop, am_nop, am_nop, am_nop, am_nop, am_nop, am_nop, am_nop]]
theorem rX7_keep_0 : am_allR (fun pc o => am_ok am_tb0 cX7_keep RX7 1 (some .int) false pc o ∧ am_mo o) 0 (am_nth [] tX7_keep 0) :=
  And.intro ⟨ok_aload_n dX7_keep_0 rfl rfl, mo_aload⟩ (
  And.intro ⟨ok_getR dX7_keep_1 hclX7 inWX7 (by decide) (by decide) wd_239 (fun _ _ _ => rfl) rfl, mo_getR⟩ (
  And.intro ⟨ok_nop, mo_nop⟩ (
  And.intro ⟨ok_nop, mo_nop⟩ (
  And.intro ⟨ok_aload_n dX7_keep_4 rfl rfl, mo_aload⟩ (
  And.intro ⟨ok_getR dX7_keep_5 hclX7 inWX7 (by decide) (by decide) wd_237 (fun _ _ _ => rfl) rfl, mo_getR⟩ (
  And.intro ⟨ok_nop, mo_nop⟩ (
  And.intro ⟨ok_nop, mo_nop⟩ (
  And.intro ⟨ok_cv (z := 14) dX7_keep_8 hclX2 (by decide) wd_501 wd_502 wd_503 wd_2 wd_504 rfl (by decide) ⟨rfl, hy_X2_become⟩ rfl, mo_cv⟩ (
  And.intro ⟨ok_nop, mo_nop⟩ (
  And.intro ⟨ok_nop, mo_nop⟩ (
  And.intro ⟨ok_aload_n dX7_keep_11 rfl rfl, mo_aload⟩ (
  And.intro ⟨ok_iconst dX7_keep_12 rfl ic_1, mo_push⟩ (
  And.intro ⟨ok_putZ dX7_keep_13 hclX7 inWX7 tyX7_ok nmX7 (by decide) (by decide) wd_240 rfl (tyX7_ok 3 (by decide)) (fun _ _ _ => rfl) rfl, mo_putZ⟩ (
  And.intro ⟨ok_nop, mo_nop⟩ (
  And.intro ⟨ok_nop, mo_nop⟩ (
  trivial))))))))))))))))
theorem rX7_keep_1 : am_allR (fun pc o => am_ok am_tb0 cX7_keep RX7 1 (some .int) false pc o ∧ am_mo o) 16 (am_nth [] tX7_keep 1) :=
  And.intro ⟨ok_aload_n dX7_keep_16 rfl rfl, mo_aload⟩ (
  And.intro ⟨ok_getR dX7_keep_17 hclX7 inWX7 (by decide) (by decide) wd_237 (fun _ _ _ => rfl) rfl, mo_getR⟩ (
  And.intro ⟨ok_nop, mo_nop⟩ (
  And.intro ⟨ok_nop, mo_nop⟩ (
  And.intro ⟨ok_getIN dX7_keep_20 hclX2 inWX2 (by decide) (by decide) wn_70 (fun _ _ _ => rfl) rfl, mo_getI⟩ (
  And.intro ⟨ok_nop, mo_nop⟩ (
  And.intro ⟨ok_nop, mo_nop⟩ (
  And.intro ⟨ok_iret dX7_keep_23 rfl, mo_iret⟩ (
  And.intro ⟨ok_nop, mo_nop⟩ (
  And.intro ⟨ok_nop, mo_nop⟩ (
  And.intro ⟨ok_nop, mo_nop⟩ (
  And.intro ⟨ok_nop, mo_nop⟩ (
  And.intro ⟨ok_nop, mo_nop⟩ (
  And.intro ⟨ok_nop, mo_nop⟩ (
  And.intro ⟨ok_nop, mo_nop⟩ (
  And.intro ⟨ok_nop, mo_nop⟩ (
  trivial))))))))))))))))
theorem kX7_keep : am_M1 am_tb0 cX7_keep RX7 1 (some .int) false tX7_keep := And.intro rX7_keep_0 (And.intro rX7_keep_1 (trivial))
def tX7_back : List (List am_Op) := [[o_aload 0 1, o_getI 7 11 3 4, am_nop, am_nop, o_if (fun x => ¬ x = 0) 10 7, am_nop, am_nop, o_push (.int (-1000000002)) 9, am_nop, o_iret, o_aload 0 11, o_getR 7 11 0 14, am_nop, am_nop, o_aload 0 15, o_getR 7 11 2 18],
  [am_nop, am_nop, o_cv 2 14 14 3 2 1 21, am_nop, am_nop, o_aload 0 22, o_getR 7 11 0 25, am_nop, am_nop, o_getI 2 14 1 28, am_nop, am_nop, o_iret, am_nop, am_nop, am_nop]]
theorem rX7_back_0 : am_allR (fun pc o => am_ok am_tb0 cX7_back RX7 1 (some .int) false pc o ∧ am_mo o) 0 (am_nth [] tX7_back 0) :=
  And.intro ⟨ok_aload_n dX7_back_0 rfl rfl, mo_aload⟩ (
  And.intro ⟨ok_getI dX7_back_1 hclX7 inWX7 (by decide) (by decide) wd_240 (fun _ _ _ => rfl) rfl, mo_getI⟩ (
  And.intro ⟨ok_nop, mo_nop⟩ (
  And.intro ⟨ok_nop, mo_nop⟩ (
  And.intro ⟨ok_if_ne dX7_back_4 (by decide) rfl, mo_if⟩ (
  And.intro ⟨ok_nop, mo_nop⟩ (
  And.intro ⟨ok_nop, mo_nop⟩ (
  And.intro ⟨ok_ldc dX7_back_7 rfl wd_419, mo_push⟩ (
  And.intro ⟨ok_nop, mo_nop⟩ (
  And.intro ⟨ok_iret dX7_back_9 rfl, mo_iret⟩ (
  And.intro ⟨ok_aload_n dX7_back_10 rfl rfl, mo_aload⟩ (
  And.intro ⟨ok_getR dX7_back_11 hclX7 inWX7 (by decide) (by decide) wd_237 (fun _ _ _ => rfl) rfl, mo_getR⟩ (
  And.intro ⟨ok_nop, mo_nop⟩ (
  And.intro ⟨ok_nop, mo_nop⟩ (
  And.intro ⟨ok_aload_n dX7_back_14 rfl rfl, mo_aload⟩ (
  And.intro ⟨ok_getR dX7_back_15 hclX7 inWX7 (by decide) (by decide) wd_239 (fun _ _ _ => rfl) rfl, mo_getR⟩ (
  trivial))))))))))))))))
theorem rX7_back_1 : am_allR (fun pc o => am_ok am_tb0 cX7_back RX7 1 (some .int) false pc o ∧ am_mo o) 16 (am_nth [] tX7_back 1) :=
  And.intro ⟨ok_nop, mo_nop⟩ (
  And.intro ⟨ok_nop, mo_nop⟩ (
  And.intro ⟨ok_cv (z := 14) dX7_back_18 hclX2 (by decide) wd_501 wd_502 wd_503 wd_2 wd_504 rfl (by decide) ⟨rfl, hy_X2_become⟩ rfl, mo_cv⟩ (
  And.intro ⟨ok_nop, mo_nop⟩ (
  And.intro ⟨ok_nop, mo_nop⟩ (
  And.intro ⟨ok_aload_n dX7_back_21 rfl rfl, mo_aload⟩ (
  And.intro ⟨ok_getR dX7_back_22 hclX7 inWX7 (by decide) (by decide) wd_237 (fun _ _ _ => rfl) rfl, mo_getR⟩ (
  And.intro ⟨ok_nop, mo_nop⟩ (
  And.intro ⟨ok_nop, mo_nop⟩ (
  And.intro ⟨ok_getIN dX7_back_25 hclX2 inWX2 (by decide) (by decide) wn_70 (fun _ _ _ => rfl) rfl, mo_getI⟩ (
  And.intro ⟨ok_nop, mo_nop⟩ (
  And.intro ⟨ok_nop, mo_nop⟩ (
  And.intro ⟨ok_iret dX7_back_28 rfl, mo_iret⟩ (
  And.intro ⟨ok_nop, mo_nop⟩ (
  And.intro ⟨ok_nop, mo_nop⟩ (
  And.intro ⟨ok_nop, mo_nop⟩ (
  trivial))))))))))))))))
theorem kX7_back : am_M1 am_tb0 cX7_back RX7 1 (some .int) false tX7_back := And.intro rX7_back_0 (And.intro rX7_back_1 (trivial))
def tX7_count : List (List am_Op) := [[o_iload 1 1, o_sw [(0, 68), (1, 76), (2, 84), (3, 92), (4, 100), (5, 108), (6, 116), (7, 124), (8, 132), (9, 140), (10, 148), (11, 153), (12, 161)] 169, am_nop, am_nop, am_nop, am_nop, am_nop, am_nop, am_nop, am_nop, am_nop, am_nop, am_nop, am_nop, am_nop, am_nop],
  [am_nop, am_nop, am_nop, am_nop, am_nop, am_nop, am_nop, am_nop, am_nop, am_nop, am_nop, am_nop, am_nop, am_nop, am_nop, am_nop],
  [am_nop, am_nop, am_nop, am_nop, am_nop, am_nop, am_nop, am_nop, am_nop, am_nop, am_nop, am_nop, am_nop, am_nop, am_nop, am_nop],
  [am_nop, am_nop, am_nop, am_nop, am_nop, am_nop, am_nop, am_nop, am_nop, am_nop, am_nop, am_nop, am_nop, am_nop, am_nop, am_nop],
  [am_nop, am_nop, am_nop, am_nop, o_aload 0 69, o_getR 7 11 0 72, am_nop, am_nop, o_getI 2 14 1 75, am_nop, am_nop, o_iret, o_aload 0 77, o_getR 7 11 0 80, am_nop, am_nop],
  [o_cv 2 14 26 3 0 0 83, am_nop, am_nop, o_iret, o_aload 0 85, o_getR 7 11 0 88, am_nop, am_nop, o_getI 2 14 4 91, am_nop, am_nop, o_iret, o_aload 0 93, o_getR 7 11 0 96, am_nop, am_nop],
  [o_getI 2 14 10 99, am_nop, am_nop, o_iret, o_aload 0 101, o_getR 7 11 0 104, am_nop, am_nop, o_cv 2 14 27 3 0 0 107, am_nop, am_nop, o_iret, o_aload 0 109, o_getR 7 11 0 112, am_nop, am_nop],
  [o_getI 2 14 11 115, am_nop, am_nop, o_iret, o_aload 0 117, o_getR 7 11 0 120, am_nop, am_nop, o_getI 2 14 12 123, am_nop, am_nop, o_iret, o_aload 0 125, o_getR 7 11 0 128, am_nop, am_nop],
  [o_getI 2 14 8 131, am_nop, am_nop, o_iret, o_aload 0 133, o_getR 7 11 0 136, am_nop, am_nop, o_getI 2 14 9 139, am_nop, am_nop, o_iret, o_aload 0 141, o_getR 7 11 0 144, am_nop, am_nop],
  [o_getI 2 14 6 147, am_nop, am_nop, o_iret, o_aload 0 149, o_getI 7 11 9 152, am_nop, am_nop, o_iret, o_aload 0 154, o_getR 7 11 5 157, am_nop, am_nop, o_getI 5 11 1 160, am_nop, am_nop],
  [o_iret, o_aload 0 162, o_getR 7 11 0 165, am_nop, am_nop, o_getI 2 14 13 168, am_nop, am_nop, o_iret, o_push (.int (-1000000001)) 171, am_nop, o_iret, am_nop, am_nop, am_nop, am_nop]]
theorem rX7_count_0 : am_allR (fun pc o => am_ok am_tb0 cX7_count RX7 2 (some .int) false pc o ∧ am_mo o) 0 (am_nth [] tX7_count 0) :=
  And.intro ⟨ok_iload_n dX7_count_0 rfl rfl, mo_iload⟩ (
  And.intro ⟨ok_table dX7_count_1 (by decide) (by decide +kernel) (by decide +kernel), mo_sw⟩ (
  And.intro ⟨ok_nop, mo_nop⟩ (
  And.intro ⟨ok_nop, mo_nop⟩ (
  And.intro ⟨ok_nop, mo_nop⟩ (
  And.intro ⟨ok_nop, mo_nop⟩ (
  And.intro ⟨ok_nop, mo_nop⟩ (
  And.intro ⟨ok_nop, mo_nop⟩ (
  And.intro ⟨ok_nop, mo_nop⟩ (
  And.intro ⟨ok_nop, mo_nop⟩ (
  And.intro ⟨ok_nop, mo_nop⟩ (
  And.intro ⟨ok_nop, mo_nop⟩ (
  And.intro ⟨ok_nop, mo_nop⟩ (
  And.intro ⟨ok_nop, mo_nop⟩ (
  And.intro ⟨ok_nop, mo_nop⟩ (
  And.intro ⟨ok_nop, mo_nop⟩ (
  trivial))))))))))))))))
theorem rX7_count_1 : am_allR (fun pc o => am_ok am_tb0 cX7_count RX7 2 (some .int) false pc o ∧ am_mo o) 16 (am_nth [] tX7_count 1) :=
  And.intro ⟨ok_nop, mo_nop⟩ (
  And.intro ⟨ok_nop, mo_nop⟩ (
  And.intro ⟨ok_nop, mo_nop⟩ (
  And.intro ⟨ok_nop, mo_nop⟩ (
  And.intro ⟨ok_nop, mo_nop⟩ (
  And.intro ⟨ok_nop, mo_nop⟩ (
  And.intro ⟨ok_nop, mo_nop⟩ (
  And.intro ⟨ok_nop, mo_nop⟩ (
  And.intro ⟨ok_nop, mo_nop⟩ (
  And.intro ⟨ok_nop, mo_nop⟩ (
  And.intro ⟨ok_nop, mo_nop⟩ (
  And.intro ⟨ok_nop, mo_nop⟩ (
  And.intro ⟨ok_nop, mo_nop⟩ (
  And.intro ⟨ok_nop, mo_nop⟩ (
  And.intro ⟨ok_nop, mo_nop⟩ (
  And.intro ⟨ok_nop, mo_nop⟩ (
  trivial))))))))))))))))
theorem rX7_count_2 : am_allR (fun pc o => am_ok am_tb0 cX7_count RX7 2 (some .int) false pc o ∧ am_mo o) 32 (am_nth [] tX7_count 2) :=
  And.intro ⟨ok_nop, mo_nop⟩ (
  And.intro ⟨ok_nop, mo_nop⟩ (
  And.intro ⟨ok_nop, mo_nop⟩ (
  And.intro ⟨ok_nop, mo_nop⟩ (
  And.intro ⟨ok_nop, mo_nop⟩ (
  And.intro ⟨ok_nop, mo_nop⟩ (
  And.intro ⟨ok_nop, mo_nop⟩ (
  And.intro ⟨ok_nop, mo_nop⟩ (
  And.intro ⟨ok_nop, mo_nop⟩ (
  And.intro ⟨ok_nop, mo_nop⟩ (
  And.intro ⟨ok_nop, mo_nop⟩ (
  And.intro ⟨ok_nop, mo_nop⟩ (
  And.intro ⟨ok_nop, mo_nop⟩ (
  And.intro ⟨ok_nop, mo_nop⟩ (
  And.intro ⟨ok_nop, mo_nop⟩ (
  And.intro ⟨ok_nop, mo_nop⟩ (
  trivial))))))))))))))))
theorem rX7_count_3 : am_allR (fun pc o => am_ok am_tb0 cX7_count RX7 2 (some .int) false pc o ∧ am_mo o) 48 (am_nth [] tX7_count 3) :=
  And.intro ⟨ok_nop, mo_nop⟩ (
  And.intro ⟨ok_nop, mo_nop⟩ (
  And.intro ⟨ok_nop, mo_nop⟩ (
  And.intro ⟨ok_nop, mo_nop⟩ (
  And.intro ⟨ok_nop, mo_nop⟩ (
  And.intro ⟨ok_nop, mo_nop⟩ (
  And.intro ⟨ok_nop, mo_nop⟩ (
  And.intro ⟨ok_nop, mo_nop⟩ (
  And.intro ⟨ok_nop, mo_nop⟩ (
  And.intro ⟨ok_nop, mo_nop⟩ (
  And.intro ⟨ok_nop, mo_nop⟩ (
  And.intro ⟨ok_nop, mo_nop⟩ (
  And.intro ⟨ok_nop, mo_nop⟩ (
  And.intro ⟨ok_nop, mo_nop⟩ (
  And.intro ⟨ok_nop, mo_nop⟩ (
  And.intro ⟨ok_nop, mo_nop⟩ (
  trivial))))))))))))))))
theorem rX7_count_4 : am_allR (fun pc o => am_ok am_tb0 cX7_count RX7 2 (some .int) false pc o ∧ am_mo o) 64 (am_nth [] tX7_count 4) :=
  And.intro ⟨ok_nop, mo_nop⟩ (
  And.intro ⟨ok_nop, mo_nop⟩ (
  And.intro ⟨ok_nop, mo_nop⟩ (
  And.intro ⟨ok_nop, mo_nop⟩ (
  And.intro ⟨ok_aload_n dX7_count_68 rfl rfl, mo_aload⟩ (
  And.intro ⟨ok_getR dX7_count_69 hclX7 inWX7 (by decide) (by decide) wd_237 (fun _ _ _ => rfl) rfl, mo_getR⟩ (
  And.intro ⟨ok_nop, mo_nop⟩ (
  And.intro ⟨ok_nop, mo_nop⟩ (
  And.intro ⟨ok_getIN dX7_count_72 hclX2 inWX2 (by decide) (by decide) wn_70 (fun _ _ _ => rfl) rfl, mo_getI⟩ (
  And.intro ⟨ok_nop, mo_nop⟩ (
  And.intro ⟨ok_nop, mo_nop⟩ (
  And.intro ⟨ok_iret dX7_count_75 rfl, mo_iret⟩ (
  And.intro ⟨ok_aload_n dX7_count_76 rfl rfl, mo_aload⟩ (
  And.intro ⟨ok_getR dX7_count_77 hclX7 inWX7 (by decide) (by decide) wd_237 (fun _ _ _ => rfl) rfl, mo_getR⟩ (
  And.intro ⟨ok_nop, mo_nop⟩ (
  And.intro ⟨ok_nop, mo_nop⟩ (
  trivial))))))))))))))))
theorem rX7_count_5 : am_allR (fun pc o => am_ok am_tb0 cX7_count RX7 2 (some .int) false pc o ∧ am_mo o) 80 (am_nth [] tX7_count 5) :=
  And.intro ⟨ok_cv (z := 26) dX7_count_80 hclX2 (by decide) wd_493 wd_494 wd_495 wd_2 wd_496 rfl (by decide) ⟨rfl, hy_X2_filledCount⟩ rfl, mo_cv⟩ (
  And.intro ⟨ok_nop, mo_nop⟩ (
  And.intro ⟨ok_nop, mo_nop⟩ (
  And.intro ⟨ok_iret dX7_count_83 rfl, mo_iret⟩ (
  And.intro ⟨ok_aload_n dX7_count_84 rfl rfl, mo_aload⟩ (
  And.intro ⟨ok_getR dX7_count_85 hclX7 inWX7 (by decide) (by decide) wd_237 (fun _ _ _ => rfl) rfl, mo_getR⟩ (
  And.intro ⟨ok_nop, mo_nop⟩ (
  And.intro ⟨ok_nop, mo_nop⟩ (
  And.intro ⟨ok_getIN dX7_count_88 hclX2 inWX2 (by decide) (by decide) wn_80 (fun _ _ _ => rfl) rfl, mo_getI⟩ (
  And.intro ⟨ok_nop, mo_nop⟩ (
  And.intro ⟨ok_nop, mo_nop⟩ (
  And.intro ⟨ok_iret dX7_count_91 rfl, mo_iret⟩ (
  And.intro ⟨ok_aload_n dX7_count_92 rfl rfl, mo_aload⟩ (
  And.intro ⟨ok_getR dX7_count_93 hclX7 inWX7 (by decide) (by decide) wd_237 (fun _ _ _ => rfl) rfl, mo_getR⟩ (
  And.intro ⟨ok_nop, mo_nop⟩ (
  And.intro ⟨ok_nop, mo_nop⟩ (
  trivial))))))))))))))))
theorem rX7_count_6 : am_allR (fun pc o => am_ok am_tb0 cX7_count RX7 2 (some .int) false pc o ∧ am_mo o) 96 (am_nth [] tX7_count 6) :=
  And.intro ⟨ok_getIN dX7_count_96 hclX2 inWX2 (by decide) (by decide) wn_91 (fun _ _ _ => rfl) rfl, mo_getI⟩ (
  And.intro ⟨ok_nop, mo_nop⟩ (
  And.intro ⟨ok_nop, mo_nop⟩ (
  And.intro ⟨ok_iret dX7_count_99 rfl, mo_iret⟩ (
  And.intro ⟨ok_aload_n dX7_count_100 rfl rfl, mo_aload⟩ (
  And.intro ⟨ok_getR dX7_count_101 hclX7 inWX7 (by decide) (by decide) wd_237 (fun _ _ _ => rfl) rfl, mo_getR⟩ (
  And.intro ⟨ok_nop, mo_nop⟩ (
  And.intro ⟨ok_nop, mo_nop⟩ (
  And.intro ⟨ok_cv (z := 27) dX7_count_104 hclX2 (by decide) wd_513 wd_514 wd_515 wd_2 wd_516 rfl (by decide) ⟨rfl, hy_X2_depthSum⟩ rfl, mo_cv⟩ (
  And.intro ⟨ok_nop, mo_nop⟩ (
  And.intro ⟨ok_nop, mo_nop⟩ (
  And.intro ⟨ok_iret dX7_count_107 rfl, mo_iret⟩ (
  And.intro ⟨ok_aload_n dX7_count_108 rfl rfl, mo_aload⟩ (
  And.intro ⟨ok_getR dX7_count_109 hclX7 inWX7 (by decide) (by decide) wd_237 (fun _ _ _ => rfl) rfl, mo_getR⟩ (
  And.intro ⟨ok_nop, mo_nop⟩ (
  And.intro ⟨ok_nop, mo_nop⟩ (
  trivial))))))))))))))))
theorem rX7_count_7 : am_allR (fun pc o => am_ok am_tb0 cX7_count RX7 2 (some .int) false pc o ∧ am_mo o) 112 (am_nth [] tX7_count 7) :=
  And.intro ⟨ok_getIN dX7_count_112 hclX2 inWX2 (by decide) (by decide) wn_93 (fun _ _ _ => rfl) rfl, mo_getI⟩ (
  And.intro ⟨ok_nop, mo_nop⟩ (
  And.intro ⟨ok_nop, mo_nop⟩ (
  And.intro ⟨ok_iret dX7_count_115 rfl, mo_iret⟩ (
  And.intro ⟨ok_aload_n dX7_count_116 rfl rfl, mo_aload⟩ (
  And.intro ⟨ok_getR dX7_count_117 hclX7 inWX7 (by decide) (by decide) wd_237 (fun _ _ _ => rfl) rfl, mo_getR⟩ (
  And.intro ⟨ok_nop, mo_nop⟩ (
  And.intro ⟨ok_nop, mo_nop⟩ (
  And.intro ⟨ok_getIN dX7_count_120 hclX2 inWX2 (by decide) (by decide) wn_95 (fun _ _ _ => rfl) rfl, mo_getI⟩ (
  And.intro ⟨ok_nop, mo_nop⟩ (
  And.intro ⟨ok_nop, mo_nop⟩ (
  And.intro ⟨ok_iret dX7_count_123 rfl, mo_iret⟩ (
  And.intro ⟨ok_aload_n dX7_count_124 rfl rfl, mo_aload⟩ (
  And.intro ⟨ok_getR dX7_count_125 hclX7 inWX7 (by decide) (by decide) wd_237 (fun _ _ _ => rfl) rfl, mo_getR⟩ (
  And.intro ⟨ok_nop, mo_nop⟩ (
  And.intro ⟨ok_nop, mo_nop⟩ (
  trivial))))))))))))))))
theorem rX7_count_8 : am_allR (fun pc o => am_ok am_tb0 cX7_count RX7 2 (some .int) false pc o ∧ am_mo o) 128 (am_nth [] tX7_count 8) :=
  And.intro ⟨ok_getIN dX7_count_128 hclX2 inWX2 (by decide) (by decide) wn_87 (fun _ _ _ => rfl) rfl, mo_getI⟩ (
  And.intro ⟨ok_nop, mo_nop⟩ (
  And.intro ⟨ok_nop, mo_nop⟩ (
  And.intro ⟨ok_iret dX7_count_131 rfl, mo_iret⟩ (
  And.intro ⟨ok_aload_n dX7_count_132 rfl rfl, mo_aload⟩ (
  And.intro ⟨ok_getR dX7_count_133 hclX7 inWX7 (by decide) (by decide) wd_237 (fun _ _ _ => rfl) rfl, mo_getR⟩ (
  And.intro ⟨ok_nop, mo_nop⟩ (
  And.intro ⟨ok_nop, mo_nop⟩ (
  And.intro ⟨ok_getIN dX7_count_136 hclX2 inWX2 (by decide) (by decide) wn_89 (fun _ _ _ => rfl) rfl, mo_getI⟩ (
  And.intro ⟨ok_nop, mo_nop⟩ (
  And.intro ⟨ok_nop, mo_nop⟩ (
  And.intro ⟨ok_iret dX7_count_139 rfl, mo_iret⟩ (
  And.intro ⟨ok_aload_n dX7_count_140 rfl rfl, mo_aload⟩ (
  And.intro ⟨ok_getR dX7_count_141 hclX7 inWX7 (by decide) (by decide) wd_237 (fun _ _ _ => rfl) rfl, mo_getR⟩ (
  And.intro ⟨ok_nop, mo_nop⟩ (
  And.intro ⟨ok_nop, mo_nop⟩ (
  trivial))))))))))))))))
theorem rX7_count_9 : am_allR (fun pc o => am_ok am_tb0 cX7_count RX7 2 (some .int) false pc o ∧ am_mo o) 144 (am_nth [] tX7_count 9) :=
  And.intro ⟨ok_getIN dX7_count_144 hclX2 inWX2 (by decide) (by decide) wn_83 (fun _ _ _ => rfl) rfl, mo_getI⟩ (
  And.intro ⟨ok_nop, mo_nop⟩ (
  And.intro ⟨ok_nop, mo_nop⟩ (
  And.intro ⟨ok_iret dX7_count_147 rfl, mo_iret⟩ (
  And.intro ⟨ok_aload_n dX7_count_148 rfl rfl, mo_aload⟩ (
  And.intro ⟨ok_getI dX7_count_149 hclX7 inWX7 (by decide) (by decide) wd_246 (fun _ _ _ => rfl) rfl, mo_getI⟩ (
  And.intro ⟨ok_nop, mo_nop⟩ (
  And.intro ⟨ok_nop, mo_nop⟩ (
  And.intro ⟨ok_iret dX7_count_152 rfl, mo_iret⟩ (
  And.intro ⟨ok_aload_n dX7_count_153 rfl rfl, mo_aload⟩ (
  And.intro ⟨ok_getR dX7_count_154 hclX7 inWX7 (by decide) (by decide) wd_242 (fun _ _ _ => rfl) rfl, mo_getR⟩ (
  And.intro ⟨ok_nop, mo_nop⟩ (
  And.intro ⟨ok_nop, mo_nop⟩ (
  And.intro ⟨ok_getIN dX7_count_157 hclX5 inWX5 (by decide) (by decide) wn_155 (fun _ _ _ => rfl) rfl, mo_getI⟩ (
  And.intro ⟨ok_nop, mo_nop⟩ (
  And.intro ⟨ok_nop, mo_nop⟩ (
  trivial))))))))))))))))
theorem rX7_count_10 : am_allR (fun pc o => am_ok am_tb0 cX7_count RX7 2 (some .int) false pc o ∧ am_mo o) 160 (am_nth [] tX7_count 10) :=
  And.intro ⟨ok_iret dX7_count_160 rfl, mo_iret⟩ (
  And.intro ⟨ok_aload_n dX7_count_161 rfl rfl, mo_aload⟩ (
  And.intro ⟨ok_getR dX7_count_162 hclX7 inWX7 (by decide) (by decide) wd_237 (fun _ _ _ => rfl) rfl, mo_getR⟩ (
  And.intro ⟨ok_nop, mo_nop⟩ (
  And.intro ⟨ok_nop, mo_nop⟩ (
  And.intro ⟨ok_getIN dX7_count_165 hclX2 inWX2 (by decide) (by decide) wn_97 (fun _ _ _ => rfl) rfl, mo_getI⟩ (
  And.intro ⟨ok_nop, mo_nop⟩ (
  And.intro ⟨ok_nop, mo_nop⟩ (
  And.intro ⟨ok_iret dX7_count_168 rfl, mo_iret⟩ (
  And.intro ⟨ok_ldc dX7_count_169 rfl wd_278, mo_push⟩ (
  And.intro ⟨ok_nop, mo_nop⟩ (
  And.intro ⟨ok_iret dX7_count_171 rfl, mo_iret⟩ (
  And.intro ⟨ok_nop, mo_nop⟩ (
  And.intro ⟨ok_nop, mo_nop⟩ (
  And.intro ⟨ok_nop, mo_nop⟩ (
  And.intro ⟨ok_nop, mo_nop⟩ (
  trivial))))))))))))))))
theorem kX7_count : am_M1 am_tb0 cX7_count RX7 2 (some .int) false tX7_count := And.intro rX7_count_0 (And.intro rX7_count_1 (And.intro rX7_count_2 (And.intro rX7_count_3 (And.intro rX7_count_4 (And.intro rX7_count_5 (And.intro rX7_count_6 (And.intro rX7_count_7 (And.intro rX7_count_8 (And.intro rX7_count_9 (And.intro rX7_count_10 (trivial)))))))))))
def tX7_within : List (List am_Op) := [[o_iload 0 1, o_if (fun x => x < 0) 13 4, am_nop, am_nop, o_iload 0 5, o_iload 1 6, o_icmp (fun x y => y < x) 13 9, am_nop, am_nop, o_push (.int 1) 10, o_goto 14, am_nop, am_nop, o_push (.int 0) 14, o_nret .boolean]]
theorem rX7_within_0 : am_allR (fun pc o => am_ok am_tb0 cX7_within RX7 2 (some .boolean) false pc o ∧ am_mo o) 0 (am_nth [] tX7_within 0) :=
  And.intro ⟨ok_iload_n dX7_within_0 rfl rfl, mo_iload⟩ (
  And.intro ⟨ok_if_lt dX7_within_1 (by decide) rfl, mo_if⟩ (
  And.intro ⟨ok_nop, mo_nop⟩ (
  And.intro ⟨ok_nop, mo_nop⟩ (
  And.intro ⟨ok_iload_n dX7_within_4 rfl rfl, mo_iload⟩ (
  And.intro ⟨ok_iload_n dX7_within_5 rfl rfl, mo_iload⟩ (
  And.intro ⟨ok_icmp_gt dX7_within_6 (by decide) rfl, mo_icmp⟩ (
  And.intro ⟨ok_nop, mo_nop⟩ (
  And.intro ⟨ok_nop, mo_nop⟩ (
  And.intro ⟨ok_iconst dX7_within_9 rfl ic_1, mo_push⟩ (
  And.intro ⟨ok_goto dX7_within_10 (by decide), mo_goto⟩ (
  And.intro ⟨ok_nop, mo_nop⟩ (
  And.intro ⟨ok_nop, mo_nop⟩ (
  And.intro ⟨ok_iconst dX7_within_13 rfl ic_0, mo_push⟩ (
  And.intro ⟨ok_nret dX7_within_14 rfl, mo_nret⟩ (
  trivial)))))))))))))))
theorem kX7_within : am_M1 am_tb0 cX7_within RX7 2 (some .boolean) false tX7_within := And.intro rX7_within_0 (trivial)
def tX7_isSpades : List (List am_Op) := [[o_iload 0 1, o_push (.int 1) 2, o_icmp (fun x y => x < y) 15 5, am_nop, am_nop, o_iload 0 6, o_push (.int 99) 8, am_nop, o_icmp (fun x y => y < x) 15 11, am_nop, am_nop, o_push (.int 1) 12, o_goto 16, am_nop, am_nop, o_push (.int 0) 16],
  [o_nret .boolean, am_nop, am_nop, am_nop, am_nop, am_nop, am_nop, am_nop, am_nop, am_nop, am_nop, am_nop, am_nop, am_nop, am_nop, am_nop]]
theorem rX7_isSpades_0 : am_allR (fun pc o => am_ok am_tb0 cX7_isSpades RX7 1 (some .boolean) false pc o ∧ am_mo o) 0 (am_nth [] tX7_isSpades 0) :=
  And.intro ⟨ok_iload_n dX7_isSpades_0 rfl rfl, mo_iload⟩ (
  And.intro ⟨ok_iconst dX7_isSpades_1 rfl ic_1, mo_push⟩ (
  And.intro ⟨ok_icmp_lt dX7_isSpades_2 (by decide) rfl, mo_icmp⟩ (
  And.intro ⟨ok_nop, mo_nop⟩ (
  And.intro ⟨ok_nop, mo_nop⟩ (
  And.intro ⟨ok_iload_n dX7_isSpades_5 rfl rfl, mo_iload⟩ (
  And.intro ⟨ok_bipush dX7_isSpades_6 rfl bi_99, mo_push⟩ (
  And.intro ⟨ok_nop, mo_nop⟩ (
  And.intro ⟨ok_icmp_gt dX7_isSpades_8 (by decide) rfl, mo_icmp⟩ (
  And.intro ⟨ok_nop, mo_nop⟩ (
  And.intro ⟨ok_nop, mo_nop⟩ (
  And.intro ⟨ok_iconst dX7_isSpades_11 rfl ic_1, mo_push⟩ (
  And.intro ⟨ok_goto dX7_isSpades_12 (by decide), mo_goto⟩ (
  And.intro ⟨ok_nop, mo_nop⟩ (
  And.intro ⟨ok_nop, mo_nop⟩ (
  And.intro ⟨ok_iconst dX7_isSpades_15 rfl ic_0, mo_push⟩ (
  trivial))))))))))))))))
theorem rX7_isSpades_1 : am_allR (fun pc o => am_ok am_tb0 cX7_isSpades RX7 1 (some .boolean) false pc o ∧ am_mo o) 16 (am_nth [] tX7_isSpades 1) :=
  And.intro ⟨ok_nret dX7_isSpades_16 rfl, mo_nret⟩ (
  And.intro ⟨ok_nop, mo_nop⟩ (
  And.intro ⟨ok_nop, mo_nop⟩ (
  And.intro ⟨ok_nop, mo_nop⟩ (
  And.intro ⟨ok_nop, mo_nop⟩ (
  And.intro ⟨ok_nop, mo_nop⟩ (
  And.intro ⟨ok_nop, mo_nop⟩ (
  And.intro ⟨ok_nop, mo_nop⟩ (
  And.intro ⟨ok_nop, mo_nop⟩ (
  And.intro ⟨ok_nop, mo_nop⟩ (
  And.intro ⟨ok_nop, mo_nop⟩ (
  And.intro ⟨ok_nop, mo_nop⟩ (
  And.intro ⟨ok_nop, mo_nop⟩ (
  And.intro ⟨ok_nop, mo_nop⟩ (
  And.intro ⟨ok_nop, mo_nop⟩ (
  And.intro ⟨ok_nop, mo_nop⟩ (
  trivial))))))))))))))))
theorem kX7_isSpades : am_M1 am_tb0 cX7_isSpades RX7 1 (some .boolean) false tX7_isSpades := And.intro rX7_isSpades_0 (And.intro rX7_isSpades_1 (trivial))
def tX7_held : List (List am_Op) := [[o_push (.int 0) 1, o_iload 1 2, o_iload 0 3, o_mbin (fun x y => if y < x then y else x) 6, am_nop, am_nop, o_mbin (fun x y => if x < y then y else x) 9, am_nop, am_nop, o_iret]]
theorem rX7_held_0 : am_allR (fun pc o => am_ok am_tb0 cX7_held RX7 2 (some .int) false pc o ∧ am_mo o) 0 (am_nth [] tX7_held 0) :=
  And.intro ⟨ok_iconst dX7_held_0 rfl ic_0, mo_push⟩ (
  And.intro ⟨ok_iload_n dX7_held_1 rfl rfl, mo_iload⟩ (
  And.intro ⟨ok_iload_n dX7_held_2 rfl rfl, mo_iload⟩ (
  And.intro ⟨ok_mmin dX7_held_3 wd_364 wd_365 wd_10 wm_mmin rfl, mo_mbin⟩ (
  And.intro ⟨ok_nop, mo_nop⟩ (
  And.intro ⟨ok_nop, mo_nop⟩ (
  And.intro ⟨ok_mmax dX7_held_6 wd_367 wd_368 wd_10 wm_mmax rfl, mo_mbin⟩ (
  And.intro ⟨ok_nop, mo_nop⟩ (
  And.intro ⟨ok_nop, mo_nop⟩ (
  And.intro ⟨ok_iret dX7_held_9 rfl, mo_iret⟩ (
  trivial))))))))))
theorem kX7_held : am_M1 am_tb0 cX7_held RX7 2 (some .int) false tX7_held := And.intro rX7_held_0 (trivial)
def tX7_mostOf : List (List am_Op) := [[o_iload 0 1, o_sw [(1, 32), (2, 35), (3, 38), (4, 41)] 45, am_nop, am_nop, am_nop, am_nop, am_nop, am_nop, am_nop, am_nop, am_nop, am_nop, am_nop, am_nop, am_nop, am_nop],
  [am_nop, am_nop, am_nop, am_nop, am_nop, am_nop, am_nop, am_nop, am_nop, am_nop, am_nop, am_nop, am_nop, am_nop, am_nop, am_nop],
  [o_push (.int 29) 34, am_nop, o_iret, o_push (.int 99) 37, am_nop, o_iret, o_push (.int 7) 40, am_nop, o_iret, o_push (.int 999) 44, am_nop, am_nop, o_iret, o_push (.int (-1)) 46, o_iret, am_nop]]
theorem rX7_mostOf_0 : am_allR (fun pc o => am_ok am_tb0 cX7_mostOf RX7 1 (some .int) false pc o ∧ am_mo o) 0 (am_nth [] tX7_mostOf 0) :=
  And.intro ⟨ok_iload_n dX7_mostOf_0 rfl rfl, mo_iload⟩ (
  And.intro ⟨ok_table dX7_mostOf_1 (by decide) (by decide +kernel) (by decide +kernel), mo_sw⟩ (
  And.intro ⟨ok_nop, mo_nop⟩ (
  And.intro ⟨ok_nop, mo_nop⟩ (
  And.intro ⟨ok_nop, mo_nop⟩ (
  And.intro ⟨ok_nop, mo_nop⟩ (
  And.intro ⟨ok_nop, mo_nop⟩ (
  And.intro ⟨ok_nop, mo_nop⟩ (
  And.intro ⟨ok_nop, mo_nop⟩ (
  And.intro ⟨ok_nop, mo_nop⟩ (
  And.intro ⟨ok_nop, mo_nop⟩ (
  And.intro ⟨ok_nop, mo_nop⟩ (
  And.intro ⟨ok_nop, mo_nop⟩ (
  And.intro ⟨ok_nop, mo_nop⟩ (
  And.intro ⟨ok_nop, mo_nop⟩ (
  And.intro ⟨ok_nop, mo_nop⟩ (
  trivial))))))))))))))))
theorem rX7_mostOf_1 : am_allR (fun pc o => am_ok am_tb0 cX7_mostOf RX7 1 (some .int) false pc o ∧ am_mo o) 16 (am_nth [] tX7_mostOf 1) :=
  And.intro ⟨ok_nop, mo_nop⟩ (
  And.intro ⟨ok_nop, mo_nop⟩ (
  And.intro ⟨ok_nop, mo_nop⟩ (
  And.intro ⟨ok_nop, mo_nop⟩ (
  And.intro ⟨ok_nop, mo_nop⟩ (
  And.intro ⟨ok_nop, mo_nop⟩ (
  And.intro ⟨ok_nop, mo_nop⟩ (
  And.intro ⟨ok_nop, mo_nop⟩ (
  And.intro ⟨ok_nop, mo_nop⟩ (
  And.intro ⟨ok_nop, mo_nop⟩ (
  And.intro ⟨ok_nop, mo_nop⟩ (
  And.intro ⟨ok_nop, mo_nop⟩ (
  And.intro ⟨ok_nop, mo_nop⟩ (
  And.intro ⟨ok_nop, mo_nop⟩ (
  And.intro ⟨ok_nop, mo_nop⟩ (
  And.intro ⟨ok_nop, mo_nop⟩ (
  trivial))))))))))))))))
theorem rX7_mostOf_2 : am_allR (fun pc o => am_ok am_tb0 cX7_mostOf RX7 1 (some .int) false pc o ∧ am_mo o) 32 (am_nth [] tX7_mostOf 2) :=
  And.intro ⟨ok_bipush dX7_mostOf_32 rfl bi_29, mo_push⟩ (
  And.intro ⟨ok_nop, mo_nop⟩ (
  And.intro ⟨ok_iret dX7_mostOf_34 rfl, mo_iret⟩ (
  And.intro ⟨ok_bipush dX7_mostOf_35 rfl bi_99, mo_push⟩ (
  And.intro ⟨ok_nop, mo_nop⟩ (
  And.intro ⟨ok_iret dX7_mostOf_37 rfl, mo_iret⟩ (
  And.intro ⟨ok_bipush dX7_mostOf_38 rfl bi_7, mo_push⟩ (
  And.intro ⟨ok_nop, mo_nop⟩ (
  And.intro ⟨ok_iret dX7_mostOf_40 rfl, mo_iret⟩ (
  And.intro ⟨ok_sipush dX7_mostOf_41 rfl si_999, mo_push⟩ (
  And.intro ⟨ok_nop, mo_nop⟩ (
  And.intro ⟨ok_nop, mo_nop⟩ (
  And.intro ⟨ok_iret dX7_mostOf_44 rfl, mo_iret⟩ (
  And.intro ⟨ok_iconst dX7_mostOf_45 rfl ic_m1, mo_push⟩ (
  And.intro ⟨ok_iret dX7_mostOf_46 rfl, mo_iret⟩ (
  And.intro ⟨ok_nop, mo_nop⟩ (
  trivial))))))))))))))))
theorem kX7_mostOf : am_M1 am_tb0 cX7_mostOf RX7 1 (some .int) false tX7_mostOf := And.intro rX7_mostOf_0 (And.intro rX7_mostOf_1 (And.intro rX7_mostOf_2 (trivial)))
def tX7_addDifferences : List (List am_Op) := [[o_aload 0 1, o_getR 7 11 10 4, am_nop, am_nop, o_push (.int 0) 5, o_cs 217 4 0 2 8, am_nop, am_nop, o_aload 0 9, o_getR 7 11 1 12, am_nop, am_nop, o_aload 0 13, o_getR 7 11 0 16, am_nop, am_nop],
  [o_cv 2 14 14 3 2 1 19, am_nop, am_nop, o_push (.int 0) 20, o_istore 2 21, o_iload 2 22, o_aload 1 23, o_getI 3 3 1 26, am_nop, am_nop, o_icmp (fun x y => y ≤ x) 100 29, am_nop, am_nop, o_push (.int 0) 30, o_istore 3 31, o_iload 3 32],
  [o_aload 0 33, o_getR 7 11 1 36, am_nop, am_nop, o_getI 2 14 1 39, am_nop, am_nop, o_icmp (fun x y => y ≤ x) 87 42, am_nop, am_nop, o_aload 1 43, o_iload 2 44, o_cv 3 3 38 2 1 1 47, am_nop, am_nop, o_if (fun x => x = 0) 87 50],
  [am_nop, am_nop, o_aload 0 51, o_getR 7 11 10 54, am_nop, am_nop, o_iload 3 55, o_dup2 56, o_iald 20 57, o_aload 0 58, o_getR 7 11 1 61, am_nop, am_nop, o_getR 2 14 0 64, am_nop, am_nop],
  [o_iload 3 65, o_aald 31 66, o_getI 1 5 2 69, am_nop, am_nop, o_aload 1 70, o_getR 3 3 2 73, am_nop, am_nop, o_iload 2 74, o_iald 20 75, o_bin (fun x y => x - y) 76, o_mabs 79, am_nop, am_nop, o_bin (fun x y => x + y) 80],
  [o_iast 81, o_iinc 3 1 84, am_nop, am_nop, o_goto 31, am_nop, am_nop, o_aload 0 88, o_getR 7 11 1 91, am_nop, am_nop, o_cv 2 14 25 4 4 0 94, am_nop, am_nop, o_iinc 2 1 97, am_nop],
  [am_nop, o_goto 21, am_nop, am_nop, o_ret, am_nop, am_nop, am_nop, am_nop, am_nop, am_nop, am_nop, am_nop, am_nop, am_nop, am_nop]]
theorem rX7_addDifferences_0 : am_allR (fun pc o => am_ok am_tb0 cX7_addDifferences RX7 4 none false pc o ∧ am_mo o) 0 (am_nth [] tX7_addDifferences 0) :=
  And.intro ⟨ok_aload_n dX7_addDifferences_0 rfl rfl, mo_aload⟩ (
  And.intro ⟨ok_getR dX7_addDifferences_1 hclX7 inWX7 (by decide) (by decide) wd_247 (fun _ _ _ => rfl) rfl, mo_getR⟩ (
  And.intro ⟨ok_nop, mo_nop⟩ (
  And.intro ⟨ok_nop, mo_nop⟩ (
  And.intro ⟨ok_iconst dX7_addDifferences_4 rfl ic_0, mo_push⟩ (
  And.intro ⟨ok_cs (z := 217) dX7_addDifferences_5 wd_550 wd_551 wd_11 wd_552 rfl (by decide) hy_J7_fill_53178 rfl, mo_cs⟩ (
  And.intro ⟨ok_nop, mo_nop⟩ (
  And.intro ⟨ok_nop, mo_nop⟩ (
  And.intro ⟨ok_aload_n dX7_addDifferences_8 rfl rfl, mo_aload⟩ (
  And.intro ⟨ok_getR dX7_addDifferences_9 hclX7 inWX7 (by decide) (by decide) wd_238 (fun _ _ _ => rfl) rfl, mo_getR⟩ (
  And.intro ⟨ok_nop, mo_nop⟩ (
  And.intro ⟨ok_nop, mo_nop⟩ (
  And.intro ⟨ok_aload_n dX7_addDifferences_12 rfl rfl, mo_aload⟩ (
  And.intro ⟨ok_getR dX7_addDifferences_13 hclX7 inWX7 (by decide) (by decide) wd_237 (fun _ _ _ => rfl) rfl, mo_getR⟩ (
  And.intro ⟨ok_nop, mo_nop⟩ (
  And.intro ⟨ok_nop, mo_nop⟩ (
  trivial))))))))))))))))
theorem rX7_addDifferences_1 : am_allR (fun pc o => am_ok am_tb0 cX7_addDifferences RX7 4 none false pc o ∧ am_mo o) 16 (am_nth [] tX7_addDifferences 1) :=
  And.intro ⟨ok_cv (z := 14) dX7_addDifferences_16 hclX2 (by decide) wd_501 wd_502 wd_503 wd_2 wd_504 rfl (by decide) ⟨rfl, hy_X2_become⟩ rfl, mo_cv⟩ (
  And.intro ⟨ok_nop, mo_nop⟩ (
  And.intro ⟨ok_nop, mo_nop⟩ (
  And.intro ⟨ok_iconst dX7_addDifferences_19 rfl ic_0, mo_push⟩ (
  And.intro ⟨ok_istore_n dX7_addDifferences_20 rfl (by decide) rfl, mo_istore⟩ (
  And.intro ⟨ok_iload_n dX7_addDifferences_21 rfl rfl, mo_iload⟩ (
  And.intro ⟨ok_aload_n dX7_addDifferences_22 rfl rfl, mo_aload⟩ (
  And.intro ⟨ok_getIN dX7_addDifferences_23 hclX3 inWX3 (by decide) (by decide) wn_201 (fun _ _ _ => rfl) rfl, mo_getI⟩ (
  And.intro ⟨ok_nop, mo_nop⟩ (
  And.intro ⟨ok_nop, mo_nop⟩ (
  And.intro ⟨ok_icmp_ge dX7_addDifferences_26 (by decide) rfl, mo_icmp⟩ (
  And.intro ⟨ok_nop, mo_nop⟩ (
  And.intro ⟨ok_nop, mo_nop⟩ (
  And.intro ⟨ok_iconst dX7_addDifferences_29 rfl ic_0, mo_push⟩ (
  And.intro ⟨ok_istore_n dX7_addDifferences_30 rfl (by decide) rfl, mo_istore⟩ (
  And.intro ⟨ok_iload_n dX7_addDifferences_31 rfl rfl, mo_iload⟩ (
  trivial))))))))))))))))
theorem rX7_addDifferences_2 : am_allR (fun pc o => am_ok am_tb0 cX7_addDifferences RX7 4 none false pc o ∧ am_mo o) 32 (am_nth [] tX7_addDifferences 2) :=
  And.intro ⟨ok_aload_n dX7_addDifferences_32 rfl rfl, mo_aload⟩ (
  And.intro ⟨ok_getR dX7_addDifferences_33 hclX7 inWX7 (by decide) (by decide) wd_238 (fun _ _ _ => rfl) rfl, mo_getR⟩ (
  And.intro ⟨ok_nop, mo_nop⟩ (
  And.intro ⟨ok_nop, mo_nop⟩ (
  And.intro ⟨ok_getIN dX7_addDifferences_36 hclX2 inWX2 (by decide) (by decide) wn_70 (fun _ _ _ => rfl) rfl, mo_getI⟩ (
  And.intro ⟨ok_nop, mo_nop⟩ (
  And.intro ⟨ok_nop, mo_nop⟩ (
  And.intro ⟨ok_icmp_ge dX7_addDifferences_39 (by decide) rfl, mo_icmp⟩ (
  And.intro ⟨ok_nop, mo_nop⟩ (
  And.intro ⟨ok_nop, mo_nop⟩ (
  And.intro ⟨ok_aload_n dX7_addDifferences_42 rfl rfl, mo_aload⟩ (
  And.intro ⟨ok_iload_n dX7_addDifferences_43 rfl rfl, mo_iload⟩ (
  And.intro ⟨ok_cv (z := 38) dX7_addDifferences_44 hclX3 (by decide) wd_553 wd_554 wd_555 wd_6 wd_556 rfl (by decide) ⟨rfl, hy_X3_isNumber⟩ rfl, mo_cv⟩ (
  And.intro ⟨ok_nop, mo_nop⟩ (
  And.intro ⟨ok_nop, mo_nop⟩ (
  And.intro ⟨ok_if_eq dX7_addDifferences_47 (by decide) rfl, mo_if⟩ (
  trivial))))))))))))))))
theorem rX7_addDifferences_3 : am_allR (fun pc o => am_ok am_tb0 cX7_addDifferences RX7 4 none false pc o ∧ am_mo o) 48 (am_nth [] tX7_addDifferences 3) :=
  And.intro ⟨ok_nop, mo_nop⟩ (
  And.intro ⟨ok_nop, mo_nop⟩ (
  And.intro ⟨ok_aload_n dX7_addDifferences_50 rfl rfl, mo_aload⟩ (
  And.intro ⟨ok_getR dX7_addDifferences_51 hclX7 inWX7 (by decide) (by decide) wd_247 (fun _ _ _ => rfl) rfl, mo_getR⟩ (
  And.intro ⟨ok_nop, mo_nop⟩ (
  And.intro ⟨ok_nop, mo_nop⟩ (
  And.intro ⟨ok_iload_n dX7_addDifferences_54 rfl rfl, mo_iload⟩ (
  And.intro ⟨ok_dup2 dX7_addDifferences_55 rfl, mo_dup2⟩ (
  And.intro ⟨ok_iald dX7_addDifferences_56 rfl, mo_iald⟩ (
  And.intro ⟨ok_aload_n dX7_addDifferences_57 rfl rfl, mo_aload⟩ (
  And.intro ⟨ok_getR dX7_addDifferences_58 hclX7 inWX7 (by decide) (by decide) wd_238 (fun _ _ _ => rfl) rfl, mo_getR⟩ (
  And.intro ⟨ok_nop, mo_nop⟩ (
  And.intro ⟨ok_nop, mo_nop⟩ (
  And.intro ⟨ok_getRN dX7_addDifferences_61 hclX2 inWX2 (by decide) (by decide) wn_68 (fun _ _ _ => rfl) rfl, mo_getR⟩ (
  And.intro ⟨ok_nop, mo_nop⟩ (
  And.intro ⟨ok_nop, mo_nop⟩ (
  trivial))))))))))))))))
theorem rX7_addDifferences_4 : am_allR (fun pc o => am_ok am_tb0 cX7_addDifferences RX7 4 none false pc o ∧ am_mo o) 64 (am_nth [] tX7_addDifferences 4) :=
  And.intro ⟨ok_iload_n dX7_addDifferences_64 rfl rfl, mo_iload⟩ (
  And.intro ⟨ok_aald (ci := 1) dX7_addDifferences_65 (by decide) rfl rfl, mo_aald⟩ (
  And.intro ⟨ok_getIN dX7_addDifferences_66 hclX1 inWX1 (by decide) (by decide) wn_48 (fun _ _ _ => rfl) rfl, mo_getI⟩ (
  And.intro ⟨ok_nop, mo_nop⟩ (
  And.intro ⟨ok_nop, mo_nop⟩ (
  And.intro ⟨ok_aload_n dX7_addDifferences_69 rfl rfl, mo_aload⟩ (
  And.intro ⟨ok_getRN dX7_addDifferences_70 hclX3 inWX3 (by decide) (by decide) wn_203 (fun _ _ _ => rfl) rfl, mo_getR⟩ (
  And.intro ⟨ok_nop, mo_nop⟩ (
  And.intro ⟨ok_nop, mo_nop⟩ (
  And.intro ⟨ok_iload_n dX7_addDifferences_73 rfl rfl, mo_iload⟩ (
  And.intro ⟨ok_iald dX7_addDifferences_74 rfl, mo_iald⟩ (
  And.intro ⟨ok_isub dX7_addDifferences_75 rfl, mo_bin⟩ (
  And.intro ⟨ok_mabs dX7_addDifferences_76 wd_482 wd_409 wd_10 wm_mabs rfl, mo_mabs⟩ (
  And.intro ⟨ok_nop, mo_nop⟩ (
  And.intro ⟨ok_nop, mo_nop⟩ (
  And.intro ⟨ok_iadd dX7_addDifferences_79 rfl, mo_bin⟩ (
  trivial))))))))))))))))
theorem rX7_addDifferences_5 : am_allR (fun pc o => am_ok am_tb0 cX7_addDifferences RX7 4 none false pc o ∧ am_mo o) 80 (am_nth [] tX7_addDifferences 5) :=
  And.intro ⟨ok_iast dX7_addDifferences_80 rfl, mo_iast⟩ (
  And.intro ⟨ok_iinc dX7_addDifferences_81 ic_1 (by decide) rfl, mo_iinc⟩ (
  And.intro ⟨ok_nop, mo_nop⟩ (
  And.intro ⟨ok_nop, mo_nop⟩ (
  And.intro ⟨ok_goto dX7_addDifferences_84 (by decide), mo_goto⟩ (
  And.intro ⟨ok_nop, mo_nop⟩ (
  And.intro ⟨ok_nop, mo_nop⟩ (
  And.intro ⟨ok_aload_n dX7_addDifferences_87 rfl rfl, mo_aload⟩ (
  And.intro ⟨ok_getR dX7_addDifferences_88 hclX7 inWX7 (by decide) (by decide) wd_238 (fun _ _ _ => rfl) rfl, mo_getR⟩ (
  And.intro ⟨ok_nop, mo_nop⟩ (
  And.intro ⟨ok_nop, mo_nop⟩ (
  And.intro ⟨ok_cv (z := 25) dX7_addDifferences_91 hclX2 (by decide) wd_488 wd_489 wd_490 wd_2 wd_491 rfl (by decide) ⟨rfl, hy_X2_passDay⟩ rfl, mo_cv⟩ (
  And.intro ⟨ok_nop, mo_nop⟩ (
  And.intro ⟨ok_nop, mo_nop⟩ (
  And.intro ⟨ok_iinc dX7_addDifferences_94 ic_1 (by decide) rfl, mo_iinc⟩ (
  And.intro ⟨ok_nop, mo_nop⟩ (
  trivial))))))))))))))))
theorem rX7_addDifferences_6 : am_allR (fun pc o => am_ok am_tb0 cX7_addDifferences RX7 4 none false pc o ∧ am_mo o) 96 (am_nth [] tX7_addDifferences 6) :=
  And.intro ⟨ok_nop, mo_nop⟩ (
  And.intro ⟨ok_goto dX7_addDifferences_97 (by decide), mo_goto⟩ (
  And.intro ⟨ok_nop, mo_nop⟩ (
  And.intro ⟨ok_nop, mo_nop⟩ (
  And.intro ⟨ok_ret dX7_addDifferences_100 rfl, mo_ret⟩ (
  And.intro ⟨ok_nop, mo_nop⟩ (
  And.intro ⟨ok_nop, mo_nop⟩ (
  And.intro ⟨ok_nop, mo_nop⟩ (
  And.intro ⟨ok_nop, mo_nop⟩ (
  And.intro ⟨ok_nop, mo_nop⟩ (
  And.intro ⟨ok_nop, mo_nop⟩ (
  And.intro ⟨ok_nop, mo_nop⟩ (
  And.intro ⟨ok_nop, mo_nop⟩ (
  And.intro ⟨ok_nop, mo_nop⟩ (
  And.intro ⟨ok_nop, mo_nop⟩ (
  And.intro ⟨ok_nop, mo_nop⟩ (
  trivial))))))))))))))))
theorem kX7_addDifferences : am_M1 am_tb0 cX7_addDifferences RX7 4 none false tX7_addDifferences := And.intro rX7_addDifferences_0 (And.intro rX7_addDifferences_1 (And.intro rX7_addDifferences_2 (And.intro rX7_addDifferences_3 (And.intro rX7_addDifferences_4 (And.intro rX7_addDifferences_5 (And.intro rX7_addDifferences_6 (trivial)))))))
def tX7_sheetAt : List (List am_Op) := [[o_iload 1 1, o_push (.int 3) 2, o_cs 105 2 0 2 5, am_nop, am_nop, o_if (fun x => x = 0) 17 8, am_nop, am_nop, o_aload 0 9, o_getR 7 11 6 12, am_nop, am_nop, o_iload 1 13, o_aald 33 14, o_goto 18, am_nop],
  [am_nop, o_push (.ref 0) 18, o_aret, am_nop, am_nop, am_nop, am_nop, am_nop, am_nop, am_nop, am_nop, am_nop, am_nop, am_nop, am_nop, am_nop]]
theorem rX7_sheetAt_0 : am_allR (fun pc o => am_ok am_tb0 cX7_sheetAt RX7 2 (some (.object "DigFill$Sheet")) false pc o ∧ am_mo o) 0 (am_nth [] tX7_sheetAt 0) :=
  And.intro ⟨ok_iload_n dX7_sheetAt_0 rfl rfl, mo_iload⟩ (
  And.intro ⟨ok_iconst dX7_sheetAt_1 rfl ic_3, mo_push⟩ (
  And.intro ⟨ok_cs (z := 105) dX7_sheetAt_2 wd_275 wd_276 wd_1 wd_277 rfl (by decide) hy_X7_within rfl, mo_cs⟩ (
  And.intro ⟨ok_nop, mo_nop⟩ (
  And.intro ⟨ok_nop, mo_nop⟩ (
  And.intro ⟨ok_if_eq dX7_sheetAt_5 (by decide) rfl, mo_if⟩ (
  And.intro ⟨ok_nop, mo_nop⟩ (
  And.intro ⟨ok_nop, mo_nop⟩ (
  And.intro ⟨ok_aload_n dX7_sheetAt_8 rfl rfl, mo_aload⟩ (
  And.intro ⟨ok_getR dX7_sheetAt_9 hclX7 inWX7 (by decide) (by decide) wd_243 (fun _ _ _ => rfl) rfl, mo_getR⟩ (
  And.intro ⟨ok_nop, mo_nop⟩ (
  And.intro ⟨ok_nop, mo_nop⟩ (
  And.intro ⟨ok_iload_n dX7_sheetAt_12 rfl rfl, mo_iload⟩ (
  And.intro ⟨ok_aald (ci := 3) dX7_sheetAt_13 (by decide) rfl rfl, mo_aald⟩ (
  And.intro ⟨ok_goto dX7_sheetAt_14 (by decide), mo_goto⟩ (
  And.intro ⟨ok_nop, mo_nop⟩ (
  trivial))))))))))))))))
theorem rX7_sheetAt_1 : am_allR (fun pc o => am_ok am_tb0 cX7_sheetAt RX7 2 (some (.object "DigFill$Sheet")) false pc o ∧ am_mo o) 16 (am_nth [] tX7_sheetAt 1) :=
  And.intro ⟨ok_nop, mo_nop⟩ (
  And.intro ⟨ok_null dX7_sheetAt_17 rfl, mo_push⟩ (
  And.intro ⟨ok_aret dX7_sheetAt_18 rfl (Or.inl ⟨_, rfl⟩), mo_aret⟩ (
  And.intro ⟨ok_nop, mo_nop⟩ (
  And.intro ⟨ok_nop, mo_nop⟩ (
  And.intro ⟨ok_nop, mo_nop⟩ (
  And.intro ⟨ok_nop, mo_nop⟩ (
  And.intro ⟨ok_nop, mo_nop⟩ (
  And.intro ⟨ok_nop, mo_nop⟩ (
  And.intro ⟨ok_nop, mo_nop⟩ (
  And.intro ⟨ok_nop, mo_nop⟩ (
  And.intro ⟨ok_nop, mo_nop⟩ (
  And.intro ⟨ok_nop, mo_nop⟩ (
  And.intro ⟨ok_nop, mo_nop⟩ (
  And.intro ⟨ok_nop, mo_nop⟩ (
  And.intro ⟨ok_nop, mo_nop⟩ (
  trivial))))))))))))))))
theorem kX7_sheetAt : am_M1 am_tb0 cX7_sheetAt RX7 2 (some (.object "DigFill$Sheet")) false tX7_sheetAt := And.intro rX7_sheetAt_0 (And.intro rX7_sheetAt_1 (trivial))
def tX7_slotAt : List (List am_Op) := [[o_iload 1 1, o_push (.int 4) 2, o_cs 105 2 0 2 5, am_nop, am_nop, o_if (fun x => x = 0) 17 8, am_nop, am_nop, o_aload 0 9, o_getR 7 11 7 12, am_nop, am_nop, o_iload 1 13, o_aald 34 14, o_goto 18, am_nop],
  [am_nop, o_push (.ref 0) 18, o_aret, am_nop, am_nop, am_nop, am_nop, am_nop, am_nop, am_nop, am_nop, am_nop, am_nop, am_nop, am_nop, am_nop]]
theorem rX7_slotAt_0 : am_allR (fun pc o => am_ok am_tb0 cX7_slotAt RX7 2 (some (.object "DigFill$Slot")) false pc o ∧ am_mo o) 0 (am_nth [] tX7_slotAt 0) :=
  And.intro ⟨ok_iload_n dX7_slotAt_0 rfl rfl, mo_iload⟩ (
  And.intro ⟨ok_iconst dX7_slotAt_1 rfl ic_4, mo_push⟩ (
  And.intro ⟨ok_cs (z := 105) dX7_slotAt_2 wd_275 wd_276 wd_1 wd_277 rfl (by decide) hy_X7_within rfl, mo_cs⟩ (
  And.intro ⟨ok_nop, mo_nop⟩ (
  And.intro ⟨ok_nop, mo_nop⟩ (
  And.intro ⟨ok_if_eq dX7_slotAt_5 (by decide) rfl, mo_if⟩ (
  And.intro ⟨ok_nop, mo_nop⟩ (
  And.intro ⟨ok_nop, mo_nop⟩ (
  And.intro ⟨ok_aload_n dX7_slotAt_8 rfl rfl, mo_aload⟩ (
  And.intro ⟨ok_getR dX7_slotAt_9 hclX7 inWX7 (by decide) (by decide) wd_244 (fun _ _ _ => rfl) rfl, mo_getR⟩ (
  And.intro ⟨ok_nop, mo_nop⟩ (
  And.intro ⟨ok_nop, mo_nop⟩ (
  And.intro ⟨ok_iload_n dX7_slotAt_12 rfl rfl, mo_iload⟩ (
  And.intro ⟨ok_aald (ci := 4) dX7_slotAt_13 (by decide) rfl rfl, mo_aald⟩ (
  And.intro ⟨ok_goto dX7_slotAt_14 (by decide), mo_goto⟩ (
  And.intro ⟨ok_nop, mo_nop⟩ (
  trivial))))))))))))))))
theorem rX7_slotAt_1 : am_allR (fun pc o => am_ok am_tb0 cX7_slotAt RX7 2 (some (.object "DigFill$Slot")) false pc o ∧ am_mo o) 16 (am_nth [] tX7_slotAt 1) :=
  And.intro ⟨ok_nop, mo_nop⟩ (
  And.intro ⟨ok_null dX7_slotAt_17 rfl, mo_push⟩ (
  And.intro ⟨ok_aret dX7_slotAt_18 rfl (Or.inl ⟨_, rfl⟩), mo_aret⟩ (
  And.intro ⟨ok_nop, mo_nop⟩ (
  And.intro ⟨ok_nop, mo_nop⟩ (
  And.intro ⟨ok_nop, mo_nop⟩ (
  And.intro ⟨ok_nop, mo_nop⟩ (
  And.intro ⟨ok_nop, mo_nop⟩ (
  And.intro ⟨ok_nop, mo_nop⟩ (
  And.intro ⟨ok_nop, mo_nop⟩ (
  And.intro ⟨ok_nop, mo_nop⟩ (
  And.intro ⟨ok_nop, mo_nop⟩ (
  And.intro ⟨ok_nop, mo_nop⟩ (
  And.intro ⟨ok_nop, mo_nop⟩ (
  And.intro ⟨ok_nop, mo_nop⟩ (
  And.intro ⟨ok_nop, mo_nop⟩ (
  trivial))))))))))))))))
theorem kX7_slotAt : am_M1 am_tb0 cX7_slotAt RX7 2 (some (.object "DigFill$Slot")) false tX7_slotAt := And.intro rX7_slotAt_0 (And.intro rX7_slotAt_1 (trivial))
end AM14C
