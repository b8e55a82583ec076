section AM14D
def tX8_init : List (List am_Op) := [[o_aload 0 1, o_oinit 4, am_nop, am_nop, o_aload 0 5, o_push (.int 1448) 8, am_nop, am_nop, o_newa 20 10, am_nop, o_putR 8 38 0 13, am_nop, am_nop, o_aload 0 14, o_push (.int 1448) 17, am_nop],
  [am_nop, o_newa 20 19, am_nop, o_putR 8 38 1 22, am_nop, am_nop, o_aload 0 23, o_push (.int 1448) 26, am_nop, am_nop, o_newa 20 28, am_nop, o_putR 8 38 2 31, am_nop, am_nop, o_aload 0 32],
  [o_push (.int 11) 34, am_nop, o_newa 20 36, am_nop, o_putR 8 38 4 39, am_nop, am_nop, o_aload 0 40, o_push (.int 11) 42, am_nop, o_newa 21 44, am_nop, o_putR 8 38 5 47, am_nop, am_nop, o_aload 0 48],
  [o_push (.int 7168) 51, am_nop, am_nop, o_newa 20 53, am_nop, o_putR 8 38 6 56, am_nop, am_nop, o_aload 0 57, o_push (.int 6) 59, am_nop, o_newa 20 61, am_nop, o_putR 8 38 7 64, am_nop, am_nop],
  [o_aload 0 65, o_push (.int 76) 67, am_nop, o_newa 20 69, am_nop, o_putR 8 38 8 72, am_nop, am_nop, o_aload 0 73, o_push (.int 10) 75, am_nop, o_newa 24 77, am_nop, o_putR 8 38 9 80, am_nop, am_nop],
  [o_aload 0 81, o_push (.int 96) 83, am_nop, o_newa 20 85, am_nop, o_putR 8 38 10 88, am_nop, am_nop, o_aload 0 89, o_push (.int 13) 91, am_nop, o_newa 23 93, am_nop, o_dup 94, o_push (.int 0) 95, o_push (.int 108) 97],
  [am_nop, o_cast 98, o_dup 99, o_push (.int 1) 100, o_push (.int 97) 102, am_nop, o_cast 103, o_dup 104, o_push (.int 2) 105, o_push (.int 119) 107, am_nop, o_cast 108, o_dup 109, o_push (.int 3) 110, o_push (.int 115) 112, am_nop],
  [o_cast 113, o_dup 114, o_push (.int 4) 115, o_push (.int 101) 117, am_nop, o_cast 118, o_dup 119, o_push (.int 5) 120, o_push (.int 116) 122, am_nop, o_cast 123, o_dup 124, o_push (.int 6) 126, am_nop, o_push (.int 116) 128, am_nop],
  [o_cast 129, o_dup 130, o_push (.int 7) 132, am_nop, o_push (.int 108) 134, am_nop, o_cast 135, o_dup 136, o_push (.int 8) 138, am_nop, o_push (.int 101) 140, am_nop, o_cast 141, o_dup 142, o_push (.int 9) 144, am_nop],
  [o_push (.int 102) 146, am_nop, o_cast 147, o_dup 148, o_push (.int 10) 150, am_nop, o_push (.int 105) 152, am_nop, o_cast 153, o_dup 154, o_push (.int 11) 156, am_nop, o_push (.int 110) 158, am_nop, o_cast 159, o_dup 160],
  [o_push (.int 12) 162, am_nop, o_push (.int 101) 164, am_nop, o_cast 165, o_putR 8 38 18 168, am_nop, am_nop, o_aload 0 169, o_push (.int 4) 170, o_newa 20 172, am_nop, o_dup 173, o_push (.int 0) 174, o_push (.int 0) 175, o_iast 176],
  [o_dup 177, o_push (.int 1) 178, o_push (.int 3) 179, o_iast 180, o_dup 181, o_push (.int 2) 182, o_push (.int 9) 184, am_nop, o_iast 185, o_dup 186, o_push (.int 3) 187, o_push (.int 13) 189, am_nop, o_iast 190, o_putR 8 38 19 193, am_nop],
  [am_nop, o_aload 0 194, o_push (.int 96) 196, am_nop, o_newa 20 198, am_nop, o_putR 8 38 20 201, am_nop, am_nop, o_aload 0 202, o_push (.int 96) 204, am_nop, o_newa 20 206, am_nop, o_putR 8 38 23 209, am_nop],
  [am_nop, o_aload 0 210, o_push (.int 10) 212, am_nop, o_newa 21 214, am_nop, o_putR 8 38 25 217, am_nop, am_nop, o_aload 0 218, o_push (.int 96) 220, am_nop, o_newa 20 222, am_nop, o_putR 8 38 26 225, am_nop],
  [am_nop, o_aload 0 226, o_push (.int 4) 227, o_newa 20 229, am_nop, o_putR 8 38 27 232, am_nop, am_nop, o_aload 0 233, o_push (.int 4) 234, o_newa 20 236, am_nop, o_dup 237, o_push (.int 0) 238, o_push (.int (-1)) 239, o_iast 240],
  [o_dup 241, o_push (.int 1) 242, o_push (.int (-1)) 243, o_iast 244, o_dup 245, o_push (.int 2) 246, o_push (.int (-1)) 247, o_iast 248, o_dup 249, o_push (.int 3) 250, o_push (.int (-1)) 251, o_iast 252, o_putR 8 38 28 255, am_nop, am_nop, o_aload 0 256],
  [o_push (.int 4) 257, o_newa 20 259, am_nop, o_putR 8 38 29 262, am_nop, am_nop, o_aload 0 263, o_push (.int 96) 265, am_nop, o_newa 20 267, am_nop, o_putR 8 38 30 270, am_nop, am_nop, o_aload 0 271, o_push (.int 5) 272],
  [o_newa 20 274, am_nop, o_putR 8 38 31 277, am_nop, am_nop, o_aload 0 278, o_push (.int 5) 279, o_newa 20 281, am_nop, o_putR 8 38 32 284, am_nop, am_nop, o_aload 0 285, o_push (.int 5) 286, o_newa 20 288, am_nop],
  [o_putR 8 38 33 291, am_nop, am_nop, o_aload 0 292, o_push (.int 120) 294, am_nop, o_newa 20 296, am_nop, o_putR 8 38 34 299, am_nop, am_nop, o_aload 0 300, o_push (.int 24) 302, am_nop, o_newa 20 304, am_nop],
  [o_putR 8 38 35 307, am_nop, am_nop, o_aload 0 308, o_push (.int 60) 310, am_nop, o_newa 20 312, am_nop, o_putR 8 38 36 315, am_nop, am_nop, o_aload 0 316, o_getR 8 38 0 319, am_nop, am_nop, o_push (.int 0) 320],
  [o_push (.int 1) 321, o_iast 322, o_aload 0 323, o_getR 8 38 0 326, am_nop, am_nop, o_push (.int 3) 327, o_push (.int 10) 329, am_nop, o_iast 330, o_aload 0 331, o_getR 8 38 0 334, am_nop, am_nop, o_push (.int 4) 335, o_push (.int 120) 337],
  [am_nop, o_iast 338, o_ret, am_nop, am_nop, am_nop, am_nop, am_nop, am_nop, am_nop, am_nop, am_nop, am_nop, am_nop, am_nop, am_nop]]
theorem rX8_init_0 : am_allR (fun pc o => am_ok am_tb0 cX8_init RX8 1 none true pc o ∧ am_mo o) 0 (am_nth [] tX8_init 0) :=
  And.intro ⟨ok_aload_n dX8_init_0 rfl rfl, mo_aload⟩ (
  And.intro ⟨ok_oinit dX8_init_1 wd_890 wd_24 wd_25 rfl, mo_oinit⟩ (
  And.intro ⟨ok_nop, mo_nop⟩ (
  And.intro ⟨ok_nop, mo_nop⟩ (
  And.intro ⟨ok_aload_n dX8_init_4 rfl rfl, mo_aload⟩ (
  And.intro ⟨ok_sipush dX8_init_5 rfl si_1448, mo_push⟩ (
  And.intro ⟨ok_nop, mo_nop⟩ (
  And.intro ⟨ok_nop, mo_nop⟩ (
  And.intro ⟨ok_newI dX8_init_8 wd_65 rfl, mo_newa⟩ (
  And.intro ⟨ok_nop, mo_nop⟩ (
  And.intro ⟨ok_putRF dX8_init_10 hclX8 inWX8 tyX8_ok nmX8 (by decide) (by decide) wd_891 rfl rfl rfl (tyX8_ok 0 (by decide)) (Or.inr ⟨_, rfl⟩) (fun _ _ _ => rfl) rfl, mo_putR⟩ (
  And.intro ⟨ok_nop, mo_nop⟩ (
  And.intro ⟨ok_nop, mo_nop⟩ (
  And.intro ⟨ok_aload_n dX8_init_13 rfl rfl, mo_aload⟩ (
  And.intro ⟨ok_sipush dX8_init_14 rfl si_1448, mo_push⟩ (
  And.intro ⟨ok_nop, mo_nop⟩ (
  trivial))))))))))))))))
theorem rX8_init_1 : am_allR (fun pc o => am_ok am_tb0 cX8_init RX8 1 none true pc o ∧ am_mo o) 16 (am_nth [] tX8_init 1) :=
  And.intro ⟨ok_nop, mo_nop⟩ (
  And.intro ⟨ok_newI dX8_init_17 wd_65 rfl, mo_newa⟩ (
  And.intro ⟨ok_nop, mo_nop⟩ (
  And.intro ⟨ok_putRF dX8_init_19 hclX8 inWX8 tyX8_ok nmX8 (by decide) (by decide) wd_892 rfl rfl rfl (tyX8_ok 1 (by decide)) (Or.inr ⟨_, rfl⟩) (fun _ _ _ => rfl) rfl, mo_putR⟩ (
  And.intro ⟨ok_nop, mo_nop⟩ (
  And.intro ⟨ok_nop, mo_nop⟩ (
  And.intro ⟨ok_aload_n dX8_init_22 rfl rfl, mo_aload⟩ (
  And.intro ⟨ok_sipush dX8_init_23 rfl si_1448, mo_push⟩ (
  And.intro ⟨ok_nop, mo_nop⟩ (
  And.intro ⟨ok_nop, mo_nop⟩ (
  And.intro ⟨ok_newI dX8_init_26 wd_65 rfl, mo_newa⟩ (
  And.intro ⟨ok_nop, mo_nop⟩ (
  And.intro ⟨ok_putRF dX8_init_28 hclX8 inWX8 tyX8_ok nmX8 (by decide) (by decide) wd_893 rfl rfl rfl (tyX8_ok 2 (by decide)) (Or.inr ⟨_, rfl⟩) (fun _ _ _ => rfl) rfl, mo_putR⟩ (
  And.intro ⟨ok_nop, mo_nop⟩ (
  And.intro ⟨ok_nop, mo_nop⟩ (
  And.intro ⟨ok_aload_n dX8_init_31 rfl rfl, mo_aload⟩ (
  trivial))))))))))))))))
theorem rX8_init_2 : am_allR (fun pc o => am_ok am_tb0 cX8_init RX8 1 none true pc o ∧ am_mo o) 32 (am_nth [] tX8_init 2) :=
  And.intro ⟨ok_bipush dX8_init_32 rfl bi_11, mo_push⟩ (
  And.intro ⟨ok_nop, mo_nop⟩ (
  And.intro ⟨ok_newI dX8_init_34 wd_65 rfl, mo_newa⟩ (
  And.intro ⟨ok_nop, mo_nop⟩ (
  And.intro ⟨ok_putRF dX8_init_36 hclX8 inWX8 tyX8_ok nmX8 (by decide) (by decide) wd_895 rfl rfl rfl (tyX8_ok 4 (by decide)) (Or.inr ⟨_, rfl⟩) (fun _ _ _ => rfl) rfl, mo_putR⟩ (
  And.intro ⟨ok_nop, mo_nop⟩ (
  And.intro ⟨ok_nop, mo_nop⟩ (
  And.intro ⟨ok_aload_n dX8_init_39 rfl rfl, mo_aload⟩ (
  And.intro ⟨ok_bipush dX8_init_40 rfl bi_11, mo_push⟩ (
  And.intro ⟨ok_nop, mo_nop⟩ (
  And.intro ⟨ok_newZ dX8_init_42 wd_1006 rfl, mo_newa⟩ (
  And.intro ⟨ok_nop, mo_nop⟩ (
  And.intro ⟨ok_putRF dX8_init_44 hclX8 inWX8 tyX8_ok nmX8 (by decide) (by decide) wd_896 rfl rfl rfl (tyX8_ok 5 (by decide)) (Or.inr ⟨_, rfl⟩) (fun _ _ _ => rfl) rfl, mo_putR⟩ (
  And.intro ⟨ok_nop, mo_nop⟩ (
  And.intro ⟨ok_nop, mo_nop⟩ (
  And.intro ⟨ok_aload_n dX8_init_47 rfl rfl, mo_aload⟩ (
  trivial))))))))))))))))
theorem rX8_init_3 : am_allR (fun pc o => am_ok am_tb0 cX8_init RX8 1 none true pc o ∧ am_mo o) 48 (am_nth [] tX8_init 3) :=
  And.intro ⟨ok_sipush dX8_init_48 rfl si_7168, mo_push⟩ (
  And.intro ⟨ok_nop, mo_nop⟩ (
  And.intro ⟨ok_nop, mo_nop⟩ (
  And.intro ⟨ok_newI dX8_init_51 wd_65 rfl, mo_newa⟩ (
  And.intro ⟨ok_nop, mo_nop⟩ (
  And.intro ⟨ok_putRF dX8_init_53 hclX8 inWX8 tyX8_ok nmX8 (by decide) (by decide) wd_897 rfl rfl rfl (tyX8_ok 6 (by decide)) (Or.inr ⟨_, rfl⟩) (fun _ _ _ => rfl) rfl, mo_putR⟩ (
  And.intro ⟨ok_nop, mo_nop⟩ (
  And.intro ⟨ok_nop, mo_nop⟩ (
  And.intro ⟨ok_aload_n dX8_init_56 rfl rfl, mo_aload⟩ (
  And.intro ⟨ok_bipush dX8_init_57 rfl bi_6, mo_push⟩ (
  And.intro ⟨ok_nop, mo_nop⟩ (
  And.intro ⟨ok_newI dX8_init_59 wd_65 rfl, mo_newa⟩ (
  And.intro ⟨ok_nop, mo_nop⟩ (
  And.intro ⟨ok_putRF dX8_init_61 hclX8 inWX8 tyX8_ok nmX8 (by decide) (by decide) wd_898 rfl rfl rfl (tyX8_ok 7 (by decide)) (Or.inr ⟨_, rfl⟩) (fun _ _ _ => rfl) rfl, mo_putR⟩ (
  And.intro ⟨ok_nop, mo_nop⟩ (
  And.intro ⟨ok_nop, mo_nop⟩ (
  trivial))))))))))))))))
theorem rX8_init_4 : am_allR (fun pc o => am_ok am_tb0 cX8_init RX8 1 none true pc o ∧ am_mo o) 64 (am_nth [] tX8_init 4) :=
  And.intro ⟨ok_aload_n dX8_init_64 rfl rfl, mo_aload⟩ (
  And.intro ⟨ok_bipush dX8_init_65 rfl bi_76, mo_push⟩ (
  And.intro ⟨ok_nop, mo_nop⟩ (
  And.intro ⟨ok_newI dX8_init_67 wd_65 rfl, mo_newa⟩ (
  And.intro ⟨ok_nop, mo_nop⟩ (
  And.intro ⟨ok_putRF dX8_init_69 hclX8 inWX8 tyX8_ok nmX8 (by decide) (by decide) wd_899 rfl rfl rfl (tyX8_ok 8 (by decide)) (Or.inr ⟨_, rfl⟩) (fun _ _ _ => rfl) rfl, mo_putR⟩ (
  And.intro ⟨ok_nop, mo_nop⟩ (
  And.intro ⟨ok_nop, mo_nop⟩ (
  And.intro ⟨ok_aload_n dX8_init_72 rfl rfl, mo_aload⟩ (
  And.intro ⟨ok_bipush dX8_init_73 rfl bi_10, mo_push⟩ (
  And.intro ⟨ok_nop, mo_nop⟩ (
  And.intro ⟨ok_newJ dX8_init_75 wd_146 rfl, mo_newa⟩ (
  And.intro ⟨ok_nop, mo_nop⟩ (
  And.intro ⟨ok_putRF dX8_init_77 hclX8 inWX8 tyX8_ok nmX8 (by decide) (by decide) wd_900 rfl rfl rfl (tyX8_ok 9 (by decide)) (Or.inr ⟨_, rfl⟩) (fun _ _ _ => rfl) rfl, mo_putR⟩ (
  And.intro ⟨ok_nop, mo_nop⟩ (
  And.intro ⟨ok_nop, mo_nop⟩ (
  trivial))))))))))))))))
theorem rX8_init_5 : am_allR (fun pc o => am_ok am_tb0 cX8_init RX8 1 none true pc o ∧ am_mo o) 80 (am_nth [] tX8_init 5) :=
  And.intro ⟨ok_aload_n dX8_init_80 rfl rfl, mo_aload⟩ (
  And.intro ⟨ok_bipush dX8_init_81 rfl bi_96, mo_push⟩ (
  And.intro ⟨ok_nop, mo_nop⟩ (
  And.intro ⟨ok_newI dX8_init_83 wd_65 rfl, mo_newa⟩ (
  And.intro ⟨ok_nop, mo_nop⟩ (
  And.intro ⟨ok_putRF dX8_init_85 hclX8 inWX8 tyX8_ok nmX8 (by decide) (by decide) wd_901 rfl rfl rfl (tyX8_ok 10 (by decide)) (Or.inr ⟨_, rfl⟩) (fun _ _ _ => rfl) rfl, mo_putR⟩ (
  And.intro ⟨ok_nop, mo_nop⟩ (
  And.intro ⟨ok_nop, mo_nop⟩ (
  And.intro ⟨ok_aload_n dX8_init_88 rfl rfl, mo_aload⟩ (
  And.intro ⟨ok_bipush dX8_init_89 rfl bi_13, mo_push⟩ (
  And.intro ⟨ok_nop, mo_nop⟩ (
  And.intro ⟨ok_newC dX8_init_91 wd_1007 rfl, mo_newa⟩ (
  And.intro ⟨ok_nop, mo_nop⟩ (
  And.intro ⟨ok_dup dX8_init_93 rfl, mo_dup⟩ (
  And.intro ⟨ok_iconst dX8_init_94 rfl ic_0, mo_push⟩ (
  And.intro ⟨ok_bipush dX8_init_95 rfl bi_108, mo_push⟩ (
  trivial))))))))))))))))
theorem rX8_init_6 : am_allR (fun pc o => am_ok am_tb0 cX8_init RX8 1 none true pc o ∧ am_mo o) 96 (am_nth [] tX8_init 6) :=
  And.intro ⟨ok_nop, mo_nop⟩ (
  And.intro ⟨ok_cast dX8_init_97 rfl, mo_cast⟩ (
  And.intro ⟨ok_dup dX8_init_98 rfl, mo_dup⟩ (
  And.intro ⟨ok_iconst dX8_init_99 rfl ic_1, mo_push⟩ (
  And.intro ⟨ok_bipush dX8_init_100 rfl bi_97, mo_push⟩ (
  And.intro ⟨ok_nop, mo_nop⟩ (
  And.intro ⟨ok_cast dX8_init_102 rfl, mo_cast⟩ (
  And.intro ⟨ok_dup dX8_init_103 rfl, mo_dup⟩ (
  And.intro ⟨ok_iconst dX8_init_104 rfl ic_2, mo_push⟩ (
  And.intro ⟨ok_bipush dX8_init_105 rfl bi_119, mo_push⟩ (
  And.intro ⟨ok_nop, mo_nop⟩ (
  And.intro ⟨ok_cast dX8_init_107 rfl, mo_cast⟩ (
  And.intro ⟨ok_dup dX8_init_108 rfl, mo_dup⟩ (
  And.intro ⟨ok_iconst dX8_init_109 rfl ic_3, mo_push⟩ (
  And.intro ⟨ok_bipush dX8_init_110 rfl bi_115, mo_push⟩ (
  And.intro ⟨ok_nop, mo_nop⟩ (
  trivial))))))))))))))))
theorem rX8_init_7 : am_allR (fun pc o => am_ok am_tb0 cX8_init RX8 1 none true pc o ∧ am_mo o) 112 (am_nth [] tX8_init 7) :=
  And.intro ⟨ok_cast dX8_init_112 rfl, mo_cast⟩ (
  And.intro ⟨ok_dup dX8_init_113 rfl, mo_dup⟩ (
  And.intro ⟨ok_iconst dX8_init_114 rfl ic_4, mo_push⟩ (
  And.intro ⟨ok_bipush dX8_init_115 rfl bi_101, mo_push⟩ (
  And.intro ⟨ok_nop, mo_nop⟩ (
  And.intro ⟨ok_cast dX8_init_117 rfl, mo_cast⟩ (
  And.intro ⟨ok_dup dX8_init_118 rfl, mo_dup⟩ (
  And.intro ⟨ok_iconst dX8_init_119 rfl ic_5, mo_push⟩ (
  And.intro ⟨ok_bipush dX8_init_120 rfl bi_116, mo_push⟩ (
  And.intro ⟨ok_nop, mo_nop⟩ (
  And.intro ⟨ok_cast dX8_init_122 rfl, mo_cast⟩ (
  And.intro ⟨ok_dup dX8_init_123 rfl, mo_dup⟩ (
  And.intro ⟨ok_bipush dX8_init_124 rfl bi_6, mo_push⟩ (
  And.intro ⟨ok_nop, mo_nop⟩ (
  And.intro ⟨ok_bipush dX8_init_126 rfl bi_116, mo_push⟩ (
  And.intro ⟨ok_nop, mo_nop⟩ (
  trivial))))))))))))))))
theorem rX8_init_8 : am_allR (fun pc o => am_ok am_tb0 cX8_init RX8 1 none true pc o ∧ am_mo o) 128 (am_nth [] tX8_init 8) :=
  And.intro ⟨ok_cast dX8_init_128 rfl, mo_cast⟩ (
  And.intro ⟨ok_dup dX8_init_129 rfl, mo_dup⟩ (
  And.intro ⟨ok_bipush dX8_init_130 rfl bi_7, mo_push⟩ (
  And.intro ⟨ok_nop, mo_nop⟩ (
  And.intro ⟨ok_bipush dX8_init_132 rfl bi_108, mo_push⟩ (
  And.intro ⟨ok_nop, mo_nop⟩ (
  And.intro ⟨ok_cast dX8_init_134 rfl, mo_cast⟩ (
  And.intro ⟨ok_dup dX8_init_135 rfl, mo_dup⟩ (
  And.intro ⟨ok_bipush dX8_init_136 rfl bi_8, mo_push⟩ (
  And.intro ⟨ok_nop, mo_nop⟩ (
  And.intro ⟨ok_bipush dX8_init_138 rfl bi_101, mo_push⟩ (
  And.intro ⟨ok_nop, mo_nop⟩ (
  And.intro ⟨ok_cast dX8_init_140 rfl, mo_cast⟩ (
  And.intro ⟨ok_dup dX8_init_141 rfl, mo_dup⟩ (
  And.intro ⟨ok_bipush dX8_init_142 rfl bi_9, mo_push⟩ (
  And.intro ⟨ok_nop, mo_nop⟩ (
  trivial))))))))))))))))
theorem rX8_init_9 : am_allR (fun pc o => am_ok am_tb0 cX8_init RX8 1 none true pc o ∧ am_mo o) 144 (am_nth [] tX8_init 9) :=
  And.intro ⟨ok_bipush dX8_init_144 rfl bi_102, mo_push⟩ (
  And.intro ⟨ok_nop, mo_nop⟩ (
  And.intro ⟨ok_cast dX8_init_146 rfl, mo_cast⟩ (
  And.intro ⟨ok_dup dX8_init_147 rfl, mo_dup⟩ (
  And.intro ⟨ok_bipush dX8_init_148 rfl bi_10, mo_push⟩ (
  And.intro ⟨ok_nop, mo_nop⟩ (
  And.intro ⟨ok_bipush dX8_init_150 rfl bi_105, mo_push⟩ (
  And.intro ⟨ok_nop, mo_nop⟩ (
  And.intro ⟨ok_cast dX8_init_152 rfl, mo_cast⟩ (
  And.intro ⟨ok_dup dX8_init_153 rfl, mo_dup⟩ (
  And.intro ⟨ok_bipush dX8_init_154 rfl bi_11, mo_push⟩ (
  And.intro ⟨ok_nop, mo_nop⟩ (
  And.intro ⟨ok_bipush dX8_init_156 rfl bi_110, mo_push⟩ (
  And.intro ⟨ok_nop, mo_nop⟩ (
  And.intro ⟨ok_cast dX8_init_158 rfl, mo_cast⟩ (
  And.intro ⟨ok_dup dX8_init_159 rfl, mo_dup⟩ (
  trivial))))))))))))))))
theorem rX8_init_10 : am_allR (fun pc o => am_ok am_tb0 cX8_init RX8 1 none true pc o ∧ am_mo o) 160 (am_nth [] tX8_init 10) :=
  And.intro ⟨ok_bipush dX8_init_160 rfl bi_12, mo_push⟩ (
  And.intro ⟨ok_nop, mo_nop⟩ (
  And.intro ⟨ok_bipush dX8_init_162 rfl bi_101, mo_push⟩ (
  And.intro ⟨ok_nop, mo_nop⟩ (
  And.intro ⟨ok_cast dX8_init_164 rfl, mo_cast⟩ (
  And.intro ⟨ok_putRF dX8_init_165 hclX8 inWX8 tyX8_ok nmX8 (by decide) (by decide) wd_909 rfl rfl rfl (tyX8_ok 18 (by decide)) (Or.inr ⟨_, rfl⟩) (fun _ _ _ => rfl) rfl, mo_putR⟩ (
  And.intro ⟨ok_nop, mo_nop⟩ (
  And.intro ⟨ok_nop, mo_nop⟩ (
  And.intro ⟨ok_aload_n dX8_init_168 rfl rfl, mo_aload⟩ (
  And.intro ⟨ok_iconst dX8_init_169 rfl ic_4, mo_push⟩ (
  And.intro ⟨ok_newI dX8_init_170 wd_65 rfl, mo_newa⟩ (
  And.intro ⟨ok_nop, mo_nop⟩ (
  And.intro ⟨ok_dup dX8_init_172 rfl, mo_dup⟩ (
  And.intro ⟨ok_iconst dX8_init_173 rfl ic_0, mo_push⟩ (
  And.intro ⟨ok_iconst dX8_init_174 rfl ic_0, mo_push⟩ (
  And.intro ⟨ok_iast dX8_init_175 rfl, mo_iast⟩ (
  trivial))))))))))))))))
theorem rX8_init_11 : am_allR (fun pc o => am_ok am_tb0 cX8_init RX8 1 none true pc o ∧ am_mo o) 176 (am_nth [] tX8_init 11) :=
  And.intro ⟨ok_dup dX8_init_176 rfl, mo_dup⟩ (
  And.intro ⟨ok_iconst dX8_init_177 rfl ic_1, mo_push⟩ (
  And.intro ⟨ok_iconst dX8_init_178 rfl ic_3, mo_push⟩ (
  And.intro ⟨ok_iast dX8_init_179 rfl, mo_iast⟩ (
  And.intro ⟨ok_dup dX8_init_180 rfl, mo_dup⟩ (
  And.intro ⟨ok_iconst dX8_init_181 rfl ic_2, mo_push⟩ (
  And.intro ⟨ok_bipush dX8_init_182 rfl bi_9, mo_push⟩ (
  And.intro ⟨ok_nop, mo_nop⟩ (
  And.intro ⟨ok_iast dX8_init_184 rfl, mo_iast⟩ (
  And.intro ⟨ok_dup dX8_init_185 rfl, mo_dup⟩ (
  And.intro ⟨ok_iconst dX8_init_186 rfl ic_3, mo_push⟩ (
  And.intro ⟨ok_bipush dX8_init_187 rfl bi_13, mo_push⟩ (
  And.intro ⟨ok_nop, mo_nop⟩ (
  And.intro ⟨ok_iast dX8_init_189 rfl, mo_iast⟩ (
  And.intro ⟨ok_putRF dX8_init_190 hclX8 inWX8 tyX8_ok nmX8 (by decide) (by decide) wd_910 rfl rfl rfl (tyX8_ok 19 (by decide)) (Or.inr ⟨_, rfl⟩) (fun _ _ _ => rfl) rfl, mo_putR⟩ (
  And.intro ⟨ok_nop, mo_nop⟩ (
  trivial))))))))))))))))
theorem rX8_init_12 : am_allR (fun pc o => am_ok am_tb0 cX8_init RX8 1 none true pc o ∧ am_mo o) 192 (am_nth [] tX8_init 12) :=
  And.intro ⟨ok_nop, mo_nop⟩ (
  And.intro ⟨ok_aload_n dX8_init_193 rfl rfl, mo_aload⟩ (
  And.intro ⟨ok_bipush dX8_init_194 rfl bi_96, mo_push⟩ (
  And.intro ⟨ok_nop, mo_nop⟩ (
  And.intro ⟨ok_newI dX8_init_196 wd_65 rfl, mo_newa⟩ (
  And.intro ⟨ok_nop, mo_nop⟩ (
  And.intro ⟨ok_putRF dX8_init_198 hclX8 inWX8 tyX8_ok nmX8 (by decide) (by decide) wd_911 rfl rfl rfl (tyX8_ok 20 (by decide)) (Or.inr ⟨_, rfl⟩) (fun _ _ _ => rfl) rfl, mo_putR⟩ (
  And.intro ⟨ok_nop, mo_nop⟩ (
  And.intro ⟨ok_nop, mo_nop⟩ (
  And.intro ⟨ok_aload_n dX8_init_201 rfl rfl, mo_aload⟩ (
  And.intro ⟨ok_bipush dX8_init_202 rfl bi_96, mo_push⟩ (
  And.intro ⟨ok_nop, mo_nop⟩ (
  And.intro ⟨ok_newI dX8_init_204 wd_65 rfl, mo_newa⟩ (
  And.intro ⟨ok_nop, mo_nop⟩ (
  And.intro ⟨ok_putRF dX8_init_206 hclX8 inWX8 tyX8_ok nmX8 (by decide) (by decide) wd_914 rfl rfl rfl (tyX8_ok 23 (by decide)) (Or.inr ⟨_, rfl⟩) (fun _ _ _ => rfl) rfl, mo_putR⟩ (
  And.intro ⟨ok_nop, mo_nop⟩ (
  trivial))))))))))))))))
theorem rX8_init_13 : am_allR (fun pc o => am_ok am_tb0 cX8_init RX8 1 none true pc o ∧ am_mo o) 208 (am_nth [] tX8_init 13) :=
  And.intro ⟨ok_nop, mo_nop⟩ (
  And.intro ⟨ok_aload_n dX8_init_209 rfl rfl, mo_aload⟩ (
  And.intro ⟨ok_bipush dX8_init_210 rfl bi_10, mo_push⟩ (
  And.intro ⟨ok_nop, mo_nop⟩ (
  And.intro ⟨ok_newZ dX8_init_212 wd_1006 rfl, mo_newa⟩ (
  And.intro ⟨ok_nop, mo_nop⟩ (
  And.intro ⟨ok_putRF dX8_init_214 hclX8 inWX8 tyX8_ok nmX8 (by decide) (by decide) wd_916 rfl rfl rfl (tyX8_ok 25 (by decide)) (Or.inr ⟨_, rfl⟩) (fun _ _ _ => rfl) rfl, mo_putR⟩ (
  And.intro ⟨ok_nop, mo_nop⟩ (
  And.intro ⟨ok_nop, mo_nop⟩ (
  And.intro ⟨ok_aload_n dX8_init_217 rfl rfl, mo_aload⟩ (
  And.intro ⟨ok_bipush dX8_init_218 rfl bi_96, mo_push⟩ (
  And.intro ⟨ok_nop, mo_nop⟩ (
  And.intro ⟨ok_newI dX8_init_220 wd_65 rfl, mo_newa⟩ (
  And.intro ⟨ok_nop, mo_nop⟩ (
  And.intro ⟨ok_putRF dX8_init_222 hclX8 inWX8 tyX8_ok nmX8 (by decide) (by decide) wd_917 rfl rfl rfl (tyX8_ok 26 (by decide)) (Or.inr ⟨_, rfl⟩) (fun _ _ _ => rfl) rfl, mo_putR⟩ (
  And.intro ⟨ok_nop, mo_nop⟩ (
  trivial))))))))))))))))
theorem rX8_init_14 : am_allR (fun pc o => am_ok am_tb0 cX8_init RX8 1 none true pc o ∧ am_mo o) 224 (am_nth [] tX8_init 14) :=
  And.intro ⟨ok_nop, mo_nop⟩ (
  And.intro ⟨ok_aload_n dX8_init_225 rfl rfl, mo_aload⟩ (
  And.intro ⟨ok_iconst dX8_init_226 rfl ic_4, mo_push⟩ (
  And.intro ⟨ok_newI dX8_init_227 wd_65 rfl, mo_newa⟩ (
  And.intro ⟨ok_nop, mo_nop⟩ (
  And.intro ⟨ok_putRF dX8_init_229 hclX8 inWX8 tyX8_ok nmX8 (by decide) (by decide) wd_918 rfl rfl rfl (tyX8_ok 27 (by decide)) (Or.inr ⟨_, rfl⟩) (fun _ _ _ => rfl) rfl, mo_putR⟩ (
  And.intro ⟨ok_nop, mo_nop⟩ (
  And.intro ⟨ok_nop, mo_nop⟩ (
  And.intro ⟨ok_aload_n dX8_init_232 rfl rfl, mo_aload⟩ (
  And.intro ⟨ok_iconst dX8_init_233 rfl ic_4, mo_push⟩ (
  And.intro ⟨ok_newI dX8_init_234 wd_65 rfl, mo_newa⟩ (
  And.intro ⟨ok_nop, mo_nop⟩ (
  And.intro ⟨ok_dup dX8_init_236 rfl, mo_dup⟩ (
  And.intro ⟨ok_iconst dX8_init_237 rfl ic_0, mo_push⟩ (
  And.intro ⟨ok_iconst dX8_init_238 rfl ic_m1, mo_push⟩ (
  And.intro ⟨ok_iast dX8_init_239 rfl, mo_iast⟩ (
  trivial))))))))))))))))
theorem rX8_init_15 : am_allR (fun pc o => am_ok am_tb0 cX8_init RX8 1 none true pc o ∧ am_mo o) 240 (am_nth [] tX8_init 15) :=
  And.intro ⟨ok_dup dX8_init_240 rfl, mo_dup⟩ (
  And.intro ⟨ok_iconst dX8_init_241 rfl ic_1, mo_push⟩ (
  And.intro ⟨ok_iconst dX8_init_242 rfl ic_m1, mo_push⟩ (
  And.intro ⟨ok_iast dX8_init_243 rfl, mo_iast⟩ (
  And.intro ⟨ok_dup dX8_init_244 rfl, mo_dup⟩ (
  And.intro ⟨ok_iconst dX8_init_245 rfl ic_2, mo_push⟩ (
  And.intro ⟨ok_iconst dX8_init_246 rfl ic_m1, mo_push⟩ (
  And.intro ⟨ok_iast dX8_init_247 rfl, mo_iast⟩ (
  And.intro ⟨ok_dup dX8_init_248 rfl, mo_dup⟩ (
  And.intro ⟨ok_iconst dX8_init_249 rfl ic_3, mo_push⟩ (
  And.intro ⟨ok_iconst dX8_init_250 rfl ic_m1, mo_push⟩ (
  And.intro ⟨ok_iast dX8_init_251 rfl, mo_iast⟩ (
  And.intro ⟨ok_putRF dX8_init_252 hclX8 inWX8 tyX8_ok nmX8 (by decide) (by decide) wd_919 rfl rfl rfl (tyX8_ok 28 (by decide)) (Or.inr ⟨_, rfl⟩) (fun _ _ _ => rfl) rfl, mo_putR⟩ (
  And.intro ⟨ok_nop, mo_nop⟩ (
  And.intro ⟨ok_nop, mo_nop⟩ (
  And.intro ⟨ok_aload_n dX8_init_255 rfl rfl, mo_aload⟩ (
  trivial))))))))))))))))
theorem rX8_init_16 : am_allR (fun pc o => am_ok am_tb0 cX8_init RX8 1 none true pc o ∧ am_mo o) 256 (am_nth [] tX8_init 16) :=
  And.intro ⟨ok_iconst dX8_init_256 rfl ic_4, mo_push⟩ (
  And.intro ⟨ok_newI dX8_init_257 wd_65 rfl, mo_newa⟩ (
  And.intro ⟨ok_nop, mo_nop⟩ (
  And.intro ⟨ok_putRF dX8_init_259 hclX8 inWX8 tyX8_ok nmX8 (by decide) (by decide) wd_920 rfl rfl rfl (tyX8_ok 29 (by decide)) (Or.inr ⟨_, rfl⟩) (fun _ _ _ => rfl) rfl, mo_putR⟩ (
  And.intro ⟨ok_nop, mo_nop⟩ (
  And.intro ⟨ok_nop, mo_nop⟩ (
  And.intro ⟨ok_aload_n dX8_init_262 rfl rfl, mo_aload⟩ (
  And.intro ⟨ok_bipush dX8_init_263 rfl bi_96, mo_push⟩ (
  And.intro ⟨ok_nop, mo_nop⟩ (
  And.intro ⟨ok_newI dX8_init_265 wd_65 rfl, mo_newa⟩ (
  And.intro ⟨ok_nop, mo_nop⟩ (
  And.intro ⟨ok_putRF dX8_init_267 hclX8 inWX8 tyX8_ok nmX8 (by decide) (by decide) wd_921 rfl rfl rfl (tyX8_ok 30 (by decide)) (Or.inr ⟨_, rfl⟩) (fun _ _ _ => rfl) rfl, mo_putR⟩ (
  And.intro ⟨ok_nop, mo_nop⟩ (
  And.intro ⟨ok_nop, mo_nop⟩ (
  And.intro ⟨ok_aload_n dX8_init_270 rfl rfl, mo_aload⟩ (
  And.intro ⟨ok_iconst dX8_init_271 rfl ic_5, mo_push⟩ (
  trivial))))))))))))))))
theorem rX8_init_17 : am_allR (fun pc o => am_ok am_tb0 cX8_init RX8 1 none true pc o ∧ am_mo o) 272 (am_nth [] tX8_init 17) :=
  And.intro ⟨ok_newI dX8_init_272 wd_65 rfl, mo_newa⟩ (
  And.intro ⟨ok_nop, mo_nop⟩ (
  And.intro ⟨ok_putRF dX8_init_274 hclX8 inWX8 tyX8_ok nmX8 (by decide) (by decide) wd_922 rfl rfl rfl (tyX8_ok 31 (by decide)) (Or.inr ⟨_, rfl⟩) (fun _ _ _ => rfl) rfl, mo_putR⟩ (
  And.intro ⟨ok_nop, mo_nop⟩ (
  And.intro ⟨ok_nop, mo_nop⟩ (
  And.intro ⟨ok_aload_n dX8_init_277 rfl rfl, mo_aload⟩ (
  And.intro ⟨ok_iconst dX8_init_278 rfl ic_5, mo_push⟩ (
  And.intro ⟨ok_newI dX8_init_279 wd_65 rfl, mo_newa⟩ (
  And.intro ⟨ok_nop, mo_nop⟩ (
  And.intro ⟨ok_putRF dX8_init_281 hclX8 inWX8 tyX8_ok nmX8 (by decide) (by decide) wd_923 rfl rfl rfl (tyX8_ok 32 (by decide)) (Or.inr ⟨_, rfl⟩) (fun _ _ _ => rfl) rfl, mo_putR⟩ (
  And.intro ⟨ok_nop, mo_nop⟩ (
  And.intro ⟨ok_nop, mo_nop⟩ (
  And.intro ⟨ok_aload_n dX8_init_284 rfl rfl, mo_aload⟩ (
  And.intro ⟨ok_iconst dX8_init_285 rfl ic_5, mo_push⟩ (
  And.intro ⟨ok_newI dX8_init_286 wd_65 rfl, mo_newa⟩ (
  And.intro ⟨ok_nop, mo_nop⟩ (
  trivial))))))))))))))))
theorem rX8_init_18 : am_allR (fun pc o => am_ok am_tb0 cX8_init RX8 1 none true pc o ∧ am_mo o) 288 (am_nth [] tX8_init 18) :=
  And.intro ⟨ok_putRF dX8_init_288 hclX8 inWX8 tyX8_ok nmX8 (by decide) (by decide) wd_924 rfl rfl rfl (tyX8_ok 33 (by decide)) (Or.inr ⟨_, rfl⟩) (fun _ _ _ => rfl) rfl, mo_putR⟩ (
  And.intro ⟨ok_nop, mo_nop⟩ (
  And.intro ⟨ok_nop, mo_nop⟩ (
  And.intro ⟨ok_aload_n dX8_init_291 rfl rfl, mo_aload⟩ (
  And.intro ⟨ok_bipush dX8_init_292 rfl bi_120, mo_push⟩ (
  And.intro ⟨ok_nop, mo_nop⟩ (
  And.intro ⟨ok_newI dX8_init_294 wd_65 rfl, mo_newa⟩ (
  And.intro ⟨ok_nop, mo_nop⟩ (
  And.intro ⟨ok_putRF dX8_init_296 hclX8 inWX8 tyX8_ok nmX8 (by decide) (by decide) wd_925 rfl rfl rfl (tyX8_ok 34 (by decide)) (Or.inr ⟨_, rfl⟩) (fun _ _ _ => rfl) rfl, mo_putR⟩ (
  And.intro ⟨ok_nop, mo_nop⟩ (
  And.intro ⟨ok_nop, mo_nop⟩ (
  And.intro ⟨ok_aload_n dX8_init_299 rfl rfl, mo_aload⟩ (
  And.intro ⟨ok_bipush dX8_init_300 rfl bi_24, mo_push⟩ (
  And.intro ⟨ok_nop, mo_nop⟩ (
  And.intro ⟨ok_newI dX8_init_302 wd_65 rfl, mo_newa⟩ (
  And.intro ⟨ok_nop, mo_nop⟩ (
  trivial))))))))))))))))
theorem rX8_init_19 : am_allR (fun pc o => am_ok am_tb0 cX8_init RX8 1 none true pc o ∧ am_mo o) 304 (am_nth [] tX8_init 19) :=
  And.intro ⟨ok_putRF dX8_init_304 hclX8 inWX8 tyX8_ok nmX8 (by decide) (by decide) wd_926 rfl rfl rfl (tyX8_ok 35 (by decide)) (Or.inr ⟨_, rfl⟩) (fun _ _ _ => rfl) rfl, mo_putR⟩ (
  And.intro ⟨ok_nop, mo_nop⟩ (
  And.intro ⟨ok_nop, mo_nop⟩ (
  And.intro ⟨ok_aload_n dX8_init_307 rfl rfl, mo_aload⟩ (
  And.intro ⟨ok_bipush dX8_init_308 rfl bi_60, mo_push⟩ (
  And.intro ⟨ok_nop, mo_nop⟩ (
  And.intro ⟨ok_newI dX8_init_310 wd_65 rfl, mo_newa⟩ (
  And.intro ⟨ok_nop, mo_nop⟩ (
  And.intro ⟨ok_putRF dX8_init_312 hclX8 inWX8 tyX8_ok nmX8 (by decide) (by decide) wd_927 rfl rfl rfl (tyX8_ok 36 (by decide)) (Or.inr ⟨_, rfl⟩) (fun _ _ _ => rfl) rfl, mo_putR⟩ (
  And.intro ⟨ok_nop, mo_nop⟩ (
  And.intro ⟨ok_nop, mo_nop⟩ (
  And.intro ⟨ok_aload_n dX8_init_315 rfl rfl, mo_aload⟩ (
  And.intro ⟨ok_getR dX8_init_316 hclX8 inWX8 (by decide) (by decide) wd_891 (fun _ _ _ => rfl) rfl, mo_getR⟩ (
  And.intro ⟨ok_nop, mo_nop⟩ (
  And.intro ⟨ok_nop, mo_nop⟩ (
  And.intro ⟨ok_iconst dX8_init_319 rfl ic_0, mo_push⟩ (
  trivial))))))))))))))))
theorem rX8_init_20 : am_allR (fun pc o => am_ok am_tb0 cX8_init RX8 1 none true pc o ∧ am_mo o) 320 (am_nth [] tX8_init 20) :=
  And.intro ⟨ok_iconst dX8_init_320 rfl ic_1, mo_push⟩ (
  And.intro ⟨ok_iast dX8_init_321 rfl, mo_iast⟩ (
  And.intro ⟨ok_aload_n dX8_init_322 rfl rfl, mo_aload⟩ (
  And.intro ⟨ok_getR dX8_init_323 hclX8 inWX8 (by decide) (by decide) wd_891 (fun _ _ _ => rfl) rfl, mo_getR⟩ (
  And.intro ⟨ok_nop, mo_nop⟩ (
  And.intro ⟨ok_nop, mo_nop⟩ (
  And.intro ⟨ok_iconst dX8_init_326 rfl ic_3, mo_push⟩ (
  And.intro ⟨ok_bipush dX8_init_327 rfl bi_10, mo_push⟩ (
  And.intro ⟨ok_nop, mo_nop⟩ (
  And.intro ⟨ok_iast dX8_init_329 rfl, mo_iast⟩ (
  And.intro ⟨ok_aload_n dX8_init_330 rfl rfl, mo_aload⟩ (
  And.intro ⟨ok_getR dX8_init_331 hclX8 inWX8 (by decide) (by decide) wd_891 (fun _ _ _ => rfl) rfl, mo_getR⟩ (
  And.intro ⟨ok_nop, mo_nop⟩ (
  And.intro ⟨ok_nop, mo_nop⟩ (
  And.intro ⟨ok_iconst dX8_init_334 rfl ic_4, mo_push⟩ (
  And.intro ⟨ok_bipush dX8_init_335 rfl bi_120, mo_push⟩ (
  trivial))))))))))))))))
theorem rX8_init_21 : am_allR (fun pc o => am_ok am_tb0 cX8_init RX8 1 none true pc o ∧ am_mo o) 336 (am_nth [] tX8_init 21) :=
  And.intro ⟨ok_nop, mo_nop⟩ (
  And.intro ⟨ok_iast dX8_init_337 rfl, mo_iast⟩ (
  And.intro ⟨ok_ret dX8_init_338 rfl, mo_ret⟩ (
  And.intro ⟨ok_nop, mo_nop⟩ (
  And.intro ⟨ok_nop, mo_nop⟩ (
  And.intro ⟨ok_nop, mo_nop⟩ (
  And.intro ⟨ok_nop, mo_nop⟩ (
  And.intro ⟨ok_nop, mo_nop⟩ (
  And.intro ⟨ok_nop, mo_nop⟩ (
  And.intro ⟨ok_nop, mo_nop⟩ (
  And.intro ⟨ok_nop, mo_nop⟩ (
  And.intro ⟨ok_nop, mo_nop⟩ (
  And.intro ⟨ok_nop, mo_nop⟩ (
  And.intro ⟨ok_nop, mo_nop⟩ (
  And.intro ⟨ok_nop, mo_nop⟩ (
  And.intro ⟨ok_nop, mo_nop⟩ (
  trivial))))))))))))))))
theorem kX8_init : am_M1 am_tb0 cX8_init RX8 1 none true tX8_init := And.intro rX8_init_0 (And.intro rX8_init_1 (And.intro rX8_init_2 (And.intro rX8_init_3 (And.intro rX8_init_4 (And.intro rX8_init_5 (And.intro rX8_init_6 (And.intro rX8_init_7 (And.intro rX8_init_8 (And.intro rX8_init_9 (And.intro rX8_init_10 (And.intro rX8_init_11 (And.intro rX8_init_12 (And.intro rX8_init_13 (And.intro rX8_init_14 (And.intro rX8_init_15 (And.intro rX8_init_16 (And.intro rX8_init_17 (And.intro rX8_init_18 (And.intro rX8_init_19 (And.intro rX8_init_20 (And.intro rX8_init_21 (trivial))))))))))))))))))))))
def tX8_in : List (List am_Op) := [[o_iload 0 1, o_iload 1 2, o_icmp (fun x y => x < y) 14 5, am_nop, am_nop, o_iload 0 6, o_iload 2 7, o_icmp (fun x y => y < x) 14 10, am_nop, am_nop, o_push (.int 1) 11, o_goto 15, am_nop, am_nop, o_push (.int 0) 15, o_nret .boolean]]
theorem rX8_in_0 : am_allR (fun pc o => am_ok am_tb0 cX8_in RX8 3 (some .boolean) false pc o ∧ am_mo o) 0 (am_nth [] tX8_in 0) :=
  And.intro ⟨ok_iload_n dX8_in_0 rfl rfl, mo_iload⟩ (
  And.intro ⟨ok_iload_n dX8_in_1 rfl rfl, mo_iload⟩ (
  And.intro ⟨ok_icmp_lt dX8_in_2 (by decide) rfl, mo_icmp⟩ (
  And.intro ⟨ok_nop, mo_nop⟩ (
  And.intro ⟨ok_nop, mo_nop⟩ (
  And.intro ⟨ok_iload_n dX8_in_5 rfl rfl, mo_iload⟩ (
  And.intro ⟨ok_iload_n dX8_in_6 rfl rfl, mo_iload⟩ (
  And.intro ⟨ok_icmp_gt dX8_in_7 (by decide) rfl, mo_icmp⟩ (
  And.intro ⟨ok_nop, mo_nop⟩ (
  And.intro ⟨ok_nop, mo_nop⟩ (
  And.intro ⟨ok_iconst dX8_in_10 rfl ic_1, mo_push⟩ (
  And.intro ⟨ok_goto dX8_in_11 (by decide), mo_goto⟩ (
  And.intro ⟨ok_nop, mo_nop⟩ (
  And.intro ⟨ok_nop, mo_nop⟩ (
  And.intro ⟨ok_iconst dX8_in_14 rfl ic_0, mo_push⟩ (
  And.intro ⟨ok_nret dX8_in_15 rfl, mo_nret⟩ (
  trivial))))))))))))))))
theorem kX8_in : am_M1 am_tb0 cX8_in RX8 3 (some .boolean) false tX8_in := And.intro rX8_in_0 (trivial)
def tX8_within : List (List am_Op) := [[o_iload 0 1, o_iload 1 2, o_icmp (fun x y => y ≤ x) 9 5, am_nop, am_nop, o_iload 1 6, o_goto 19, am_nop, am_nop, o_iload 0 10, o_iload 2 11, o_icmp (fun x y => x ≤ y) 18 14, am_nop, am_nop, o_iload 2 15, o_goto 19],
  [am_nop, am_nop, o_iload 0 19, o_iret, am_nop, am_nop, am_nop, am_nop, am_nop, am_nop, am_nop, am_nop, am_nop, am_nop, am_nop, am_nop]]
theorem rX8_within_0 : am_allR (fun pc o => am_ok am_tb0 cX8_within RX8 3 (some .int) false pc o ∧ am_mo o) 0 (am_nth [] tX8_within 0) :=
  And.intro ⟨ok_iload_n dX8_within_0 rfl rfl, mo_iload⟩ (
  And.intro ⟨ok_iload_n dX8_within_1 rfl rfl, mo_iload⟩ (
  And.intro ⟨ok_icmp_ge dX8_within_2 (by decide) rfl, mo_icmp⟩ (
  And.intro ⟨ok_nop, mo_nop⟩ (
  And.intro ⟨ok_nop, mo_nop⟩ (
  And.intro ⟨ok_iload_n dX8_within_5 rfl rfl, mo_iload⟩ (
  And.intro ⟨ok_goto dX8_within_6 (by decide), mo_goto⟩ (
  And.intro ⟨ok_nop, mo_nop⟩ (
  And.intro ⟨ok_nop, mo_nop⟩ (
  And.intro ⟨ok_iload_n dX8_within_9 rfl rfl, mo_iload⟩ (
  And.intro ⟨ok_iload_n dX8_within_10 rfl rfl, mo_iload⟩ (
  And.intro ⟨ok_icmp_le dX8_within_11 (by decide) rfl, mo_icmp⟩ (
  And.intro ⟨ok_nop, mo_nop⟩ (
  And.intro ⟨ok_nop, mo_nop⟩ (
  And.intro ⟨ok_iload_n dX8_within_14 rfl rfl, mo_iload⟩ (
  And.intro ⟨ok_goto dX8_within_15 (by decide), mo_goto⟩ (
  trivial))))))))))))))))
theorem rX8_within_1 : am_allR (fun pc o => am_ok am_tb0 cX8_within RX8 3 (some .int) false pc o ∧ am_mo o) 16 (am_nth [] tX8_within 1) :=
  And.intro ⟨ok_nop, mo_nop⟩ (
  And.intro ⟨ok_nop, mo_nop⟩ (
  And.intro ⟨ok_iload_n dX8_within_18 rfl rfl, mo_iload⟩ (
  And.intro ⟨ok_iret dX8_within_19 rfl, mo_iret⟩ (
  And.intro ⟨ok_nop, mo_nop⟩ (
  And.intro ⟨ok_nop, mo_nop⟩ (
  And.intro ⟨ok_nop, mo_nop⟩ (
  And.intro ⟨ok_nop, mo_nop⟩ (
  And.intro ⟨ok_nop, mo_nop⟩ (
  And.intro ⟨ok_nop, mo_nop⟩ (
  And.intro ⟨ok_nop, mo_nop⟩ (
  And.intro ⟨ok_nop, mo_nop⟩ (
  And.intro ⟨ok_nop, mo_nop⟩ (
  And.intro ⟨ok_nop, mo_nop⟩ (
  And.intro ⟨ok_nop, mo_nop⟩ (
  And.intro ⟨ok_nop, mo_nop⟩ (
  trivial))))))))))))))))
theorem kX8_within : am_M1 am_tb0 cX8_within RX8 3 (some .int) false tX8_within := And.intro rX8_within_0 (And.intro rX8_within_1 (trivial))
def tX8_copyAll : List (List am_Op) := [[o_push (.int 0) 1, o_istore 2 2, o_iload 2 3, o_push (.int 1448) 6, am_nop, am_nop, o_icmp (fun x y => y ≤ x) 21 9, am_nop, am_nop, o_aload 1 10, o_iload 2 11, o_aload 0 12, o_iload 2 13, o_iald 20 14, o_iast 15, o_iinc 2 1 18],
  [am_nop, am_nop, o_goto 2, am_nop, am_nop, o_ret, am_nop, am_nop, am_nop, am_nop, am_nop, am_nop, am_nop, am_nop, am_nop, am_nop]]
theorem rX8_copyAll_0 : am_allR (fun pc o => am_ok am_tb0 cX8_copyAll RX8 3 none false pc o ∧ am_mo o) 0 (am_nth [] tX8_copyAll 0) :=
  And.intro ⟨ok_iconst dX8_copyAll_0 rfl ic_0, mo_push⟩ (
  And.intro ⟨ok_istore_n dX8_copyAll_1 rfl (by decide) rfl, mo_istore⟩ (
  And.intro ⟨ok_iload_n dX8_copyAll_2 rfl rfl, mo_iload⟩ (
  And.intro ⟨ok_sipush dX8_copyAll_3 rfl si_1448, mo_push⟩ (
  And.intro ⟨ok_nop, mo_nop⟩ (
  And.intro ⟨ok_nop, mo_nop⟩ (
  And.intro ⟨ok_icmp_ge dX8_copyAll_6 (by decide) rfl, mo_icmp⟩ (
  And.intro ⟨ok_nop, mo_nop⟩ (
  And.intro ⟨ok_nop, mo_nop⟩ (
  And.intro ⟨ok_aload_n dX8_copyAll_9 rfl rfl, mo_aload⟩ (
  And.intro ⟨ok_iload_n dX8_copyAll_10 rfl rfl, mo_iload⟩ (
  And.intro ⟨ok_aload_n dX8_copyAll_11 rfl rfl, mo_aload⟩ (
  And.intro ⟨ok_iload_n dX8_copyAll_12 rfl rfl, mo_iload⟩ (
  And.intro ⟨ok_iald dX8_copyAll_13 rfl, mo_iald⟩ (
  And.intro ⟨ok_iast dX8_copyAll_14 rfl, mo_iast⟩ (
  And.intro ⟨ok_iinc dX8_copyAll_15 ic_1 (by decide) rfl, mo_iinc⟩ (
  trivial))))))))))))))))
theorem rX8_copyAll_1 : am_allR (fun pc o => am_ok am_tb0 cX8_copyAll RX8 3 none false pc o ∧ am_mo o) 16 (am_nth [] tX8_copyAll 1) :=
  And.intro ⟨ok_nop, mo_nop⟩ (
  And.intro ⟨ok_nop, mo_nop⟩ (
  And.intro ⟨ok_goto dX8_copyAll_18 (by decide), mo_goto⟩ (
  And.intro ⟨ok_nop, mo_nop⟩ (
  And.intro ⟨ok_nop, mo_nop⟩ (
  And.intro ⟨ok_ret dX8_copyAll_21 rfl, mo_ret⟩ (
  And.intro ⟨ok_nop, mo_nop⟩ (
  And.intro ⟨ok_nop, mo_nop⟩ (
  And.intro ⟨ok_nop, mo_nop⟩ (
  And.intro ⟨ok_nop, mo_nop⟩ (
  And.intro ⟨ok_nop, mo_nop⟩ (
  And.intro ⟨ok_nop, mo_nop⟩ (
  And.intro ⟨ok_nop, mo_nop⟩ (
  And.intro ⟨ok_nop, mo_nop⟩ (
  And.intro ⟨ok_nop, mo_nop⟩ (
  And.intro ⟨ok_nop, mo_nop⟩ (
  trivial))))))))))))))))
theorem kX8_copyAll : am_M1 am_tb0 cX8_copyAll RX8 3 none false tX8_copyAll := And.intro rX8_copyAll_0 (And.intro rX8_copyAll_1 (trivial))
def tX8_told0 : List (List am_Op) := [[o_iload 0 1, o_if (fun x => 0 ≤ x) 9 4, am_nop, am_nop, o_push (.int (-1000000005)) 6, am_nop, o_goto 10, am_nop, am_nop, o_iload 0 10, o_iret]]
theorem rX8_told0_0 : am_allR (fun pc o => am_ok am_tb0 cX8_told0 RX8 1 (some .int) false pc o ∧ am_mo o) 0 (am_nth [] tX8_told0 0) :=
  And.intro ⟨ok_iload_n dX8_told0_0 rfl rfl, mo_iload⟩ (
  And.intro ⟨ok_if_ge dX8_told0_1 (by decide) rfl, mo_if⟩ (
  And.intro ⟨ok_nop, mo_nop⟩ (
  And.intro ⟨ok_nop, mo_nop⟩ (
  And.intro ⟨ok_ldc dX8_told0_4 rfl wd_1173, mo_push⟩ (
  And.intro ⟨ok_nop, mo_nop⟩ (
  And.intro ⟨ok_goto dX8_told0_6 (by decide), mo_goto⟩ (
  And.intro ⟨ok_nop, mo_nop⟩ (
  And.intro ⟨ok_nop, mo_nop⟩ (
  And.intro ⟨ok_iload_n dX8_told0_9 rfl rfl, mo_iload⟩ (
  And.intro ⟨ok_iret dX8_told0_10 rfl, mo_iret⟩ (
  trivial)))))))))))
theorem kX8_told0 : am_M1 am_tb0 cX8_told0 RX8 1 (some .int) false tX8_told0 := And.intro rX8_told0_0 (trivial)
def tX8_isHole : List (List am_Op) := [[o_iload 1 1, o_push (.int 0) 2, o_aload 0 3, o_getR 8 38 0 6, am_nop, am_nop, o_push (.int 1) 7, o_iald 20 8, o_push (.int 1) 9, o_bin (fun x y => x - y) 10, o_cs 113 3 0 3 13, am_nop, am_nop, o_nret .boolean]]
theorem rX8_isHole_0 : am_allR (fun pc o => am_ok am_tb0 cX8_isHole RX8 2 (some .boolean) false pc o ∧ am_mo o) 0 (am_nth [] tX8_isHole 0) :=
  And.intro ⟨ok_iload_n dX8_isHole_0 rfl rfl, mo_iload⟩ (
  And.intro ⟨ok_iconst dX8_isHole_1 rfl ic_0, mo_push⟩ (
  And.intro ⟨ok_aload_n dX8_isHole_2 rfl rfl, mo_aload⟩ (
  And.intro ⟨ok_getR dX8_isHole_3 hclX8 inWX8 (by decide) (by decide) wd_891 (fun _ _ _ => rfl) rfl, mo_getR⟩ (
  And.intro ⟨ok_nop, mo_nop⟩ (
  And.intro ⟨ok_nop, mo_nop⟩ (
  And.intro ⟨ok_iconst dX8_isHole_6 rfl ic_1, mo_push⟩ (
  And.intro ⟨ok_iald dX8_isHole_7 rfl, mo_iald⟩ (
  And.intro ⟨ok_iconst dX8_isHole_8 rfl ic_1, mo_push⟩ (
  And.intro ⟨ok_isub dX8_isHole_9 rfl, mo_bin⟩ (
  And.intro ⟨ok_cs (z := 113) dX8_isHole_10 wd_1012 wd_1013 wd_8 wd_1014 rfl (by decide) hy_X8_in rfl, mo_cs⟩ (
  And.intro ⟨ok_nop, mo_nop⟩ (
  And.intro ⟨ok_nop, mo_nop⟩ (
  And.intro ⟨ok_nret dX8_isHole_13 rfl, mo_nret⟩ (
  trivial))))))))))))))
theorem kX8_isHole : am_M1 am_tb0 cX8_isHole RX8 2 (some .boolean) false tX8_isHole := And.intro rX8_isHole_0 (trivial)
def tX8_isPlace : List (List am_Op) := [[o_iload 0 1, o_push (.int 0) 2, o_push (.int 29) 4, am_nop, o_cs 113 3 0 3 7, am_nop, am_nop, o_nret .boolean]]
theorem rX8_isPlace_0 : am_allR (fun pc o => am_ok am_tb0 cX8_isPlace RX8 1 (some .boolean) false pc o ∧ am_mo o) 0 (am_nth [] tX8_isPlace 0) :=
  And.intro ⟨ok_iload_n dX8_isPlace_0 rfl rfl, mo_iload⟩ (
  And.intro ⟨ok_iconst dX8_isPlace_1 rfl ic_0, mo_push⟩ (
  And.intro ⟨ok_bipush dX8_isPlace_2 rfl bi_29, mo_push⟩ (
  And.intro ⟨ok_nop, mo_nop⟩ (
  And.intro ⟨ok_cs (z := 113) dX8_isPlace_4 wd_1012 wd_1013 wd_8 wd_1014 rfl (by decide) hy_X8_in rfl, mo_cs⟩ (
  And.intro ⟨ok_nop, mo_nop⟩ (
  And.intro ⟨ok_nop, mo_nop⟩ (
  And.intro ⟨ok_nret dX8_isPlace_7 rfl, mo_nret⟩ (
  trivial))))))))
theorem kX8_isPlace : am_M1 am_tb0 cX8_isPlace RX8 1 (some .boolean) false tX8_isPlace := And.intro rX8_isPlace_0 (trivial)
def tX8_isOwner : List (List am_Op) := [[o_iload 0 1, o_push (.int 0) 2, o_push (.int 7) 4, am_nop, o_cs 113 3 0 3 7, am_nop, am_nop, o_nret .boolean]]
theorem rX8_isOwner_0 : am_allR (fun pc o => am_ok am_tb0 cX8_isOwner RX8 1 (some .boolean) false pc o ∧ am_mo o) 0 (am_nth [] tX8_isOwner 0) :=
  And.intro ⟨ok_iload_n dX8_isOwner_0 rfl rfl, mo_iload⟩ (
  And.intro ⟨ok_iconst dX8_isOwner_1 rfl ic_0, mo_push⟩ (
  And.intro ⟨ok_bipush dX8_isOwner_2 rfl bi_7, mo_push⟩ (
  And.intro ⟨ok_nop, mo_nop⟩ (
  And.intro ⟨ok_cs (z := 113) dX8_isOwner_4 wd_1012 wd_1013 wd_8 wd_1014 rfl (by decide) hy_X8_in rfl, mo_cs⟩ (
  And.intro ⟨ok_nop, mo_nop⟩ (
  And.intro ⟨ok_nop, mo_nop⟩ (
  And.intro ⟨ok_nret dX8_isOwner_7 rfl, mo_nret⟩ (
  trivial))))))))
theorem kX8_isOwner : am_M1 am_tb0 cX8_isOwner RX8 1 (some .boolean) false tX8_isOwner := And.intro rX8_isOwner_0 (trivial)
def tX8_isDug : List (List am_Op) := [[o_iload 0 1, o_push (.int 1) 2, o_push (.int 99) 4, am_nop, o_cs 113 3 0 3 7, am_nop, am_nop, o_nret .boolean]]
theorem rX8_isDug_0 : am_allR (fun pc o => am_ok am_tb0 cX8_isDug RX8 1 (some .boolean) false pc o ∧ am_mo o) 0 (am_nth [] tX8_isDug 0) :=
  And.intro ⟨ok_iload_n dX8_isDug_0 rfl rfl, mo_iload⟩ (
  And.intro ⟨ok_iconst dX8_isDug_1 rfl ic_1, mo_push⟩ (
  And.intro ⟨ok_bipush dX8_isDug_2 rfl bi_99, mo_push⟩ (
  And.intro ⟨ok_nop, mo_nop⟩ (
  And.intro ⟨ok_cs (z := 113) dX8_isDug_4 wd_1012 wd_1013 wd_8 wd_1014 rfl (by decide) hy_X8_in rfl, mo_cs⟩ (
  And.intro ⟨ok_nop, mo_nop⟩ (
  And.intro ⟨ok_nop, mo_nop⟩ (
  And.intro ⟨ok_nret dX8_isDug_7 rfl, mo_nret⟩ (
  trivial))))))))
theorem kX8_isDug : am_M1 am_tb0 cX8_isDug RX8 1 (some .boolean) false tX8_isDug := And.intro rX8_isDug_0 (trivial)
def tX8_of : List (List am_Op) := [[o_aload 0 1, o_getR 8 38 0 4, am_nop, am_nop, o_push (.int 21) 6, am_nop, o_push (.int 5) 7, o_iload 1 8, o_bin (fun x y => x * y) 9, o_bin (fun x y => x + y) 10, o_iload 2 11, o_bin (fun x y => x + y) 12, o_iald 20 13, o_iret]]
theorem rX8_of_0 : am_allR (fun pc o => am_ok am_tb0 cX8_of RX8 3 (some .int) false pc o ∧ am_mo o) 0 (am_nth [] tX8_of 0) :=
  And.intro ⟨ok_aload_n dX8_of_0 rfl rfl, mo_aload⟩ (
  And.intro ⟨ok_getR dX8_of_1 hclX8 inWX8 (by decide) (by decide) wd_891 (fun _ _ _ => rfl) rfl, mo_getR⟩ (
  And.intro ⟨ok_nop, mo_nop⟩ (
  And.intro ⟨ok_nop, mo_nop⟩ (
  And.intro ⟨ok_bipush dX8_of_4 rfl bi_21, mo_push⟩ (
  And.intro ⟨ok_nop, mo_nop⟩ (
  And.intro ⟨ok_iconst dX8_of_6 rfl ic_5, mo_push⟩ (
  And.intro ⟨ok_iload_n dX8_of_7 rfl rfl, mo_iload⟩ (
  And.intro ⟨ok_imul dX8_of_8 rfl, mo_bin⟩ (
  And.intro ⟨ok_iadd dX8_of_9 rfl, mo_bin⟩ (
  And.intro ⟨ok_iload_n dX8_of_10 rfl rfl, mo_iload⟩ (
  And.intro ⟨ok_iadd dX8_of_11 rfl, mo_bin⟩ (
  And.intro ⟨ok_iald dX8_of_12 rfl, mo_iald⟩ (
  And.intro ⟨ok_iret dX8_of_13 rfl, mo_iret⟩ (
  trivial))))))))))))))
theorem kX8_of : am_M1 am_tb0 cX8_of RX8 3 (some .int) false tX8_of := And.intro rX8_of_0 (trivial)
def tX8_put : List (List am_Op) := [[o_aload 0 1, o_getR 8 38 0 4, am_nop, am_nop, o_push (.int 21) 6, am_nop, o_push (.int 5) 7, o_iload 1 8, o_bin (fun x y => x * y) 9, o_bin (fun x y => x + y) 10, o_iload 2 11, o_bin (fun x y => x + y) 12, o_iload 3 13, o_iast 14, o_ret]]
theorem rX8_put_0 : am_allR (fun pc o => am_ok am_tb0 cX8_put RX8 4 none false pc o ∧ am_mo o) 0 (am_nth [] tX8_put 0) :=
  And.intro ⟨ok_aload_n dX8_put_0 rfl rfl, mo_aload⟩ (
  And.intro ⟨ok_getR dX8_put_1 hclX8 inWX8 (by decide) (by decide) wd_891 (fun _ _ _ => rfl) rfl, mo_getR⟩ (
  And.intro ⟨ok_nop, mo_nop⟩ (
  And.intro ⟨ok_nop, mo_nop⟩ (
  And.intro ⟨ok_bipush dX8_put_4 rfl bi_21, mo_push⟩ (
  And.intro ⟨ok_nop, mo_nop⟩ (
  And.intro ⟨ok_iconst dX8_put_6 rfl ic_5, mo_push⟩ (
  And.intro ⟨ok_iload_n dX8_put_7 rfl rfl, mo_iload⟩ (
  And.intro ⟨ok_imul dX8_put_8 rfl, mo_bin⟩ (
  And.intro ⟨ok_iadd dX8_put_9 rfl, mo_bin⟩ (
  And.intro ⟨ok_iload_n dX8_put_10 rfl rfl, mo_iload⟩ (
  And.intro ⟨ok_iadd dX8_put_11 rfl, mo_bin⟩ (
  And.intro ⟨ok_iload_n dX8_put_12 rfl rfl, mo_iload⟩ (
  And.intro ⟨ok_iast dX8_put_13 rfl, mo_iast⟩ (
  And.intro ⟨ok_ret dX8_put_14 rfl, mo_ret⟩ (
  trivial)))))))))))))))
theorem kX8_put : am_M1 am_tb0 cX8_put RX8 4 none false tX8_put := And.intro rX8_put_0 (trivial)
def tX8_becomes : List (List am_Op) := [[o_aload 0 1, o_getR 8 38 0 4, am_nop, am_nop, o_iload 1 5, o_iald 20 6, o_istore 3 7, o_aload 0 8, o_getR 8 38 0 11, am_nop, am_nop, o_iload 1 12, o_iload 2 13, o_iast 14, o_iload 3 15, o_iret]]
theorem rX8_becomes_0 : am_allR (fun pc o => am_ok am_tb0 cX8_becomes RX8 4 (some .int) false pc o ∧ am_mo o) 0 (am_nth [] tX8_becomes 0) :=
  And.intro ⟨ok_aload_n dX8_becomes_0 rfl rfl, mo_aload⟩ (
  And.intro ⟨ok_getR dX8_becomes_1 hclX8 inWX8 (by decide) (by decide) wd_891 (fun _ _ _ => rfl) rfl, mo_getR⟩ (
  And.intro ⟨ok_nop, mo_nop⟩ (
  And.intro ⟨ok_nop, mo_nop⟩ (
  And.intro ⟨ok_iload_n dX8_becomes_4 rfl rfl, mo_iload⟩ (
  And.intro ⟨ok_iald dX8_becomes_5 rfl, mo_iald⟩ (
  And.intro ⟨ok_istore_n dX8_becomes_6 rfl (by decide) rfl, mo_istore⟩ (
  And.intro ⟨ok_aload_n dX8_becomes_7 rfl rfl, mo_aload⟩ (
  And.intro ⟨ok_getR dX8_becomes_8 hclX8 inWX8 (by decide) (by decide) wd_891 (fun _ _ _ => rfl) rfl, mo_getR⟩ (
  And.intro ⟨ok_nop, mo_nop⟩ (
  And.intro ⟨ok_nop, mo_nop⟩ (
  And.intro ⟨ok_iload_n dX8_becomes_11 rfl rfl, mo_iload⟩ (
  And.intro ⟨ok_iload_n dX8_becomes_12 rfl rfl, mo_iload⟩ (
  And.intro ⟨ok_iast dX8_becomes_13 rfl, mo_iast⟩ (
  And.intro ⟨ok_iload_n dX8_becomes_14 rfl rfl, mo_iload⟩ (
  And.intro ⟨ok_iret dX8_becomes_15 rfl, mo_iret⟩ (
  trivial))))))))))))))))
theorem kX8_becomes : am_M1 am_tb0 cX8_becomes RX8 4 (some .int) false tX8_becomes := And.intro rX8_becomes_0 (trivial)
def tX8_lays : List (List am_Op) := [[o_aload 0 1, o_iload 1 2, o_push (.int 0) 3, o_iload 2 4, o_cv 8 38 122 4 0 3 7, am_nop, am_nop, o_aload 0 8, o_iload 1 9, o_push (.int 1) 10, o_iload 3 11, o_cv 8 38 122 4 0 3 14, am_nop, am_nop, o_aload 0 15, o_iload 1 16],
  [o_push (.int 2) 17, o_iload 4 19, am_nop, o_cv 8 38 122 4 0 3 22, am_nop, am_nop, o_aload 0 23, o_iload 1 24, o_push (.int 3) 25, o_iload 5 27, am_nop, o_cv 8 38 122 4 0 3 30, am_nop, am_nop, o_aload 0 31, o_iload 1 32],
  [o_push (.int 4) 33, o_push (.int 0) 34, o_cv 8 38 122 4 0 3 37, am_nop, am_nop, o_ret, am_nop, am_nop, am_nop, am_nop, am_nop, am_nop, am_nop, am_nop, am_nop, am_nop]]
theorem rX8_lays_0 : am_allR (fun pc o => am_ok am_tb0 cX8_lays RX8 6 none false pc o ∧ am_mo o) 0 (am_nth [] tX8_lays 0) :=
  And.intro ⟨ok_aload_n dX8_lays_0 rfl rfl, mo_aload⟩ (
  And.intro ⟨ok_iload_n dX8_lays_1 rfl rfl, mo_iload⟩ (
  And.intro ⟨ok_iconst dX8_lays_2 rfl ic_0, mo_push⟩ (
  And.intro ⟨ok_iload_n dX8_lays_3 rfl rfl, mo_iload⟩ (
  And.intro ⟨ok_cv (z := 122) dX8_lays_4 hclX8 (by decide) wd_1031 wd_1033 wp_19 wd_8 wd_1034 rfl (by decide) ⟨rfl, hy_X8_put⟩ rfl, mo_cv⟩ (
  And.intro ⟨ok_nop, mo_nop⟩ (
  And.intro ⟨ok_nop, mo_nop⟩ (
  And.intro ⟨ok_aload_n dX8_lays_7 rfl rfl, mo_aload⟩ (
  And.intro ⟨ok_iload_n dX8_lays_8 rfl rfl, mo_iload⟩ (
  And.intro ⟨ok_iconst dX8_lays_9 rfl ic_1, mo_push⟩ (
  And.intro ⟨ok_iload_n dX8_lays_10 rfl rfl, mo_iload⟩ (
  And.intro ⟨ok_cv (z := 122) dX8_lays_11 hclX8 (by decide) wd_1031 wd_1033 wp_19 wd_8 wd_1034 rfl (by decide) ⟨rfl, hy_X8_put⟩ rfl, mo_cv⟩ (
  And.intro ⟨ok_nop, mo_nop⟩ (
  And.intro ⟨ok_nop, mo_nop⟩ (
  And.intro ⟨ok_aload_n dX8_lays_14 rfl rfl, mo_aload⟩ (
  And.intro ⟨ok_iload_n dX8_lays_15 rfl rfl, mo_iload⟩ (
  trivial))))))))))))))))
theorem rX8_lays_1 : am_allR (fun pc o => am_ok am_tb0 cX8_lays RX8 6 none false pc o ∧ am_mo o) 16 (am_nth [] tX8_lays 1) :=
  And.intro ⟨ok_iconst dX8_lays_16 rfl ic_2, mo_push⟩ (
  And.intro ⟨ok_iload dX8_lays_17 rfl, mo_iload⟩ (
  And.intro ⟨ok_nop, mo_nop⟩ (
  And.intro ⟨ok_cv (z := 122) dX8_lays_19 hclX8 (by decide) wd_1031 wd_1033 wp_19 wd_8 wd_1034 rfl (by decide) ⟨rfl, hy_X8_put⟩ rfl, mo_cv⟩ (
  And.intro ⟨ok_nop, mo_nop⟩ (
  And.intro ⟨ok_nop, mo_nop⟩ (
  And.intro ⟨ok_aload_n dX8_lays_22 rfl rfl, mo_aload⟩ (
  And.intro ⟨ok_iload_n dX8_lays_23 rfl rfl, mo_iload⟩ (
  And.intro ⟨ok_iconst dX8_lays_24 rfl ic_3, mo_push⟩ (
  And.intro ⟨ok_iload dX8_lays_25 rfl, mo_iload⟩ (
  And.intro ⟨ok_nop, mo_nop⟩ (
  And.intro ⟨ok_cv (z := 122) dX8_lays_27 hclX8 (by decide) wd_1031 wd_1033 wp_19 wd_8 wd_1034 rfl (by decide) ⟨rfl, hy_X8_put⟩ rfl, mo_cv⟩ (
  And.intro ⟨ok_nop, mo_nop⟩ (
  And.intro ⟨ok_nop, mo_nop⟩ (
  And.intro ⟨ok_aload_n dX8_lays_30 rfl rfl, mo_aload⟩ (
  And.intro ⟨ok_iload_n dX8_lays_31 rfl rfl, mo_iload⟩ (
  trivial))))))))))))))))
theorem rX8_lays_2 : am_allR (fun pc o => am_ok am_tb0 cX8_lays RX8 6 none false pc o ∧ am_mo o) 32 (am_nth [] tX8_lays 2) :=
  And.intro ⟨ok_iconst dX8_lays_32 rfl ic_4, mo_push⟩ (
  And.intro ⟨ok_iconst dX8_lays_33 rfl ic_0, mo_push⟩ (
  And.intro ⟨ok_cv (z := 122) dX8_lays_34 hclX8 (by decide) wd_1031 wd_1033 wp_19 wd_8 wd_1034 rfl (by decide) ⟨rfl, hy_X8_put⟩ rfl, mo_cv⟩ (
  And.intro ⟨ok_nop, mo_nop⟩ (
  And.intro ⟨ok_nop, mo_nop⟩ (
  And.intro ⟨ok_ret dX8_lays_37 rfl, mo_ret⟩ (
  And.intro ⟨ok_nop, mo_nop⟩ (
  And.intro ⟨ok_nop, mo_nop⟩ (
  And.intro ⟨ok_nop, mo_nop⟩ (
  And.intro ⟨ok_nop, mo_nop⟩ (
  And.intro ⟨ok_nop, mo_nop⟩ (
  And.intro ⟨ok_nop, mo_nop⟩ (
  And.intro ⟨ok_nop, mo_nop⟩ (
  And.intro ⟨ok_nop, mo_nop⟩ (
  And.intro ⟨ok_nop, mo_nop⟩ (
  And.intro ⟨ok_nop, mo_nop⟩ (
  trivial))))))))))))))))
theorem kX8_lays : am_M1 am_tb0 cX8_lays RX8 6 none false tX8_lays := And.intro rX8_lays_0 (And.intro rX8_lays_1 (And.intro rX8_lays_2 (trivial)))
def tX8_comes : List (List am_Op) := [[o_aload 0 1, o_aload 0 2, o_getR 8 38 0 5, am_nop, am_nop, o_push (.int 1) 6, o_iald 20 7, o_iload 1 8, o_iload 2 9, o_iload 3 10, o_iload 4 12, am_nop, o_cv 8 38 124 6 1 5 15, am_nop, am_nop, o_aload 0 16],
  [o_getR 8 38 0 19, am_nop, am_nop, o_push (.int 1) 20, o_dup2 21, o_iald 20 22, o_push (.int 1) 23, o_bin (fun x y => x + y) 24, o_iast 25, o_aload 0 26, o_getR 8 38 0 29, am_nop, am_nop, o_push (.int 1) 30, o_iald 20 31, o_push (.int 1) 32],
  [o_bin (fun x y => x - y) 33, o_iret, am_nop, am_nop, am_nop, am_nop, am_nop, am_nop, am_nop, am_nop, am_nop, am_nop, am_nop, am_nop, am_nop, am_nop]]
theorem rX8_comes_0 : am_allR (fun pc o => am_ok am_tb0 cX8_comes RX8 5 (some .int) false pc o ∧ am_mo o) 0 (am_nth [] tX8_comes 0) :=
  And.intro ⟨ok_aload_n dX8_comes_0 rfl rfl, mo_aload⟩ (
  And.intro ⟨ok_aload_n dX8_comes_1 rfl rfl, mo_aload⟩ (
  And.intro ⟨ok_getR dX8_comes_2 hclX8 inWX8 (by decide) (by decide) wd_891 (fun _ _ _ => rfl) rfl, mo_getR⟩ (
  And.intro ⟨ok_nop, mo_nop⟩ (
  And.intro ⟨ok_nop, mo_nop⟩ (
  And.intro ⟨ok_iconst dX8_comes_5 rfl ic_1, mo_push⟩ (
  And.intro ⟨ok_iald dX8_comes_6 rfl, mo_iald⟩ (
  And.intro ⟨ok_iload_n dX8_comes_7 rfl rfl, mo_iload⟩ (
  And.intro ⟨ok_iload_n dX8_comes_8 rfl rfl, mo_iload⟩ (
  And.intro ⟨ok_iload_n dX8_comes_9 rfl rfl, mo_iload⟩ (
  And.intro ⟨ok_iload dX8_comes_10 rfl, mo_iload⟩ (
  And.intro ⟨ok_nop, mo_nop⟩ (
  And.intro ⟨ok_cv (z := 124) dX8_comes_12 hclX8 (by decide) wd_1027 wd_1029 wp_18 wd_8 wd_1030 rfl (by decide) ⟨rfl, hy_X8_lays⟩ rfl, mo_cv⟩ (
  And.intro ⟨ok_nop, mo_nop⟩ (
  And.intro ⟨ok_nop, mo_nop⟩ (
  And.intro ⟨ok_aload_n dX8_comes_15 rfl rfl, mo_aload⟩ (
  trivial))))))))))))))))
theorem rX8_comes_1 : am_allR (fun pc o => am_ok am_tb0 cX8_comes RX8 5 (some .int) false pc o ∧ am_mo o) 16 (am_nth [] tX8_comes 1) :=
  And.intro ⟨ok_getR dX8_comes_16 hclX8 inWX8 (by decide) (by decide) wd_891 (fun _ _ _ => rfl) rfl, mo_getR⟩ (
  And.intro ⟨ok_nop, mo_nop⟩ (
  And.intro ⟨ok_nop, mo_nop⟩ (
  And.intro ⟨ok_iconst dX8_comes_19 rfl ic_1, mo_push⟩ (
  And.intro ⟨ok_dup2 dX8_comes_20 rfl, mo_dup2⟩ (
  And.intro ⟨ok_iald dX8_comes_21 rfl, mo_iald⟩ (
  And.intro ⟨ok_iconst dX8_comes_22 rfl ic_1, mo_push⟩ (
  And.intro ⟨ok_iadd dX8_comes_23 rfl, mo_bin⟩ (
  And.intro ⟨ok_iast dX8_comes_24 rfl, mo_iast⟩ (
  And.intro ⟨ok_aload_n dX8_comes_25 rfl rfl, mo_aload⟩ (
  And.intro ⟨ok_getR dX8_comes_26 hclX8 inWX8 (by decide) (by decide) wd_891 (fun _ _ _ => rfl) rfl, mo_getR⟩ (
  And.intro ⟨ok_nop, mo_nop⟩ (
  And.intro ⟨ok_nop, mo_nop⟩ (
  And.intro ⟨ok_iconst dX8_comes_29 rfl ic_1, mo_push⟩ (
  And.intro ⟨ok_iald dX8_comes_30 rfl, mo_iald⟩ (
  And.intro ⟨ok_iconst dX8_comes_31 rfl ic_1, mo_push⟩ (
  trivial))))))))))))))))
theorem rX8_comes_2 : am_allR (fun pc o => am_ok am_tb0 cX8_comes RX8 5 (some .int) false pc o ∧ am_mo o) 32 (am_nth [] tX8_comes 2) :=
  And.intro ⟨ok_isub dX8_comes_32 rfl, mo_bin⟩ (
  And.intro ⟨ok_iret dX8_comes_33 rfl, mo_iret⟩ (
  And.intro ⟨ok_nop, mo_nop⟩ (
  And.intro ⟨ok_nop, mo_nop⟩ (
  And.intro ⟨ok_nop, mo_nop⟩ (
  And.intro ⟨ok_nop, mo_nop⟩ (
  And.intro ⟨ok_nop, mo_nop⟩ (
  And.intro ⟨ok_nop, mo_nop⟩ (
  And.intro ⟨ok_nop, mo_nop⟩ (
  And.intro ⟨ok_nop, mo_nop⟩ (
  And.intro ⟨ok_nop, mo_nop⟩ (
  And.intro ⟨ok_nop, mo_nop⟩ (
  And.intro ⟨ok_nop, mo_nop⟩ (
  And.intro ⟨ok_nop, mo_nop⟩ (
  And.intro ⟨ok_nop, mo_nop⟩ (
  And.intro ⟨ok_nop, mo_nop⟩ (
  trivial))))))))))))))))
theorem kX8_comes : am_M1 am_tb0 cX8_comes RX8 5 (some .int) false tX8_comes := And.intro rX8_comes_0 (And.intro rX8_comes_1 (And.intro rX8_comes_2 (trivial)))
def tX8_hole : List (List am_Op) := [[o_iload 1 1, o_push (.int 0) 2, o_push (.int 5) 3, o_cs 113 3 0 3 6, am_nop, am_nop, o_if (fun x => x = 0) 34 9, am_nop, am_nop, o_iload 2 10, o_cs 118 1 1 1 13, am_nop, am_nop, o_if (fun x => x = 0) 34 16, am_nop, am_nop],
  [o_iload 3 17, o_push (.int 0) 18, o_push (.int 99) 20, am_nop, o_cs 113 3 0 3 23, am_nop, am_nop, o_if (fun x => x = 0) 34 26, am_nop, am_nop, o_iload 4 28, am_nop, o_cs 119 1 1 1 31, am_nop, am_nop, o_if (fun x => ¬ x = 0) 37 34],
  [am_nop, am_nop, o_push (.int (-1000000001)) 36, am_nop, o_iret, o_aload 0 38, o_getR 8 38 0 41, am_nop, am_nop, o_push (.int 1) 42, o_iald 20 43, o_push (.int 10) 45, am_nop, o_icmp (fun x y => ¬ x = y) 53 48, am_nop, am_nop],
  [o_push (.int (-1000000003)) 50, am_nop, o_goto 62, am_nop, am_nop, o_aload 0 54, o_iload 1 55, o_iload 2 56, o_iload 3 57, o_iload 4 59, am_nop, o_cv 8 38 125 5 2 4 62, am_nop, am_nop, o_iret, am_nop]]
theorem rX8_hole_0 : am_allR (fun pc o => am_ok am_tb0 cX8_hole RX8 5 (some .int) false pc o ∧ am_mo o) 0 (am_nth [] tX8_hole 0) :=
  And.intro ⟨ok_iload_n dX8_hole_0 rfl rfl, mo_iload⟩ (
  And.intro ⟨ok_iconst dX8_hole_1 rfl ic_0, mo_push⟩ (
  And.intro ⟨ok_iconst dX8_hole_2 rfl ic_5, mo_push⟩ (
  And.intro ⟨ok_cs (z := 113) dX8_hole_3 wd_1012 wd_1013 wd_8 wd_1014 rfl (by decide) hy_X8_in rfl, mo_cs⟩ (
  And.intro ⟨ok_nop, mo_nop⟩ (
  And.intro ⟨ok_nop, mo_nop⟩ (
  And.intro ⟨ok_if_eq dX8_hole_6 (by decide) rfl, mo_if⟩ (
  And.intro ⟨ok_nop, mo_nop⟩ (
  And.intro ⟨ok_nop, mo_nop⟩ (
  And.intro ⟨ok_iload_n dX8_hole_9 rfl rfl, mo_iload⟩ (
  And.intro ⟨ok_cs (z := 118) dX8_hole_10 wd_1015 wd_1016 wd_8 wd_1017 rfl (by decide) hy_X8_isPlace rfl, mo_cs⟩ (
  And.intro ⟨ok_nop, mo_nop⟩ (
  And.intro ⟨ok_nop, mo_nop⟩ (
  And.intro ⟨ok_if_eq dX8_hole_13 (by decide) rfl, mo_if⟩ (
  And.intro ⟨ok_nop, mo_nop⟩ (
  And.intro ⟨ok_nop, mo_nop⟩ (
  trivial))))))))))))))))
theorem rX8_hole_1 : am_allR (fun pc o => am_ok am_tb0 cX8_hole RX8 5 (some .int) false pc o ∧ am_mo o) 16 (am_nth [] tX8_hole 1) :=
  And.intro ⟨ok_iload_n dX8_hole_16 rfl rfl, mo_iload⟩ (
  And.intro ⟨ok_iconst dX8_hole_17 rfl ic_0, mo_push⟩ (
  And.intro ⟨ok_bipush dX8_hole_18 rfl bi_99, mo_push⟩ (
  And.intro ⟨ok_nop, mo_nop⟩ (
  And.intro ⟨ok_cs (z := 113) dX8_hole_20 wd_1012 wd_1013 wd_8 wd_1014 rfl (by decide) hy_X8_in rfl, mo_cs⟩ (
  And.intro ⟨ok_nop, mo_nop⟩ (
  And.intro ⟨ok_nop, mo_nop⟩ (
  And.intro ⟨ok_if_eq dX8_hole_23 (by decide) rfl, mo_if⟩ (
  And.intro ⟨ok_nop, mo_nop⟩ (
  And.intro ⟨ok_nop, mo_nop⟩ (
  And.intro ⟨ok_iload dX8_hole_26 rfl, mo_iload⟩ (
  And.intro ⟨ok_nop, mo_nop⟩ (
  And.intro ⟨ok_cs (z := 119) dX8_hole_28 wd_1018 wd_1019 wd_8 wd_1020 rfl (by decide) hy_X8_isOwner rfl, mo_cs⟩ (
  And.intro ⟨ok_nop, mo_nop⟩ (
  And.intro ⟨ok_nop, mo_nop⟩ (
  And.intro ⟨ok_if_ne dX8_hole_31 (by decide) rfl, mo_if⟩ (
  trivial))))))))))))))))
theorem rX8_hole_2 : am_allR (fun pc o => am_ok am_tb0 cX8_hole RX8 5 (some .int) false pc o ∧ am_mo o) 32 (am_nth [] tX8_hole 2) :=
  And.intro ⟨ok_nop, mo_nop⟩ (
  And.intro ⟨ok_nop, mo_nop⟩ (
  And.intro ⟨ok_ldc dX8_hole_34 rfl wd_1021, mo_push⟩ (
  And.intro ⟨ok_nop, mo_nop⟩ (
  And.intro ⟨ok_iret dX8_hole_36 rfl, mo_iret⟩ (
  And.intro ⟨ok_aload_n dX8_hole_37 rfl rfl, mo_aload⟩ (
  And.intro ⟨ok_getR dX8_hole_38 hclX8 inWX8 (by decide) (by decide) wd_891 (fun _ _ _ => rfl) rfl, mo_getR⟩ (
  And.intro ⟨ok_nop, mo_nop⟩ (
  And.intro ⟨ok_nop, mo_nop⟩ (
  And.intro ⟨ok_iconst dX8_hole_41 rfl ic_1, mo_push⟩ (
  And.intro ⟨ok_iald dX8_hole_42 rfl, mo_iald⟩ (
  And.intro ⟨ok_bipush dX8_hole_43 rfl bi_10, mo_push⟩ (
  And.intro ⟨ok_nop, mo_nop⟩ (
  And.intro ⟨ok_icmp_ne dX8_hole_45 (by decide) rfl, mo_icmp⟩ (
  And.intro ⟨ok_nop, mo_nop⟩ (
  And.intro ⟨ok_nop, mo_nop⟩ (
  trivial))))))))))))))))
theorem rX8_hole_3 : am_allR (fun pc o => am_ok am_tb0 cX8_hole RX8 5 (some .int) false pc o ∧ am_mo o) 48 (am_nth [] tX8_hole 3) :=
  And.intro ⟨ok_ldc dX8_hole_48 rfl wd_1022, mo_push⟩ (
  And.intro ⟨ok_nop, mo_nop⟩ (
  And.intro ⟨ok_goto dX8_hole_50 (by decide), mo_goto⟩ (
  And.intro ⟨ok_nop, mo_nop⟩ (
  And.intro ⟨ok_nop, mo_nop⟩ (
  And.intro ⟨ok_aload_n dX8_hole_53 rfl rfl, mo_aload⟩ (
  And.intro ⟨ok_iload_n dX8_hole_54 rfl rfl, mo_iload⟩ (
  And.intro ⟨ok_iload_n dX8_hole_55 rfl rfl, mo_iload⟩ (
  And.intro ⟨ok_iload_n dX8_hole_56 rfl rfl, mo_iload⟩ (
  And.intro ⟨ok_iload dX8_hole_57 rfl, mo_iload⟩ (
  And.intro ⟨ok_nop, mo_nop⟩ (
  And.intro ⟨ok_cv (z := 125) dX8_hole_59 hclX8 (by decide) wd_1023 wd_1025 wp_17 wd_8 wd_1026 rfl (by decide) ⟨rfl, hy_X8_comes⟩ rfl, mo_cv⟩ (
  And.intro ⟨ok_nop, mo_nop⟩ (
  And.intro ⟨ok_nop, mo_nop⟩ (
  And.intro ⟨ok_iret dX8_hole_62 rfl, mo_iret⟩ (
  And.intro ⟨ok_nop, mo_nop⟩ (
  trivial))))))))))))))))
theorem kX8_hole : am_M1 am_tb0 cX8_hole RX8 5 (some .int) false tX8_hole := And.intro rX8_hole_0 (And.intro rX8_hole_1 (And.intro rX8_hole_2 (And.intro rX8_hole_3 (trivial))))
def tX8_worthOf : List (List am_Op) := [[o_aload 0 1, o_iload 1 2, o_push (.int 2) 3, o_cv 8 38 121 3 0 2 6, am_nop, am_nop, o_istore 2 7, o_aload 0 8, o_iload 1 9, o_push (.int 0) 10, o_cv 8 38 121 3 0 2 13, am_nop, am_nop, o_sw [(1, 48), (2, 57), (3, 62), (4, 73), (5, 78)] 85, am_nop, am_nop],
  [am_nop, am_nop, am_nop, am_nop, am_nop, am_nop, am_nop, am_nop, am_nop, am_nop, am_nop, am_nop, am_nop, am_nop, am_nop, am_nop],
  [am_nop, am_nop, am_nop, am_nop, am_nop, am_nop, am_nop, am_nop, am_nop, am_nop, am_nop, am_nop, am_nop, am_nop, am_nop, am_nop],
  [o_iload 2 49, o_aload 0 50, o_iload 1 51, o_push (.int 3) 52, o_cv 8 38 121 3 0 2 55, am_nop, am_nop, o_bin (fun x y => x + y) 56, o_iret, o_push (.int 120) 59, am_nop, o_iload 2 60, o_bin (fun x y => x - y) 61, o_iret, o_push (.int 2) 63, o_iload 2 64],
  [o_aload 0 65, o_iload 1 66, o_push (.int 3) 67, o_cv 8 38 121 3 0 2 70, am_nop, am_nop, o_bin (fun x y => x + y) 71, o_bin (fun x y => x * y) 72, o_iret, o_push (.int 111) 75, am_nop, o_iload 2 76, o_bin (fun x y => x - y) 77, o_iret, o_aload 0 79, o_iload 1 80],
  [o_push (.int 1) 81, o_cv 8 38 121 3 0 2 84, am_nop, am_nop, o_iret, o_iload 2 86, o_iret, am_nop, am_nop, am_nop, am_nop, am_nop, am_nop, am_nop, am_nop, am_nop]]
theorem rX8_worthOf_0 : am_allR (fun pc o => am_ok am_tb0 cX8_worthOf RX8 3 (some .int) false pc o ∧ am_mo o) 0 (am_nth [] tX8_worthOf 0) :=
  And.intro ⟨ok_aload_n dX8_worthOf_0 rfl rfl, mo_aload⟩ (
  And.intro ⟨ok_iload_n dX8_worthOf_1 rfl rfl, mo_iload⟩ (
  And.intro ⟨ok_iconst dX8_worthOf_2 rfl ic_2, mo_push⟩ (
  And.intro ⟨ok_cv (z := 121) dX8_worthOf_3 hclX8 (by decide) wd_1043 wd_1045 wp_21 wd_8 wd_1046 rfl (by decide) ⟨rfl, hy_X8_of⟩ rfl, mo_cv⟩ (
  And.intro ⟨ok_nop, mo_nop⟩ (
  And.intro ⟨ok_nop, mo_nop⟩ (
  And.intro ⟨ok_istore_n dX8_worthOf_6 rfl (by decide) rfl, mo_istore⟩ (
  And.intro ⟨ok_aload_n dX8_worthOf_7 rfl rfl, mo_aload⟩ (
  And.intro ⟨ok_iload_n dX8_worthOf_8 rfl rfl, mo_iload⟩ (
  And.intro ⟨ok_iconst dX8_worthOf_9 rfl ic_0, mo_push⟩ (
  And.intro ⟨ok_cv (z := 121) dX8_worthOf_10 hclX8 (by decide) wd_1043 wd_1045 wp_21 wd_8 wd_1046 rfl (by decide) ⟨rfl, hy_X8_of⟩ rfl, mo_cv⟩ (
  And.intro ⟨ok_nop, mo_nop⟩ (
  And.intro ⟨ok_nop, mo_nop⟩ (
  And.intro ⟨ok_table dX8_worthOf_13 (by decide) (by decide +kernel) (by decide +kernel), mo_sw⟩ (
  And.intro ⟨ok_nop, mo_nop⟩ (
  And.intro ⟨ok_nop, mo_nop⟩ (
  trivial))))))))))))))))
theorem rX8_worthOf_1 : am_allR (fun pc o => am_ok am_tb0 cX8_worthOf RX8 3 (some .int) false pc o ∧ am_mo o) 16 (am_nth [] tX8_worthOf 1) :=
  And.intro ⟨ok_nop, mo_nop⟩ (
  And.intro ⟨ok_nop, mo_nop⟩ (
  And.intro ⟨ok_nop, mo_nop⟩ (
  And.intro ⟨ok_nop, mo_nop⟩ (
  And.intro ⟨ok_nop, mo_nop⟩ (
  And.intro ⟨ok_nop, mo_nop⟩ (
  And.intro ⟨ok_nop, mo_nop⟩ (
  And.intro ⟨ok_nop, mo_nop⟩ (
  And.intro ⟨ok_nop, mo_nop⟩ (
  And.intro ⟨ok_nop, mo_nop⟩ (
  And.intro ⟨ok_nop, mo_nop⟩ (
  And.intro ⟨ok_nop, mo_nop⟩ (
  And.intro ⟨ok_nop, mo_nop⟩ (
  And.intro ⟨ok_nop, mo_nop⟩ (
  And.intro ⟨ok_nop, mo_nop⟩ (
  And.intro ⟨ok_nop, mo_nop⟩ (
  trivial))))))))))))))))
theorem rX8_worthOf_2 : am_allR (fun pc o => am_ok am_tb0 cX8_worthOf RX8 3 (some .int) false pc o ∧ am_mo o) 32 (am_nth [] tX8_worthOf 2) :=
  And.intro ⟨ok_nop, mo_nop⟩ (
  And.intro ⟨ok_nop, mo_nop⟩ (
  And.intro ⟨ok_nop, mo_nop⟩ (
  And.intro ⟨ok_nop, mo_nop⟩ (
  And.intro ⟨ok_nop, mo_nop⟩ (
  And.intro ⟨ok_nop, mo_nop⟩ (
  And.intro ⟨ok_nop, mo_nop⟩ (
  And.intro ⟨ok_nop, mo_nop⟩ (
  And.intro ⟨ok_nop, mo_nop⟩ (
  And.intro ⟨ok_nop, mo_nop⟩ (
  And.intro ⟨ok_nop, mo_nop⟩ (
  And.intro ⟨ok_nop, mo_nop⟩ (
  And.intro ⟨ok_nop, mo_nop⟩ (
  And.intro ⟨ok_nop, mo_nop⟩ (
  And.intro ⟨ok_nop, mo_nop⟩ (
  And.intro ⟨ok_nop, mo_nop⟩ (
  trivial))))))))))))))))
theorem rX8_worthOf_3 : am_allR (fun pc o => am_ok am_tb0 cX8_worthOf RX8 3 (some .int) false pc o ∧ am_mo o) 48 (am_nth [] tX8_worthOf 3) :=
  And.intro ⟨ok_iload_n dX8_worthOf_48 rfl rfl, mo_iload⟩ (
  And.intro ⟨ok_aload_n dX8_worthOf_49 rfl rfl, mo_aload⟩ (
  And.intro ⟨ok_iload_n dX8_worthOf_50 rfl rfl, mo_iload⟩ (
  And.intro ⟨ok_iconst dX8_worthOf_51 rfl ic_3, mo_push⟩ (
  And.intro ⟨ok_cv (z := 121) dX8_worthOf_52 hclX8 (by decide) wd_1043 wd_1045 wp_21 wd_8 wd_1046 rfl (by decide) ⟨rfl, hy_X8_of⟩ rfl, mo_cv⟩ (
  And.intro ⟨ok_nop, mo_nop⟩ (
  And.intro ⟨ok_nop, mo_nop⟩ (
  And.intro ⟨ok_iadd dX8_worthOf_55 rfl, mo_bin⟩ (
  And.intro ⟨ok_iret dX8_worthOf_56 rfl, mo_iret⟩ (
  And.intro ⟨ok_bipush dX8_worthOf_57 rfl bi_120, mo_push⟩ (
  And.intro ⟨ok_nop, mo_nop⟩ (
  And.intro ⟨ok_iload_n dX8_worthOf_59 rfl rfl, mo_iload⟩ (
  And.intro ⟨ok_isub dX8_worthOf_60 rfl, mo_bin⟩ (
  And.intro ⟨ok_iret dX8_worthOf_61 rfl, mo_iret⟩ (
  And.intro ⟨ok_iconst dX8_worthOf_62 rfl ic_2, mo_push⟩ (
  And.intro ⟨ok_iload_n dX8_worthOf_63 rfl rfl, mo_iload⟩ (
  trivial))))))))))))))))
theorem rX8_worthOf_4 : am_allR (fun pc o => am_ok am_tb0 cX8_worthOf RX8 3 (some .int) false pc o ∧ am_mo o) 64 (am_nth [] tX8_worthOf 4) :=
  And.intro ⟨ok_aload_n dX8_worthOf_64 rfl rfl, mo_aload⟩ (
  And.intro ⟨ok_iload_n dX8_worthOf_65 rfl rfl, mo_iload⟩ (
  And.intro ⟨ok_iconst dX8_worthOf_66 rfl ic_3, mo_push⟩ (
  And.intro ⟨ok_cv (z := 121) dX8_worthOf_67 hclX8 (by decide) wd_1043 wd_1045 wp_21 wd_8 wd_1046 rfl (by decide) ⟨rfl, hy_X8_of⟩ rfl, mo_cv⟩ (
  And.intro ⟨ok_nop, mo_nop⟩ (
  And.intro ⟨ok_nop, mo_nop⟩ (
  And.intro ⟨ok_iadd dX8_worthOf_70 rfl, mo_bin⟩ (
  And.intro ⟨ok_imul dX8_worthOf_71 rfl, mo_bin⟩ (
  And.intro ⟨ok_iret dX8_worthOf_72 rfl, mo_iret⟩ (
  And.intro ⟨ok_bipush dX8_worthOf_73 rfl bi_111, mo_push⟩ (
  And.intro ⟨ok_nop, mo_nop⟩ (
  And.intro ⟨ok_iload_n dX8_worthOf_75 rfl rfl, mo_iload⟩ (
  And.intro ⟨ok_isub dX8_worthOf_76 rfl, mo_bin⟩ (
  And.intro ⟨ok_iret dX8_worthOf_77 rfl, mo_iret⟩ (
  And.intro ⟨ok_aload_n dX8_worthOf_78 rfl rfl, mo_aload⟩ (
  And.intro ⟨ok_iload_n dX8_worthOf_79 rfl rfl, mo_iload⟩ (
  trivial))))))))))))))))
theorem rX8_worthOf_5 : am_allR (fun pc o => am_ok am_tb0 cX8_worthOf RX8 3 (some .int) false pc o ∧ am_mo o) 80 (am_nth [] tX8_worthOf 5) :=
  And.intro ⟨ok_iconst dX8_worthOf_80 rfl ic_1, mo_push⟩ (
  And.intro ⟨ok_cv (z := 121) dX8_worthOf_81 hclX8 (by decide) wd_1043 wd_1045 wp_21 wd_8 wd_1046 rfl (by decide) ⟨rfl, hy_X8_of⟩ rfl, mo_cv⟩ (
  And.intro ⟨ok_nop, mo_nop⟩ (
  And.intro ⟨ok_nop, mo_nop⟩ (
  And.intro ⟨ok_iret dX8_worthOf_84 rfl, mo_iret⟩ (
  And.intro ⟨ok_iload_n dX8_worthOf_85 rfl rfl, mo_iload⟩ (
  And.intro ⟨ok_iret dX8_worthOf_86 rfl, mo_iret⟩ (
  And.intro ⟨ok_nop, mo_nop⟩ (
  And.intro ⟨ok_nop, mo_nop⟩ (
  And.intro ⟨ok_nop, mo_nop⟩ (
  And.intro ⟨ok_nop, mo_nop⟩ (
  And.intro ⟨ok_nop, mo_nop⟩ (
  And.intro ⟨ok_nop, mo_nop⟩ (
  And.intro ⟨ok_nop, mo_nop⟩ (
  And.intro ⟨ok_nop, mo_nop⟩ (
  And.intro ⟨ok_nop, mo_nop⟩ (
  trivial))))))))))))))))
theorem kX8_worthOf : am_M1 am_tb0 cX8_worthOf RX8 3 (some .int) false tX8_worthOf := And.intro rX8_worthOf_0 (And.intro rX8_worthOf_1 (And.intro rX8_worthOf_2 (And.intro rX8_worthOf_3 (And.intro rX8_worthOf_4 (And.intro rX8_worthOf_5 (trivial))))))
def tX8_told : List (List am_Op) := [[o_aload 0 1, o_iload 1 2, o_cv 8 38 117 2 1 1 5, am_nop, am_nop, o_if (fun x => x = 0) 17 8, am_nop, am_nop, o_iload 2 9, o_push (.int 0) 10, o_push (.int 5) 11, o_cs 113 3 0 3 14, am_nop, am_nop, o_if (fun x => ¬ x = 0) 20 17, am_nop],
  [am_nop, o_push (.int (-1000000001)) 19, am_nop, o_iret, o_iload 2 21, o_push (.int 5) 22, o_icmp (fun x y => y ≤ x) 34 25, am_nop, am_nop, o_aload 0 26, o_iload 1 27, o_iload 2 28, o_cv 8 38 121 3 0 2 31, am_nop, am_nop, o_goto 39],
  [am_nop, am_nop, o_aload 0 35, o_iload 1 36, o_cv 8 38 127 3 1 1 39, am_nop, am_nop, o_iret, am_nop, am_nop, am_nop, am_nop, am_nop, am_nop, am_nop, am_nop]]
theorem rX8_told_0 : am_allR (fun pc o => am_ok am_tb0 cX8_told RX8 3 (some .int) false pc o ∧ am_mo o) 0 (am_nth [] tX8_told 0) :=
  And.intro ⟨ok_aload_n dX8_told_0 rfl rfl, mo_aload⟩ (
  And.intro ⟨ok_iload_n dX8_told_1 rfl rfl, mo_iload⟩ (
  And.intro ⟨ok_cv (z := 117) dX8_told_2 hclX8 (by decide) wd_1039 wd_1041 wp_20 wd_8 wd_1042 rfl (by decide) ⟨rfl, hy_X8_isHole⟩ rfl, mo_cv⟩ (
  And.intro ⟨ok_nop, mo_nop⟩ (
  And.intro ⟨ok_nop, mo_nop⟩ (
  And.intro ⟨ok_if_eq dX8_told_5 (by decide) rfl, mo_if⟩ (
  And.intro ⟨ok_nop, mo_nop⟩ (
  And.intro ⟨ok_nop, mo_nop⟩ (
  And.intro ⟨ok_iload_n dX8_told_8 rfl rfl, mo_iload⟩ (
  And.intro ⟨ok_iconst dX8_told_9 rfl ic_0, mo_push⟩ (
  And.intro ⟨ok_iconst dX8_told_10 rfl ic_5, mo_push⟩ (
  And.intro ⟨ok_cs (z := 113) dX8_told_11 wd_1012 wd_1013 wd_8 wd_1014 rfl (by decide) hy_X8_in rfl, mo_cs⟩ (
  And.intro ⟨ok_nop, mo_nop⟩ (
  And.intro ⟨ok_nop, mo_nop⟩ (
  And.intro ⟨ok_if_ne dX8_told_14 (by decide) rfl, mo_if⟩ (
  And.intro ⟨ok_nop, mo_nop⟩ (
  trivial))))))))))))))))
theorem rX8_told_1 : am_allR (fun pc o => am_ok am_tb0 cX8_told RX8 3 (some .int) false pc o ∧ am_mo o) 16 (am_nth [] tX8_told 1) :=
  And.intro ⟨ok_nop, mo_nop⟩ (
  And.intro ⟨ok_ldc dX8_told_17 rfl wd_1021, mo_push⟩ (
  And.intro ⟨ok_nop, mo_nop⟩ (
  And.intro ⟨ok_iret dX8_told_19 rfl, mo_iret⟩ (
  And.intro ⟨ok_iload_n dX8_told_20 rfl rfl, mo_iload⟩ (
  And.intro ⟨ok_iconst dX8_told_21 rfl ic_5, mo_push⟩ (
  And.intro ⟨ok_icmp_ge dX8_told_22 (by decide) rfl, mo_icmp⟩ (
  And.intro ⟨ok_nop, mo_nop⟩ (
  And.intro ⟨ok_nop, mo_nop⟩ (
  And.intro ⟨ok_aload_n dX8_told_25 rfl rfl, mo_aload⟩ (
  And.intro ⟨ok_iload_n dX8_told_26 rfl rfl, mo_iload⟩ (
  And.intro ⟨ok_iload_n dX8_told_27 rfl rfl, mo_iload⟩ (
  And.intro ⟨ok_cv (z := 121) dX8_told_28 hclX8 (by decide) wd_1043 wd_1045 wp_21 wd_8 wd_1046 rfl (by decide) ⟨rfl, hy_X8_of⟩ rfl, mo_cv⟩ (
  And.intro ⟨ok_nop, mo_nop⟩ (
  And.intro ⟨ok_nop, mo_nop⟩ (
  And.intro ⟨ok_goto dX8_told_31 (by decide), mo_goto⟩ (
  trivial))))))))))))))))
theorem rX8_told_2 : am_allR (fun pc o => am_ok am_tb0 cX8_told RX8 3 (some .int) false pc o ∧ am_mo o) 32 (am_nth [] tX8_told 2) :=
  And.intro ⟨ok_nop, mo_nop⟩ (
  And.intro ⟨ok_nop, mo_nop⟩ (
  And.intro ⟨ok_aload_n dX8_told_34 rfl rfl, mo_aload⟩ (
  And.intro ⟨ok_iload_n dX8_told_35 rfl rfl, mo_iload⟩ (
  And.intro ⟨ok_cv (z := 127) dX8_told_36 hclX8 (by decide) wd_1047 wd_1049 wp_22 wd_8 wd_1050 rfl (by decide) ⟨rfl, hy_X8_worthOf⟩ rfl, mo_cv⟩ (
  And.intro ⟨ok_nop, mo_nop⟩ (
  And.intro ⟨ok_nop, mo_nop⟩ (
  And.intro ⟨ok_iret dX8_told_39 rfl, mo_iret⟩ (
  And.intro ⟨ok_nop, mo_nop⟩ (
  And.intro ⟨ok_nop, mo_nop⟩ (
  And.intro ⟨ok_nop, mo_nop⟩ (
  And.intro ⟨ok_nop, mo_nop⟩ (
  And.intro ⟨ok_nop, mo_nop⟩ (
  And.intro ⟨ok_nop, mo_nop⟩ (
  And.intro ⟨ok_nop, mo_nop⟩ (
  And.intro ⟨ok_nop, mo_nop⟩ (
  trivial))))))))))))))))
theorem kX8_told : am_M1 am_tb0 cX8_told RX8 3 (some .int) false tX8_told := And.intro rX8_told_0 (And.intro rX8_told_1 (And.intro rX8_told_2 (trivial)))
def tX8_isUnder : List (List am_Op) := [[o_iload 1 1, o_if (fun x => x = 0) 29 4, am_nop, am_nop, o_iload 0 5, o_iload 1 6, o_icmp (fun x y => x = y) 29 9, am_nop, am_nop, o_iload 1 10, o_push (.int 1) 11, o_icmp (fun x y => ¬ x = y) 19 14, am_nop, am_nop, o_iload 0 15, o_push (.int 3) 16],
  [o_icmp (fun x y => x = y) 29 19, am_nop, am_nop, o_iload 1 20, o_push (.int 2) 21, o_icmp (fun x y => ¬ x = y) 33 24, am_nop, am_nop, o_iload 0 25, o_push (.int 4) 26, o_icmp (fun x y => ¬ x = y) 33 29, am_nop, am_nop, o_push (.int 1) 30, o_goto 34, am_nop],
  [am_nop, o_push (.int 0) 34, o_nret .boolean, am_nop, am_nop, am_nop, am_nop, am_nop, am_nop, am_nop, am_nop, am_nop, am_nop, am_nop, am_nop, am_nop]]
theorem rX8_isUnder_0 : am_allR (fun pc o => am_ok am_tb0 cX8_isUnder RX8 2 (some .boolean) false pc o ∧ am_mo o) 0 (am_nth [] tX8_isUnder 0) :=
  And.intro ⟨ok_iload_n dX8_isUnder_0 rfl rfl, mo_iload⟩ (
  And.intro ⟨ok_if_eq dX8_isUnder_1 (by decide) rfl, mo_if⟩ (
  And.intro ⟨ok_nop, mo_nop⟩ (
  And.intro ⟨ok_nop, mo_nop⟩ (
  And.intro ⟨ok_iload_n dX8_isUnder_4 rfl rfl, mo_iload⟩ (
  And.intro ⟨ok_iload_n dX8_isUnder_5 rfl rfl, mo_iload⟩ (
  And.intro ⟨ok_icmp_eq dX8_isUnder_6 (by decide) rfl, mo_icmp⟩ (
  And.intro ⟨ok_nop, mo_nop⟩ (
  And.intro ⟨ok_nop, mo_nop⟩ (
  And.intro ⟨ok_iload_n dX8_isUnder_9 rfl rfl, mo_iload⟩ (
  And.intro ⟨ok_iconst dX8_isUnder_10 rfl ic_1, mo_push⟩ (
  And.intro ⟨ok_icmp_ne dX8_isUnder_11 (by decide) rfl, mo_icmp⟩ (
  And.intro ⟨ok_nop, mo_nop⟩ (
  And.intro ⟨ok_nop, mo_nop⟩ (
  And.intro ⟨ok_iload_n dX8_isUnder_14 rfl rfl, mo_iload⟩ (
  And.intro ⟨ok_iconst dX8_isUnder_15 rfl ic_3, mo_push⟩ (
  trivial))))))))))))))))
theorem rX8_isUnder_1 : am_allR (fun pc o => am_ok am_tb0 cX8_isUnder RX8 2 (some .boolean) false pc o ∧ am_mo o) 16 (am_nth [] tX8_isUnder 1) :=
  And.intro ⟨ok_icmp_eq dX8_isUnder_16 (by decide) rfl, mo_icmp⟩ (
  And.intro ⟨ok_nop, mo_nop⟩ (
  And.intro ⟨ok_nop, mo_nop⟩ (
  And.intro ⟨ok_iload_n dX8_isUnder_19 rfl rfl, mo_iload⟩ (
  And.intro ⟨ok_iconst dX8_isUnder_20 rfl ic_2, mo_push⟩ (
  And.intro ⟨ok_icmp_ne dX8_isUnder_21 (by decide) rfl, mo_icmp⟩ (
  And.intro ⟨ok_nop, mo_nop⟩ (
  And.intro ⟨ok_nop, mo_nop⟩ (
  And.intro ⟨ok_iload_n dX8_isUnder_24 rfl rfl, mo_iload⟩ (
  And.intro ⟨ok_iconst dX8_isUnder_25 rfl ic_4, mo_push⟩ (
  And.intro ⟨ok_icmp_ne dX8_isUnder_26 (by decide) rfl, mo_icmp⟩ (
  And.intro ⟨ok_nop, mo_nop⟩ (
  And.intro ⟨ok_nop, mo_nop⟩ (
  And.intro ⟨ok_iconst dX8_isUnder_29 rfl ic_1, mo_push⟩ (
  And.intro ⟨ok_goto dX8_isUnder_30 (by decide), mo_goto⟩ (
  And.intro ⟨ok_nop, mo_nop⟩ (
  trivial))))))))))))))))
theorem rX8_isUnder_2 : am_allR (fun pc o => am_ok am_tb0 cX8_isUnder RX8 2 (some .boolean) false pc o ∧ am_mo o) 32 (am_nth [] tX8_isUnder 2) :=
  And.intro ⟨ok_nop, mo_nop⟩ (
  And.intro ⟨ok_iconst dX8_isUnder_33 rfl ic_0, mo_push⟩ (
  And.intro ⟨ok_nret dX8_isUnder_34 rfl, mo_nret⟩ (
  And.intro ⟨ok_nop, mo_nop⟩ (
  And.intro ⟨ok_nop, mo_nop⟩ (
  And.intro ⟨ok_nop, mo_nop⟩ (
  And.intro ⟨ok_nop, mo_nop⟩ (
  And.intro ⟨ok_nop, mo_nop⟩ (
  And.intro ⟨ok_nop, mo_nop⟩ (
  And.intro ⟨ok_nop, mo_nop⟩ (
  And.intro ⟨ok_nop, mo_nop⟩ (
  And.intro ⟨ok_nop, mo_nop⟩ (
  And.intro ⟨ok_nop, mo_nop⟩ (
  And.intro ⟨ok_nop, mo_nop⟩ (
  And.intro ⟨ok_nop, mo_nop⟩ (
  And.intro ⟨ok_nop, mo_nop⟩ (
  trivial))))))))))))))))
theorem kX8_isUnder : am_M1 am_tb0 cX8_isUnder RX8 2 (some .boolean) false tX8_isUnder := And.intro rX8_isUnder_0 (And.intro rX8_isUnder_1 (And.intro rX8_isUnder_2 (trivial)))
def tX8_as : List (List am_Op) := [[o_aload 0 1, o_iload 1 2, o_cv 8 38 117 2 1 1 5, am_nop, am_nop, o_if (fun x => x = 0) 17 8, am_nop, am_nop, o_iload 2 9, o_push (.int 0) 10, o_push (.int 5) 11, o_cs 113 3 0 3 14, am_nop, am_nop, o_if (fun x => ¬ x = 0) 20 17, am_nop],
  [am_nop, o_push (.int (-1000000001)) 19, am_nop, o_iret, o_aload 0 21, o_iload 1 22, o_push (.int 0) 23, o_cv 8 38 121 3 0 2 26, am_nop, am_nop, o_iload 2 27, o_cs 129 2 0 2 30, am_nop, am_nop, o_if (fun x => x = 0) 42 33, am_nop],
  [am_nop, o_aload 0 34, o_iload 1 35, o_push (.int 2) 36, o_cv 8 38 121 3 0 2 39, am_nop, am_nop, o_goto 44, am_nop, am_nop, o_push (.int (-1000000012)) 44, am_nop, o_iret, am_nop, am_nop, am_nop]]
theorem rX8_as_0 : am_allR (fun pc o => am_ok am_tb0 cX8_as RX8 3 (some .int) false pc o ∧ am_mo o) 0 (am_nth [] tX8_as 0) :=
  And.intro ⟨ok_aload_n dX8_as_0 rfl rfl, mo_aload⟩ (
  And.intro ⟨ok_iload_n dX8_as_1 rfl rfl, mo_iload⟩ (
  And.intro ⟨ok_cv (z := 117) dX8_as_2 hclX8 (by decide) wd_1039 wd_1041 wp_20 wd_8 wd_1042 rfl (by decide) ⟨rfl, hy_X8_isHole⟩ rfl, mo_cv⟩ (
  And.intro ⟨ok_nop, mo_nop⟩ (
  And.intro ⟨ok_nop, mo_nop⟩ (
  And.intro ⟨ok_if_eq dX8_as_5 (by decide) rfl, mo_if⟩ (
  And.intro ⟨ok_nop, mo_nop⟩ (
  And.intro ⟨ok_nop, mo_nop⟩ (
  And.intro ⟨ok_iload_n dX8_as_8 rfl rfl, mo_iload⟩ (
  And.intro ⟨ok_iconst dX8_as_9 rfl ic_0, mo_push⟩ (
  And.intro ⟨ok_iconst dX8_as_10 rfl ic_5, mo_push⟩ (
  And.intro ⟨ok_cs (z := 113) dX8_as_11 wd_1012 wd_1013 wd_8 wd_1014 rfl (by decide) hy_X8_in rfl, mo_cs⟩ (
  And.intro ⟨ok_nop, mo_nop⟩ (
  And.intro ⟨ok_nop, mo_nop⟩ (
  And.intro ⟨ok_if_ne dX8_as_14 (by decide) rfl, mo_if⟩ (
  And.intro ⟨ok_nop, mo_nop⟩ (
  trivial))))))))))))))))
theorem rX8_as_1 : am_allR (fun pc o => am_ok am_tb0 cX8_as RX8 3 (some .int) false pc o ∧ am_mo o) 16 (am_nth [] tX8_as 1) :=
  And.intro ⟨ok_nop, mo_nop⟩ (
  And.intro ⟨ok_ldc dX8_as_17 rfl wd_1021, mo_push⟩ (
  And.intro ⟨ok_nop, mo_nop⟩ (
  And.intro ⟨ok_iret dX8_as_19 rfl, mo_iret⟩ (
  And.intro ⟨ok_aload_n dX8_as_20 rfl rfl, mo_aload⟩ (
  And.intro ⟨ok_iload_n dX8_as_21 rfl rfl, mo_iload⟩ (
  And.intro ⟨ok_iconst dX8_as_22 rfl ic_0, mo_push⟩ (
  And.intro ⟨ok_cv (z := 121) dX8_as_23 hclX8 (by decide) wd_1043 wd_1045 wp_21 wd_8 wd_1046 rfl (by decide) ⟨rfl, hy_X8_of⟩ rfl, mo_cv⟩ (
  And.intro ⟨ok_nop, mo_nop⟩ (
  And.intro ⟨ok_nop, mo_nop⟩ (
  And.intro ⟨ok_iload_n dX8_as_26 rfl rfl, mo_iload⟩ (
  And.intro ⟨ok_cs (z := 129) dX8_as_27 wd_1055 wd_1056 wd_8 wd_1057 rfl (by decide) hy_X8_isUnder rfl, mo_cs⟩ (
  And.intro ⟨ok_nop, mo_nop⟩ (
  And.intro ⟨ok_nop, mo_nop⟩ (
  And.intro ⟨ok_if_eq dX8_as_30 (by decide) rfl, mo_if⟩ (
  And.intro ⟨ok_nop, mo_nop⟩ (
  trivial))))))))))))))))
theorem rX8_as_2 : am_allR (fun pc o => am_ok am_tb0 cX8_as RX8 3 (some .int) false pc o ∧ am_mo o) 32 (am_nth [] tX8_as 2) :=
  And.intro ⟨ok_nop, mo_nop⟩ (
  And.intro ⟨ok_aload_n dX8_as_33 rfl rfl, mo_aload⟩ (
  And.intro ⟨ok_iload_n dX8_as_34 rfl rfl, mo_iload⟩ (
  And.intro ⟨ok_iconst dX8_as_35 rfl ic_2, mo_push⟩ (
  And.intro ⟨ok_cv (z := 121) dX8_as_36 hclX8 (by decide) wd_1043 wd_1045 wp_21 wd_8 wd_1046 rfl (by decide) ⟨rfl, hy_X8_of⟩ rfl, mo_cv⟩ (
  And.intro ⟨ok_nop, mo_nop⟩ (
  And.intro ⟨ok_nop, mo_nop⟩ (
  And.intro ⟨ok_goto dX8_as_39 (by decide), mo_goto⟩ (
  And.intro ⟨ok_nop, mo_nop⟩ (
  And.intro ⟨ok_nop, mo_nop⟩ (
  And.intro ⟨ok_ldc dX8_as_42 rfl wd_1058, mo_push⟩ (
  And.intro ⟨ok_nop, mo_nop⟩ (
  And.intro ⟨ok_iret dX8_as_44 rfl, mo_iret⟩ (
  And.intro ⟨ok_nop, mo_nop⟩ (
  And.intro ⟨ok_nop, mo_nop⟩ (
  And.intro ⟨ok_nop, mo_nop⟩ (
  trivial))))))))))))))))
theorem kX8_as : am_M1 am_tb0 cX8_as RX8 3 (some .int) false tX8_as := And.intro rX8_as_0 (And.intro rX8_as_1 (And.intro rX8_as_2 (trivial)))
def tX8_turns : List (List am_Op) := [[o_aload 0 1, o_iload 1 2, o_cv 8 38 117 2 1 1 5, am_nop, am_nop, o_if (fun x => x = 0) 31 8, am_nop, am_nop, o_iload 2 9, o_push (.int 0) 10, o_push (.int 5) 11, o_cs 113 3 0 3 14, am_nop, am_nop, o_if (fun x => x = 0) 31 17, am_nop],
  [am_nop, o_aload 0 18, o_push (.int 21) 20, am_nop, o_push (.int 5) 21, o_iload 1 22, o_bin (fun x y => x * y) 23, o_bin (fun x y => x + y) 24, o_iload 2 25, o_cv 8 38 123 4 0 2 28, am_nop, am_nop, o_goto 33, am_nop, am_nop, o_push (.int (-1000000001)) 33],
  [am_nop, o_iret, am_nop, am_nop, am_nop, am_nop, am_nop, am_nop, am_nop, am_nop, am_nop, am_nop, am_nop, am_nop, am_nop, am_nop]]
theorem rX8_turns_0 : am_allR (fun pc o => am_ok am_tb0 cX8_turns RX8 3 (some .int) false pc o ∧ am_mo o) 0 (am_nth [] tX8_turns 0) :=
  And.intro ⟨ok_aload_n dX8_turns_0 rfl rfl, mo_aload⟩ (
  And.intro ⟨ok_iload_n dX8_turns_1 rfl rfl, mo_iload⟩ (
  And.intro ⟨ok_cv (z := 117) dX8_turns_2 hclX8 (by decide) wd_1039 wd_1041 wp_20 wd_8 wd_1042 rfl (by decide) ⟨rfl, hy_X8_isHole⟩ rfl, mo_cv⟩ (
  And.intro ⟨ok_nop, mo_nop⟩ (
  And.intro ⟨ok_nop, mo_nop⟩ (
  And.intro ⟨ok_if_eq dX8_turns_5 (by decide) rfl, mo_if⟩ (
  And.intro ⟨ok_nop, mo_nop⟩ (
  And.intro ⟨ok_nop, mo_nop⟩ (
  And.intro ⟨ok_iload_n dX8_turns_8 rfl rfl, mo_iload⟩ (
  And.intro ⟨ok_iconst dX8_turns_9 rfl ic_0, mo_push⟩ (
  And.intro ⟨ok_iconst dX8_turns_10 rfl ic_5, mo_push⟩ (
  And.intro ⟨ok_cs (z := 113) dX8_turns_11 wd_1012 wd_1013 wd_8 wd_1014 rfl (by decide) hy_X8_in rfl, mo_cs⟩ (
  And.intro ⟨ok_nop, mo_nop⟩ (
  And.intro ⟨ok_nop, mo_nop⟩ (
  And.intro ⟨ok_if_eq dX8_turns_14 (by decide) rfl, mo_if⟩ (
  And.intro ⟨ok_nop, mo_nop⟩ (
  trivial))))))))))))))))
theorem rX8_turns_1 : am_allR (fun pc o => am_ok am_tb0 cX8_turns RX8 3 (some .int) false pc o ∧ am_mo o) 16 (am_nth [] tX8_turns 1) :=
  And.intro ⟨ok_nop, mo_nop⟩ (
  And.intro ⟨ok_aload_n dX8_turns_17 rfl rfl, mo_aload⟩ (
  And.intro ⟨ok_bipush dX8_turns_18 rfl bi_21, mo_push⟩ (
  And.intro ⟨ok_nop, mo_nop⟩ (
  And.intro ⟨ok_iconst dX8_turns_20 rfl ic_5, mo_push⟩ (
  And.intro ⟨ok_iload_n dX8_turns_21 rfl rfl, mo_iload⟩ (
  And.intro ⟨ok_imul dX8_turns_22 rfl, mo_bin⟩ (
  And.intro ⟨ok_iadd dX8_turns_23 rfl, mo_bin⟩ (
  And.intro ⟨ok_iload_n dX8_turns_24 rfl rfl, mo_iload⟩ (
  And.intro ⟨ok_cv (z := 123) dX8_turns_25 hclX8 (by decide) wd_1063 wd_1065 wp_23 wd_8 wd_1066 rfl (by decide) ⟨rfl, hy_X8_becomes⟩ rfl, mo_cv⟩ (
  And.intro ⟨ok_nop, mo_nop⟩ (
  And.intro ⟨ok_nop, mo_nop⟩ (
  And.intro ⟨ok_goto dX8_turns_28 (by decide), mo_goto⟩ (
  And.intro ⟨ok_nop, mo_nop⟩ (
  And.intro ⟨ok_nop, mo_nop⟩ (
  And.intro ⟨ok_ldc dX8_turns_31 rfl wd_1021, mo_push⟩ (
  trivial))))))))))))))))
theorem rX8_turns_2 : am_allR (fun pc o => am_ok am_tb0 cX8_turns RX8 3 (some .int) false pc o ∧ am_mo o) 32 (am_nth [] tX8_turns 2) :=
  And.intro ⟨ok_nop, mo_nop⟩ (
  And.intro ⟨ok_iret dX8_turns_33 rfl, mo_iret⟩ (
  And.intro ⟨ok_nop, mo_nop⟩ (
  And.intro ⟨ok_nop, mo_nop⟩ (
  And.intro ⟨ok_nop, mo_nop⟩ (
  And.intro ⟨ok_nop, mo_nop⟩ (
  And.intro ⟨ok_nop, mo_nop⟩ (
  And.intro ⟨ok_nop, mo_nop⟩ (
  And.intro ⟨ok_nop, mo_nop⟩ (
  And.intro ⟨ok_nop, mo_nop⟩ (
  And.intro ⟨ok_nop, mo_nop⟩ (
  And.intro ⟨ok_nop, mo_nop⟩ (
  And.intro ⟨ok_nop, mo_nop⟩ (
  And.intro ⟨ok_nop, mo_nop⟩ (
  And.intro ⟨ok_nop, mo_nop⟩ (
  And.intro ⟨ok_nop, mo_nop⟩ (
  trivial))))))))))))))))
theorem kX8_turns : am_M1 am_tb0 cX8_turns RX8 3 (some .int) false tX8_turns := And.intro rX8_turns_0 (And.intro rX8_turns_1 (And.intro rX8_turns_2 (trivial)))
def tX8_set : List (List am_Op) := [[o_aload 0 1, o_iload 1 2, o_cv 8 38 117 2 1 1 5, am_nop, am_nop, o_if (fun x => x = 0) 58 8, am_nop, am_nop, o_iload 2 9, o_push (.int 1) 10, o_push (.int 4) 11, o_cs 113 3 0 3 14, am_nop, am_nop, o_if (fun x => x = 0) 58 17, am_nop],
  [am_nop, o_iload 3 18, o_push (.int 0) 19, o_iload 2 20, o_push (.int 1) 21, o_icmp (fun x y => ¬ x = y) 29 24, am_nop, am_nop, o_push (.int 29) 26, am_nop, o_goto 52, am_nop, am_nop, o_iload 2 30, o_push (.int 2) 31, o_icmp (fun x y => ¬ x = y) 39 34],
  [am_nop, am_nop, o_push (.int 99) 36, am_nop, o_goto 52, am_nop, am_nop, o_iload 2 40, o_push (.int 3) 41, o_icmp (fun x y => ¬ x = y) 49 44, am_nop, am_nop, o_push (.int 7) 46, am_nop, o_goto 52, am_nop],
  [am_nop, o_push (.int 999) 52, am_nop, am_nop, o_cs 113 3 0 3 55, am_nop, am_nop, o_if (fun x => ¬ x = 0) 61 58, am_nop, am_nop, o_push (.int (-1000000001)) 60, am_nop, o_iret, o_aload 0 62, o_push (.int 21) 64, am_nop],
  [o_push (.int 5) 65, o_iload 1 66, o_bin (fun x y => x * y) 67, o_bin (fun x y => x + y) 68, o_iload 2 69, o_bin (fun x y => x + y) 70, o_iload 3 71, o_cv 8 38 123 4 0 2 74, am_nop, am_nop, o_iret, am_nop, am_nop, am_nop, am_nop, am_nop]]
theorem rX8_set_0 : am_allR (fun pc o => am_ok am_tb0 cX8_set RX8 4 (some .int) false pc o ∧ am_mo o) 0 (am_nth [] tX8_set 0) :=
  And.intro ⟨ok_aload_n dX8_set_0 rfl rfl, mo_aload⟩ (
  And.intro ⟨ok_iload_n dX8_set_1 rfl rfl, mo_iload⟩ (
  And.intro ⟨ok_cv (z := 117) dX8_set_2 hclX8 (by decide) wd_1039 wd_1041 wp_20 wd_8 wd_1042 rfl (by decide) ⟨rfl, hy_X8_isHole⟩ rfl, mo_cv⟩ (
  And.intro ⟨ok_nop, mo_nop⟩ (
  And.intro ⟨ok_nop, mo_nop⟩ (
  And.intro ⟨ok_if_eq dX8_set_5 (by decide) rfl, mo_if⟩ (
  And.intro ⟨ok_nop, mo_nop⟩ (
  And.intro ⟨ok_nop, mo_nop⟩ (
  And.intro ⟨ok_iload_n dX8_set_8 rfl rfl, mo_iload⟩ (
  And.intro ⟨ok_iconst dX8_set_9 rfl ic_1, mo_push⟩ (
  And.intro ⟨ok_iconst dX8_set_10 rfl ic_4, mo_push⟩ (
  And.intro ⟨ok_cs (z := 113) dX8_set_11 wd_1012 wd_1013 wd_8 wd_1014 rfl (by decide) hy_X8_in rfl, mo_cs⟩ (
  And.intro ⟨ok_nop, mo_nop⟩ (
  And.intro ⟨ok_nop, mo_nop⟩ (
  And.intro ⟨ok_if_eq dX8_set_14 (by decide) rfl, mo_if⟩ (
  And.intro ⟨ok_nop, mo_nop⟩ (
  trivial))))))))))))))))
theorem rX8_set_1 : am_allR (fun pc o => am_ok am_tb0 cX8_set RX8 4 (some .int) false pc o ∧ am_mo o) 16 (am_nth [] tX8_set 1) :=
  And.intro ⟨ok_nop, mo_nop⟩ (
  And.intro ⟨ok_iload_n dX8_set_17 rfl rfl, mo_iload⟩ (
  And.intro ⟨ok_iconst dX8_set_18 rfl ic_0, mo_push⟩ (
  And.intro ⟨ok_iload_n dX8_set_19 rfl rfl, mo_iload⟩ (
  And.intro ⟨ok_iconst dX8_set_20 rfl ic_1, mo_push⟩ (
  And.intro ⟨ok_icmp_ne dX8_set_21 (by decide) rfl, mo_icmp⟩ (
  And.intro ⟨ok_nop, mo_nop⟩ (
  And.intro ⟨ok_nop, mo_nop⟩ (
  And.intro ⟨ok_bipush dX8_set_24 rfl bi_29, mo_push⟩ (
  And.intro ⟨ok_nop, mo_nop⟩ (
  And.intro ⟨ok_goto dX8_set_26 (by decide), mo_goto⟩ (
  And.intro ⟨ok_nop, mo_nop⟩ (
  And.intro ⟨ok_nop, mo_nop⟩ (
  And.intro ⟨ok_iload_n dX8_set_29 rfl rfl, mo_iload⟩ (
  And.intro ⟨ok_iconst dX8_set_30 rfl ic_2, mo_push⟩ (
  And.intro ⟨ok_icmp_ne dX8_set_31 (by decide) rfl, mo_icmp⟩ (
  trivial))))))))))))))))
theorem rX8_set_2 : am_allR (fun pc o => am_ok am_tb0 cX8_set RX8 4 (some .int) false pc o ∧ am_mo o) 32 (am_nth [] tX8_set 2) :=
  And.intro ⟨ok_nop, mo_nop⟩ (
  And.intro ⟨ok_nop, mo_nop⟩ (
  And.intro ⟨ok_bipush dX8_set_34 rfl bi_99, mo_push⟩ (
  And.intro ⟨ok_nop, mo_nop⟩ (
  And.intro ⟨ok_goto dX8_set_36 (by decide), mo_goto⟩ (
  And.intro ⟨ok_nop, mo_nop⟩ (
  And.intro ⟨ok_nop, mo_nop⟩ (
  And.intro ⟨ok_iload_n dX8_set_39 rfl rfl, mo_iload⟩ (
  And.intro ⟨ok_iconst dX8_set_40 rfl ic_3, mo_push⟩ (
  And.intro ⟨ok_icmp_ne dX8_set_41 (by decide) rfl, mo_icmp⟩ (
  And.intro ⟨ok_nop, mo_nop⟩ (
  And.intro ⟨ok_nop, mo_nop⟩ (
  And.intro ⟨ok_bipush dX8_set_44 rfl bi_7, mo_push⟩ (
  And.intro ⟨ok_nop, mo_nop⟩ (
  And.intro ⟨ok_goto dX8_set_46 (by decide), mo_goto⟩ (
  And.intro ⟨ok_nop, mo_nop⟩ (
  trivial))))))))))))))))
theorem rX8_set_3 : am_allR (fun pc o => am_ok am_tb0 cX8_set RX8 4 (some .int) false pc o ∧ am_mo o) 48 (am_nth [] tX8_set 3) :=
  And.intro ⟨ok_nop, mo_nop⟩ (
  And.intro ⟨ok_sipush dX8_set_49 rfl si_999, mo_push⟩ (
  And.intro ⟨ok_nop, mo_nop⟩ (
  And.intro ⟨ok_nop, mo_nop⟩ (
  And.intro ⟨ok_cs (z := 113) dX8_set_52 wd_1012 wd_1013 wd_8 wd_1014 rfl (by decide) hy_X8_in rfl, mo_cs⟩ (
  And.intro ⟨ok_nop, mo_nop⟩ (
  And.intro ⟨ok_nop, mo_nop⟩ (
  And.intro ⟨ok_if_ne dX8_set_55 (by decide) rfl, mo_if⟩ (
  And.intro ⟨ok_nop, mo_nop⟩ (
  And.intro ⟨ok_nop, mo_nop⟩ (
  And.intro ⟨ok_ldc dX8_set_58 rfl wd_1021, mo_push⟩ (
  And.intro ⟨ok_nop, mo_nop⟩ (
  And.intro ⟨ok_iret dX8_set_60 rfl, mo_iret⟩ (
  And.intro ⟨ok_aload_n dX8_set_61 rfl rfl, mo_aload⟩ (
  And.intro ⟨ok_bipush dX8_set_62 rfl bi_21, mo_push⟩ (
  And.intro ⟨ok_nop, mo_nop⟩ (
  trivial))))))))))))))))
theorem rX8_set_4 : am_allR (fun pc o => am_ok am_tb0 cX8_set RX8 4 (some .int) false pc o ∧ am_mo o) 64 (am_nth [] tX8_set 4) :=
  And.intro ⟨ok_iconst dX8_set_64 rfl ic_5, mo_push⟩ (
  And.intro ⟨ok_iload_n dX8_set_65 rfl rfl, mo_iload⟩ (
  And.intro ⟨ok_imul dX8_set_66 rfl, mo_bin⟩ (
  And.intro ⟨ok_iadd dX8_set_67 rfl, mo_bin⟩ (
  And.intro ⟨ok_iload_n dX8_set_68 rfl rfl, mo_iload⟩ (
  And.intro ⟨ok_iadd dX8_set_69 rfl, mo_bin⟩ (
  And.intro ⟨ok_iload_n dX8_set_70 rfl rfl, mo_iload⟩ (
  And.intro ⟨ok_cv (z := 123) dX8_set_71 hclX8 (by decide) wd_1063 wd_1065 wp_23 wd_8 wd_1066 rfl (by decide) ⟨rfl, hy_X8_becomes⟩ rfl, mo_cv⟩ (
  And.intro ⟨ok_nop, mo_nop⟩ (
  And.intro ⟨ok_nop, mo_nop⟩ (
  And.intro ⟨ok_iret dX8_set_74 rfl, mo_iret⟩ (
  And.intro ⟨ok_nop, mo_nop⟩ (
  And.intro ⟨ok_nop, mo_nop⟩ (
  And.intro ⟨ok_nop, mo_nop⟩ (
  And.intro ⟨ok_nop, mo_nop⟩ (
  And.intro ⟨ok_nop, mo_nop⟩ (
  trivial))))))))))))))))
theorem kX8_set : am_M1 am_tb0 cX8_set RX8 4 (some .int) false tX8_set := And.intro rX8_set_0 (And.intro rX8_set_1 (And.intro rX8_set_2 (And.intro rX8_set_3 (And.intro rX8_set_4 (trivial)))))
def tX8_settlesBy : List (List am_Op) := [[o_aload 0 1, o_push (.int 1) 2, o_cv 8 38 185 3 0 1 5, am_nop, am_nop, o_istore 3 6, o_aload 0 7, o_getR 8 38 27 10, am_nop, am_nop, o_push (.int 0) 11, o_iload 2 12, o_iast 13, o_aload 0 14, o_getR 8 38 27 17, am_nop],
  [am_nop, o_push (.int 1) 18, o_aload 0 19, o_iload 1 20, o_push (.int 2) 21, o_cv 8 38 121 3 0 2 24, am_nop, am_nop, o_iast 25, o_aload 0 26, o_getR 8 38 27 29, am_nop, am_nop, o_push (.int 2) 30, o_aload 0 31, o_iload 1 32],
  [o_push (.int 4) 33, o_cv 8 38 121 3 0 2 36, am_nop, am_nop, o_iast 37, o_iload 3 38, o_if (fun x => 0 ≤ x) 47 41, am_nop, am_nop, o_iload 2 42, o_push (.int 5) 43, o_binS (fun x y => x / y) 44, o_goto 58, am_nop, am_nop, o_aload 0 48],
  [o_iload 3 49, o_cv 8 38 188 6 1 1 52, am_nop, am_nop, o_push (.int 0) 53, o_push (.int 9) 55, am_nop, o_cs 114 3 0 3 58, am_nop, am_nop, o_istore 4 60, am_nop, o_push (.int 2) 61, o_iload 4 63, am_nop, o_bin (fun x y => x * y) 64],
  [o_push (.int 0) 65, o_push (.int 9) 67, am_nop, o_cs 114 3 0 3 70, am_nop, am_nop, o_istore 5 72, am_nop, o_aload 0 73, o_iload 1 74, o_push (.int 0) 75, o_cv 8 38 121 3 0 2 78, am_nop, am_nop, o_sw [(1, 112), (2, 117), (3, 120), (4, 122), (5, 127)] 132, am_nop],
  [am_nop, am_nop, am_nop, am_nop, am_nop, am_nop, am_nop, am_nop, am_nop, am_nop, am_nop, am_nop, am_nop, am_nop, am_nop, am_nop],
  [am_nop, am_nop, am_nop, am_nop, am_nop, am_nop, am_nop, am_nop, am_nop, am_nop, am_nop, am_nop, am_nop, am_nop, am_nop, am_nop],
  [o_iload 4 114, am_nop, o_push (.int 1) 115, o_bin (fun x y => x + y) 116, o_iret, o_iload 5 119, am_nop, o_iret, o_push (.int 0) 121, o_iret, o_iload 5 124, am_nop, o_push (.int 2) 125, o_binS (fun x y => x / y) 126, o_iret, o_iload 2 128],
  [o_push (.int 9) 130, am_nop, o_binS (fun x y => x / y) 131, o_iret, o_iload 4 134, am_nop, o_iret, am_nop, am_nop, am_nop, am_nop, am_nop, am_nop, am_nop, am_nop, am_nop]]
theorem rX8_settlesBy_0 : am_allR (fun pc o => am_ok am_tb0 cX8_settlesBy RX8 6 (some .int) false pc o ∧ am_mo o) 0 (am_nth [] tX8_settlesBy 0) :=
  And.intro ⟨ok_aload_n dX8_settlesBy_0 rfl rfl, mo_aload⟩ (
  And.intro ⟨ok_iconst dX8_settlesBy_1 rfl ic_1, mo_push⟩ (
  And.intro ⟨ok_cv (z := 185) dX8_settlesBy_2 hclX8 (by decide) wd_1079 wd_1081 wp_25 wd_8 wd_1082 rfl (by decide) ⟨rfl, hy_X8_counts⟩ rfl, mo_cv⟩ (
  And.intro ⟨ok_nop, mo_nop⟩ (
  And.intro ⟨ok_nop, mo_nop⟩ (
  And.intro ⟨ok_istore_n dX8_settlesBy_5 rfl (by decide) rfl, mo_istore⟩ (
  And.intro ⟨ok_aload_n dX8_settlesBy_6 rfl rfl, mo_aload⟩ (
  And.intro ⟨ok_getR dX8_settlesBy_7 hclX8 inWX8 (by decide) (by decide) wd_918 (fun _ _ _ => rfl) rfl, mo_getR⟩ (
  And.intro ⟨ok_nop, mo_nop⟩ (
  And.intro ⟨ok_nop, mo_nop⟩ (
  And.intro ⟨ok_iconst dX8_settlesBy_10 rfl ic_0, mo_push⟩ (
  And.intro ⟨ok_iload_n dX8_settlesBy_11 rfl rfl, mo_iload⟩ (
  And.intro ⟨ok_iast dX8_settlesBy_12 rfl, mo_iast⟩ (
  And.intro ⟨ok_aload_n dX8_settlesBy_13 rfl rfl, mo_aload⟩ (
  And.intro ⟨ok_getR dX8_settlesBy_14 hclX8 inWX8 (by decide) (by decide) wd_918 (fun _ _ _ => rfl) rfl, mo_getR⟩ (
  And.intro ⟨ok_nop, mo_nop⟩ (
  trivial))))))))))))))))
theorem rX8_settlesBy_1 : am_allR (fun pc o => am_ok am_tb0 cX8_settlesBy RX8 6 (some .int) false pc o ∧ am_mo o) 16 (am_nth [] tX8_settlesBy 1) :=
  And.intro ⟨ok_nop, mo_nop⟩ (
  And.intro ⟨ok_iconst dX8_settlesBy_17 rfl ic_1, mo_push⟩ (
  And.intro ⟨ok_aload_n dX8_settlesBy_18 rfl rfl, mo_aload⟩ (
  And.intro ⟨ok_iload_n dX8_settlesBy_19 rfl rfl, mo_iload⟩ (
  And.intro ⟨ok_iconst dX8_settlesBy_20 rfl ic_2, mo_push⟩ (
  And.intro ⟨ok_cv (z := 121) dX8_settlesBy_21 hclX8 (by decide) wd_1043 wd_1045 wp_21 wd_8 wd_1046 rfl (by decide) ⟨rfl, hy_X8_of⟩ rfl, mo_cv⟩ (
  And.intro ⟨ok_nop, mo_nop⟩ (
  And.intro ⟨ok_nop, mo_nop⟩ (
  And.intro ⟨ok_iast dX8_settlesBy_24 rfl, mo_iast⟩ (
  And.intro ⟨ok_aload_n dX8_settlesBy_25 rfl rfl, mo_aload⟩ (
  And.intro ⟨ok_getR dX8_settlesBy_26 hclX8 inWX8 (by decide) (by decide) wd_918 (fun _ _ _ => rfl) rfl, mo_getR⟩ (
  And.intro ⟨ok_nop, mo_nop⟩ (
  And.intro ⟨ok_nop, mo_nop⟩ (
  And.intro ⟨ok_iconst dX8_settlesBy_29 rfl ic_2, mo_push⟩ (
  And.intro ⟨ok_aload_n dX8_settlesBy_30 rfl rfl, mo_aload⟩ (
  And.intro ⟨ok_iload_n dX8_settlesBy_31 rfl rfl, mo_iload⟩ (
  trivial))))))))))))))))
theorem rX8_settlesBy_2 : am_allR (fun pc o => am_ok am_tb0 cX8_settlesBy RX8 6 (some .int) false pc o ∧ am_mo o) 32 (am_nth [] tX8_settlesBy 2) :=
  And.intro ⟨ok_iconst dX8_settlesBy_32 rfl ic_4, mo_push⟩ (
  And.intro ⟨ok_cv (z := 121) dX8_settlesBy_33 hclX8 (by decide) wd_1043 wd_1045 wp_21 wd_8 wd_1046 rfl (by decide) ⟨rfl, hy_X8_of⟩ rfl, mo_cv⟩ (
  And.intro ⟨ok_nop, mo_nop⟩ (
  And.intro ⟨ok_nop, mo_nop⟩ (
  And.intro ⟨ok_iast dX8_settlesBy_36 rfl, mo_iast⟩ (
  And.intro ⟨ok_iload_n dX8_settlesBy_37 rfl rfl, mo_iload⟩ (
  And.intro ⟨ok_if_ge dX8_settlesBy_38 (by decide) rfl, mo_if⟩ (
  And.intro ⟨ok_nop, mo_nop⟩ (
  And.intro ⟨ok_nop, mo_nop⟩ (
  And.intro ⟨ok_iload_n dX8_settlesBy_41 rfl rfl, mo_iload⟩ (
  And.intro ⟨ok_iconst dX8_settlesBy_42 rfl ic_5, mo_push⟩ (
  And.intro ⟨ok_idiv dX8_settlesBy_43 rfl, mo_binS⟩ (
  And.intro ⟨ok_goto dX8_settlesBy_44 (by decide), mo_goto⟩ (
  And.intro ⟨ok_nop, mo_nop⟩ (
  And.intro ⟨ok_nop, mo_nop⟩ (
  And.intro ⟨ok_aload_n dX8_settlesBy_47 rfl rfl, mo_aload⟩ (
  trivial))))))))))))))))
theorem rX8_settlesBy_3 : am_allR (fun pc o => am_ok am_tb0 cX8_settlesBy RX8 6 (some .int) false pc o ∧ am_mo o) 48 (am_nth [] tX8_settlesBy 3) :=
  And.intro ⟨ok_iload_n dX8_settlesBy_48 rfl rfl, mo_iload⟩ (
  And.intro ⟨ok_cv (z := 188) dX8_settlesBy_49 hclX8 (by decide) wd_1083 wd_1085 wp_26 wd_8 wd_1086 rfl (by decide) ⟨rfl, hy_X8_worksOut⟩ rfl, mo_cv⟩ (
  And.intro ⟨ok_nop, mo_nop⟩ (
  And.intro ⟨ok_nop, mo_nop⟩ (
  And.intro ⟨ok_iconst dX8_settlesBy_52 rfl ic_0, mo_push⟩ (
  And.intro ⟨ok_bipush dX8_settlesBy_53 rfl bi_9, mo_push⟩ (
  And.intro ⟨ok_nop, mo_nop⟩ (
  And.intro ⟨ok_cs (z := 114) dX8_settlesBy_55 wd_1090 wd_1091 wd_8 wd_1092 rfl (by decide) hy_X8_within rfl, mo_cs⟩ (
  And.intro ⟨ok_nop, mo_nop⟩ (
  And.intro ⟨ok_nop, mo_nop⟩ (
  And.intro ⟨ok_istore dX8_settlesBy_58 (by decide) rfl, mo_istore⟩ (
  And.intro ⟨ok_nop, mo_nop⟩ (
  And.intro ⟨ok_iconst dX8_settlesBy_60 rfl ic_2, mo_push⟩ (
  And.intro ⟨ok_iload dX8_settlesBy_61 rfl, mo_iload⟩ (
  And.intro ⟨ok_nop, mo_nop⟩ (
  And.intro ⟨ok_imul dX8_settlesBy_63 rfl, mo_bin⟩ (
  trivial))))))))))))))))
theorem rX8_settlesBy_4 : am_allR (fun pc o => am_ok am_tb0 cX8_settlesBy RX8 6 (some .int) false pc o ∧ am_mo o) 64 (am_nth [] tX8_settlesBy 4) :=
  And.intro ⟨ok_iconst dX8_settlesBy_64 rfl ic_0, mo_push⟩ (
  And.intro ⟨ok_bipush dX8_settlesBy_65 rfl bi_9, mo_push⟩ (
  And.intro ⟨ok_nop, mo_nop⟩ (
  And.intro ⟨ok_cs (z := 114) dX8_settlesBy_67 wd_1090 wd_1091 wd_8 wd_1092 rfl (by decide) hy_X8_within rfl, mo_cs⟩ (
  And.intro ⟨ok_nop, mo_nop⟩ (
  And.intro ⟨ok_nop, mo_nop⟩ (
  And.intro ⟨ok_istore dX8_settlesBy_70 (by decide) rfl, mo_istore⟩ (
  And.intro ⟨ok_nop, mo_nop⟩ (
  And.intro ⟨ok_aload_n dX8_settlesBy_72 rfl rfl, mo_aload⟩ (
  And.intro ⟨ok_iload_n dX8_settlesBy_73 rfl rfl, mo_iload⟩ (
  And.intro ⟨ok_iconst dX8_settlesBy_74 rfl ic_0, mo_push⟩ (
  And.intro ⟨ok_cv (z := 121) dX8_settlesBy_75 hclX8 (by decide) wd_1043 wd_1045 wp_21 wd_8 wd_1046 rfl (by decide) ⟨rfl, hy_X8_of⟩ rfl, mo_cv⟩ (
  And.intro ⟨ok_nop, mo_nop⟩ (
  And.intro ⟨ok_nop, mo_nop⟩ (
  And.intro ⟨ok_table dX8_settlesBy_78 (by decide) (by decide +kernel) (by decide +kernel), mo_sw⟩ (
  And.intro ⟨ok_nop, mo_nop⟩ (
  trivial))))))))))))))))
theorem rX8_settlesBy_5 : am_allR (fun pc o => am_ok am_tb0 cX8_settlesBy RX8 6 (some .int) false pc o ∧ am_mo o) 80 (am_nth [] tX8_settlesBy 5) :=
  And.intro ⟨ok_nop, mo_nop⟩ (
  And.intro ⟨ok_nop, mo_nop⟩ (
  And.intro ⟨ok_nop, mo_nop⟩ (
  And.intro ⟨ok_nop, mo_nop⟩ (
  And.intro ⟨ok_nop, mo_nop⟩ (
  And.intro ⟨ok_nop, mo_nop⟩ (
  And.intro ⟨ok_nop, mo_nop⟩ (
  And.intro ⟨ok_nop, mo_nop⟩ (
  And.intro ⟨ok_nop, mo_nop⟩ (
  And.intro ⟨ok_nop, mo_nop⟩ (
  And.intro ⟨ok_nop, mo_nop⟩ (
  And.intro ⟨ok_nop, mo_nop⟩ (
  And.intro ⟨ok_nop, mo_nop⟩ (
  And.intro ⟨ok_nop, mo_nop⟩ (
  And.intro ⟨ok_nop, mo_nop⟩ (
  And.intro ⟨ok_nop, mo_nop⟩ (
  trivial))))))))))))))))
theorem rX8_settlesBy_6 : am_allR (fun pc o => am_ok am_tb0 cX8_settlesBy RX8 6 (some .int) false pc o ∧ am_mo o) 96 (am_nth [] tX8_settlesBy 6) :=
  And.intro ⟨ok_nop, mo_nop⟩ (
  And.intro ⟨ok_nop, mo_nop⟩ (
  And.intro ⟨ok_nop, mo_nop⟩ (
  And.intro ⟨ok_nop, mo_nop⟩ (
  And.intro ⟨ok_nop, mo_nop⟩ (
  And.intro ⟨ok_nop, mo_nop⟩ (
  And.intro ⟨ok_nop, mo_nop⟩ (
  And.intro ⟨ok_nop, mo_nop⟩ (
  And.intro ⟨ok_nop, mo_nop⟩ (
  And.intro ⟨ok_nop, mo_nop⟩ (
  And.intro ⟨ok_nop, mo_nop⟩ (
  And.intro ⟨ok_nop, mo_nop⟩ (
  And.intro ⟨ok_nop, mo_nop⟩ (
  And.intro ⟨ok_nop, mo_nop⟩ (
  And.intro ⟨ok_nop, mo_nop⟩ (
  And.intro ⟨ok_nop, mo_nop⟩ (
  trivial))))))))))))))))
theorem rX8_settlesBy_7 : am_allR (fun pc o => am_ok am_tb0 cX8_settlesBy RX8 6 (some .int) false pc o ∧ am_mo o) 112 (am_nth [] tX8_settlesBy 7) :=
  And.intro ⟨ok_iload dX8_settlesBy_112 rfl, mo_iload⟩ (
  And.intro ⟨ok_nop, mo_nop⟩ (
  And.intro ⟨ok_iconst dX8_settlesBy_114 rfl ic_1, mo_push⟩ (
  And.intro ⟨ok_iadd dX8_settlesBy_115 rfl, mo_bin⟩ (
  And.intro ⟨ok_iret dX8_settlesBy_116 rfl, mo_iret⟩ (
  And.intro ⟨ok_iload dX8_settlesBy_117 rfl, mo_iload⟩ (
  And.intro ⟨ok_nop, mo_nop⟩ (
  And.intro ⟨ok_iret dX8_settlesBy_119 rfl, mo_iret⟩ (
  And.intro ⟨ok_iconst dX8_settlesBy_120 rfl ic_0, mo_push⟩ (
  And.intro ⟨ok_iret dX8_settlesBy_121 rfl, mo_iret⟩ (
  And.intro ⟨ok_iload dX8_settlesBy_122 rfl, mo_iload⟩ (
  And.intro ⟨ok_nop, mo_nop⟩ (
  And.intro ⟨ok_iconst dX8_settlesBy_124 rfl ic_2, mo_push⟩ (
  And.intro ⟨ok_idiv dX8_settlesBy_125 rfl, mo_binS⟩ (
  And.intro ⟨ok_iret dX8_settlesBy_126 rfl, mo_iret⟩ (
  And.intro ⟨ok_iload_n dX8_settlesBy_127 rfl rfl, mo_iload⟩ (
  trivial))))))))))))))))
theorem rX8_settlesBy_8 : am_allR (fun pc o => am_ok am_tb0 cX8_settlesBy RX8 6 (some .int) false pc o ∧ am_mo o) 128 (am_nth [] tX8_settlesBy 8) :=
  And.intro ⟨ok_bipush dX8_settlesBy_128 rfl bi_9, mo_push⟩ (
  And.intro ⟨ok_nop, mo_nop⟩ (
  And.intro ⟨ok_idiv dX8_settlesBy_130 rfl, mo_binS⟩ (
  And.intro ⟨ok_iret dX8_settlesBy_131 rfl, mo_iret⟩ (
  And.intro ⟨ok_iload dX8_settlesBy_132 rfl, mo_iload⟩ (
  And.intro ⟨ok_nop, mo_nop⟩ (
  And.intro ⟨ok_iret dX8_settlesBy_134 rfl, mo_iret⟩ (
  And.intro ⟨ok_nop, mo_nop⟩ (
  And.intro ⟨ok_nop, mo_nop⟩ (
  And.intro ⟨ok_nop, mo_nop⟩ (
  And.intro ⟨ok_nop, mo_nop⟩ (
  And.intro ⟨ok_nop, mo_nop⟩ (
  And.intro ⟨ok_nop, mo_nop⟩ (
  And.intro ⟨ok_nop, mo_nop⟩ (
  And.intro ⟨ok_nop, mo_nop⟩ (
  And.intro ⟨ok_nop, mo_nop⟩ (
  trivial))))))))))))))))
theorem kX8_settlesBy : am_M1 am_tb0 cX8_settlesBy RX8 6 (some .int) false tX8_settlesBy := And.intro rX8_settlesBy_0 (And.intro rX8_settlesBy_1 (And.intro rX8_settlesBy_2 (And.intro rX8_settlesBy_3 (And.intro rX8_settlesBy_4 (And.intro rX8_settlesBy_5 (And.intro rX8_settlesBy_6 (And.intro rX8_settlesBy_7 (And.intro rX8_settlesBy_8 (trivial)))))))))
def tX8_settles : List (List am_Op) := [[o_aload 0 1, o_iload 1 2, o_cv 8 38 117 2 1 1 5, am_nop, am_nop, o_if (fun x => x = 0) 27 8, am_nop, am_nop, o_iload 2 9, o_push (.int 0) 10, o_push (.int 9) 12, am_nop, o_cs 113 3 0 3 15, am_nop, am_nop, o_if (fun x => x = 0) 27 18],
  [am_nop, am_nop, o_aload 0 19, o_iload 1 20, o_iload 2 21, o_cv 8 38 133 6 2 2 24, am_nop, am_nop, o_goto 29, am_nop, am_nop, o_push (.int (-1000000001)) 29, am_nop, o_iret, am_nop, am_nop]]
theorem rX8_settles_0 : am_allR (fun pc o => am_ok am_tb0 cX8_settles RX8 3 (some .int) false pc o ∧ am_mo o) 0 (am_nth [] tX8_settles 0) :=
  And.intro ⟨ok_aload_n dX8_settles_0 rfl rfl, mo_aload⟩ (
  And.intro ⟨ok_iload_n dX8_settles_1 rfl rfl, mo_iload⟩ (
  And.intro ⟨ok_cv (z := 117) dX8_settles_2 hclX8 (by decide) wd_1039 wd_1041 wp_20 wd_8 wd_1042 rfl (by decide) ⟨rfl, hy_X8_isHole⟩ rfl, mo_cv⟩ (
  And.intro ⟨ok_nop, mo_nop⟩ (
  And.intro ⟨ok_nop, mo_nop⟩ (
  And.intro ⟨ok_if_eq dX8_settles_5 (by decide) rfl, mo_if⟩ (
  And.intro ⟨ok_nop, mo_nop⟩ (
  And.intro ⟨ok_nop, mo_nop⟩ (
  And.intro ⟨ok_iload_n dX8_settles_8 rfl rfl, mo_iload⟩ (
  And.intro ⟨ok_iconst dX8_settles_9 rfl ic_0, mo_push⟩ (
  And.intro ⟨ok_bipush dX8_settles_10 rfl bi_9, mo_push⟩ (
  And.intro ⟨ok_nop, mo_nop⟩ (
  And.intro ⟨ok_cs (z := 113) dX8_settles_12 wd_1012 wd_1013 wd_8 wd_1014 rfl (by decide) hy_X8_in rfl, mo_cs⟩ (
  And.intro ⟨ok_nop, mo_nop⟩ (
  And.intro ⟨ok_nop, mo_nop⟩ (
  And.intro ⟨ok_if_eq dX8_settles_15 (by decide) rfl, mo_if⟩ (
  trivial))))))))))))))))
theorem rX8_settles_1 : am_allR (fun pc o => am_ok am_tb0 cX8_settles RX8 3 (some .int) false pc o ∧ am_mo o) 16 (am_nth [] tX8_settles 1) :=
  And.intro ⟨ok_nop, mo_nop⟩ (
  And.intro ⟨ok_nop, mo_nop⟩ (
  And.intro ⟨ok_aload_n dX8_settles_18 rfl rfl, mo_aload⟩ (
  And.intro ⟨ok_iload_n dX8_settles_19 rfl rfl, mo_iload⟩ (
  And.intro ⟨ok_iload_n dX8_settles_20 rfl rfl, mo_iload⟩ (
  And.intro ⟨ok_cv (z := 133) dX8_settles_21 hclX8 (by decide) wd_1075 wd_1077 wp_24 wd_8 wd_1078 rfl (by decide) ⟨rfl, hy_X8_settlesBy⟩ rfl, mo_cv⟩ (
  And.intro ⟨ok_nop, mo_nop⟩ (
  And.intro ⟨ok_nop, mo_nop⟩ (
  And.intro ⟨ok_goto dX8_settles_24 (by decide), mo_goto⟩ (
  And.intro ⟨ok_nop, mo_nop⟩ (
  And.intro ⟨ok_nop, mo_nop⟩ (
  And.intro ⟨ok_ldc dX8_settles_27 rfl wd_1021, mo_push⟩ (
  And.intro ⟨ok_nop, mo_nop⟩ (
  And.intro ⟨ok_iret dX8_settles_29 rfl, mo_iret⟩ (
  And.intro ⟨ok_nop, mo_nop⟩ (
  And.intro ⟨ok_nop, mo_nop⟩ (
  trivial))))))))))))))))
theorem kX8_settles : am_M1 am_tb0 cX8_settles RX8 3 (some .int) false tX8_settles := And.intro rX8_settles_0 (And.intro rX8_settles_1 (trivial))
def tX8_rule : List (List am_Op) := [[o_iload 1 1, o_push (.int 0) 2, o_push (.int 1) 3, o_cs 113 3 0 3 6, am_nop, am_nop, o_if (fun x => x = 0) 43 9, am_nop, am_nop, o_iload 2 10, o_push (.int 50) 12, am_nop, o_iload 1 13, o_bin (fun x y => x * y) 14, o_iload 1 15, o_if (fun x => ¬ x = 0) 23 18],
  [am_nop, am_nop, o_push (.int 29) 20, am_nop, o_goto 26, am_nop, am_nop, o_push (.int 200) 26, am_nop, am_nop, o_cs 113 3 0 3 29, am_nop, am_nop, o_if (fun x => x = 0) 43 32, am_nop, am_nop],
  [o_aload 0 33, o_push (.int 3) 34, o_iload 1 35, o_bin (fun x y => x + y) 36, o_iload 2 37, o_cv 8 38 123 4 0 2 40, am_nop, am_nop, o_goto 45, am_nop, am_nop, o_push (.int (-1000000001)) 45, am_nop, o_iret, am_nop, am_nop]]
theorem rX8_rule_0 : am_allR (fun pc o => am_ok am_tb0 cX8_rule RX8 3 (some .int) false pc o ∧ am_mo o) 0 (am_nth [] tX8_rule 0) :=
  And.intro ⟨ok_iload_n dX8_rule_0 rfl rfl, mo_iload⟩ (
  And.intro ⟨ok_iconst dX8_rule_1 rfl ic_0, mo_push⟩ (
  And.intro ⟨ok_iconst dX8_rule_2 rfl ic_1, mo_push⟩ (
  And.intro ⟨ok_cs (z := 113) dX8_rule_3 wd_1012 wd_1013 wd_8 wd_1014 rfl (by decide) hy_X8_in rfl, mo_cs⟩ (
  And.intro ⟨ok_nop, mo_nop⟩ (
  And.intro ⟨ok_nop, mo_nop⟩ (
  And.intro ⟨ok_if_eq dX8_rule_6 (by decide) rfl, mo_if⟩ (
  And.intro ⟨ok_nop, mo_nop⟩ (
  And.intro ⟨ok_nop, mo_nop⟩ (
  And.intro ⟨ok_iload_n dX8_rule_9 rfl rfl, mo_iload⟩ (
  And.intro ⟨ok_bipush dX8_rule_10 rfl bi_50, mo_push⟩ (
  And.intro ⟨ok_nop, mo_nop⟩ (
  And.intro ⟨ok_iload_n dX8_rule_12 rfl rfl, mo_iload⟩ (
  And.intro ⟨ok_imul dX8_rule_13 rfl, mo_bin⟩ (
  And.intro ⟨ok_iload_n dX8_rule_14 rfl rfl, mo_iload⟩ (
  And.intro ⟨ok_if_ne dX8_rule_15 (by decide) rfl, mo_if⟩ (
  trivial))))))))))))))))
theorem rX8_rule_1 : am_allR (fun pc o => am_ok am_tb0 cX8_rule RX8 3 (some .int) false pc o ∧ am_mo o) 16 (am_nth [] tX8_rule 1) :=
  And.intro ⟨ok_nop, mo_nop⟩ (
  And.intro ⟨ok_nop, mo_nop⟩ (
  And.intro ⟨ok_bipush dX8_rule_18 rfl bi_29, mo_push⟩ (
  And.intro ⟨ok_nop, mo_nop⟩ (
  And.intro ⟨ok_goto dX8_rule_20 (by decide), mo_goto⟩ (
  And.intro ⟨ok_nop, mo_nop⟩ (
  And.intro ⟨ok_nop, mo_nop⟩ (
  And.intro ⟨ok_sipush dX8_rule_23 rfl si_200, mo_push⟩ (
  And.intro ⟨ok_nop, mo_nop⟩ (
  And.intro ⟨ok_nop, mo_nop⟩ (
  And.intro ⟨ok_cs (z := 113) dX8_rule_26 wd_1012 wd_1013 wd_8 wd_1014 rfl (by decide) hy_X8_in rfl, mo_cs⟩ (
  And.intro ⟨ok_nop, mo_nop⟩ (
  And.intro ⟨ok_nop, mo_nop⟩ (
  And.intro ⟨ok_if_eq dX8_rule_29 (by decide) rfl, mo_if⟩ (
  And.intro ⟨ok_nop, mo_nop⟩ (
  And.intro ⟨ok_nop, mo_nop⟩ (
  trivial))))))))))))))))
theorem rX8_rule_2 : am_allR (fun pc o => am_ok am_tb0 cX8_rule RX8 3 (some .int) false pc o ∧ am_mo o) 32 (am_nth [] tX8_rule 2) :=
  And.intro ⟨ok_aload_n dX8_rule_32 rfl rfl, mo_aload⟩ (
  And.intro ⟨ok_iconst dX8_rule_33 rfl ic_3, mo_push⟩ (
  And.intro ⟨ok_iload_n dX8_rule_34 rfl rfl, mo_iload⟩ (
  And.intro ⟨ok_iadd dX8_rule_35 rfl, mo_bin⟩ (
  And.intro ⟨ok_iload_n dX8_rule_36 rfl rfl, mo_iload⟩ (
  And.intro ⟨ok_cv (z := 123) dX8_rule_37 hclX8 (by decide) wd_1063 wd_1065 wp_23 wd_8 wd_1066 rfl (by decide) ⟨rfl, hy_X8_becomes⟩ rfl, mo_cv⟩ (
  And.intro ⟨ok_nop, mo_nop⟩ (
  And.intro ⟨ok_nop, mo_nop⟩ (
  And.intro ⟨ok_goto dX8_rule_40 (by decide), mo_goto⟩ (
  And.intro ⟨ok_nop, mo_nop⟩ (
  And.intro ⟨ok_nop, mo_nop⟩ (
  And.intro ⟨ok_ldc dX8_rule_43 rfl wd_1021, mo_push⟩ (
  And.intro ⟨ok_nop, mo_nop⟩ (
  And.intro ⟨ok_iret dX8_rule_45 rfl, mo_iret⟩ (
  And.intro ⟨ok_nop, mo_nop⟩ (
  And.intro ⟨ok_nop, mo_nop⟩ (
  trivial))))))))))))))))
theorem kX8_rule : am_M1 am_tb0 cX8_rule RX8 3 (some .int) false tX8_rule := And.intro rX8_rule_0 (And.intro rX8_rule_1 (And.intro rX8_rule_2 (trivial)))
def tX8_draw : List (List am_Op) := [[o_aload 0 1, o_getR 8 38 0 4, am_nop, am_nop, o_push (.int 0) 5, o_aload 0 6, o_getR 8 38 0 9, am_nop, am_nop, o_push (.int 0) 10, o_iald 20 11, o_push (.int 1103515245) 13, am_nop, o_bin (fun x y => x * y) 14, o_push (.int 12345) 17, am_nop],
  [am_nop, o_bin (fun x y => x + y) 18, o_iast 19, o_aload 0 20, o_getR 8 38 0 23, am_nop, am_nop, o_push (.int 0) 24, o_iald 20 25, o_push (.int 8) 27, am_nop, o_bin (fun x y => (x.toUInt32 >>> (y.toUInt32 &&& Int32.toUInt32 31)).toInt32) 28, o_iret, am_nop, am_nop, am_nop]]
theorem rX8_draw_0 : am_allR (fun pc o => am_ok am_tb0 cX8_draw RX8 1 (some .int) false pc o ∧ am_mo o) 0 (am_nth [] tX8_draw 0) :=
  And.intro ⟨ok_aload_n dX8_draw_0 rfl rfl, mo_aload⟩ (
  And.intro ⟨ok_getR dX8_draw_1 hclX8 inWX8 (by decide) (by decide) wd_891 (fun _ _ _ => rfl) rfl, mo_getR⟩ (
  And.intro ⟨ok_nop, mo_nop⟩ (
  And.intro ⟨ok_nop, mo_nop⟩ (
  And.intro ⟨ok_iconst dX8_draw_4 rfl ic_0, mo_push⟩ (
  And.intro ⟨ok_aload_n dX8_draw_5 rfl rfl, mo_aload⟩ (
  And.intro ⟨ok_getR dX8_draw_6 hclX8 inWX8 (by decide) (by decide) wd_891 (fun _ _ _ => rfl) rfl, mo_getR⟩ (
  And.intro ⟨ok_nop, mo_nop⟩ (
  And.intro ⟨ok_nop, mo_nop⟩ (
  And.intro ⟨ok_iconst dX8_draw_9 rfl ic_0, mo_push⟩ (
  And.intro ⟨ok_iald dX8_draw_10 rfl, mo_iald⟩ (
  And.intro ⟨ok_ldc dX8_draw_11 rfl wd_1105, mo_push⟩ (
  And.intro ⟨ok_nop, mo_nop⟩ (
  And.intro ⟨ok_imul dX8_draw_13 rfl, mo_bin⟩ (
  And.intro ⟨ok_sipush dX8_draw_14 rfl si_12345, mo_push⟩ (
  And.intro ⟨ok_nop, mo_nop⟩ (
  trivial))))))))))))))))
theorem rX8_draw_1 : am_allR (fun pc o => am_ok am_tb0 cX8_draw RX8 1 (some .int) false pc o ∧ am_mo o) 16 (am_nth [] tX8_draw 1) :=
  And.intro ⟨ok_nop, mo_nop⟩ (
  And.intro ⟨ok_iadd dX8_draw_17 rfl, mo_bin⟩ (
  And.intro ⟨ok_iast dX8_draw_18 rfl, mo_iast⟩ (
  And.intro ⟨ok_aload_n dX8_draw_19 rfl rfl, mo_aload⟩ (
  And.intro ⟨ok_getR dX8_draw_20 hclX8 inWX8 (by decide) (by decide) wd_891 (fun _ _ _ => rfl) rfl, mo_getR⟩ (
  And.intro ⟨ok_nop, mo_nop⟩ (
  And.intro ⟨ok_nop, mo_nop⟩ (
  And.intro ⟨ok_iconst dX8_draw_23 rfl ic_0, mo_push⟩ (
  And.intro ⟨ok_iald dX8_draw_24 rfl, mo_iald⟩ (
  And.intro ⟨ok_bipush dX8_draw_25 rfl bi_8, mo_push⟩ (
  And.intro ⟨ok_nop, mo_nop⟩ (
  And.intro ⟨ok_iushr dX8_draw_27 rfl, mo_bin⟩ (
  And.intro ⟨ok_iret dX8_draw_28 rfl, mo_iret⟩ (
  And.intro ⟨ok_nop, mo_nop⟩ (
  And.intro ⟨ok_nop, mo_nop⟩ (
  And.intro ⟨ok_nop, mo_nop⟩ (
  trivial))))))))))))))))
theorem kX8_draw : am_M1 am_tb0 cX8_draw RX8 1 (some .int) false tX8_draw := And.intro rX8_draw_0 (And.intro rX8_draw_1 (trivial))
def tX8_deal : List (List am_Op) := [[o_iload 1 1, o_push (.int 1) 2, o_push (.int 10) 4, am_nop, o_cs 113 3 0 3 7, am_nop, am_nop, o_if (fun x => ¬ x = 0) 13 10, am_nop, am_nop, o_push (.int (-1000000001)) 12, am_nop, o_iret, o_push (.int 0) 14, o_istore 2 15, o_iload 2 16],
  [o_iload 1 17, o_icmp (fun x y => y ≤ x) 83 20, am_nop, am_nop, o_aload 0 21, o_getR 8 38 0 24, am_nop, am_nop, o_push (.int 1) 25, o_iald 20 26, o_push (.int 10) 28, am_nop, o_icmp (fun x y => y ≤ x) 83 31, am_nop, am_nop, o_aload 0 32],
  [o_cv 8 38 136 1 0 0 35, am_nop, am_nop, o_push (.int 6) 37, am_nop, o_binS (fun x y => x - x / y * y) 38, o_istore 3 39, o_aload 0 40, o_cv 8 38 136 1 0 0 43, am_nop, am_nop, o_push (.int 30) 45, am_nop, o_binS (fun x y => x - x / y * y) 46, o_istore 4 48, am_nop],
  [o_push (.int 1) 49, o_aload 0 50, o_cv 8 38 136 1 0 0 53, am_nop, am_nop, o_push (.int 60) 55, am_nop, o_binS (fun x y => x - x / y * y) 56, o_bin (fun x y => x + y) 57, o_istore 5 59, am_nop, o_aload 0 60, o_iload 3 61, o_iload 4 63, am_nop, o_iload 5 65],
  [am_nop, o_aload 0 66, o_cv 8 38 136 1 0 0 69, am_nop, am_nop, o_push (.int 8) 71, am_nop, o_binS (fun x y => x - x / y * y) 72, o_cv 8 38 125 5 2 4 75, am_nop, am_nop, o_istore 6 77, am_nop, o_iinc 2 1 80, am_nop, am_nop],
  [o_goto 15, am_nop, am_nop, o_iload 2 84, o_iret, am_nop, am_nop, am_nop, am_nop, am_nop, am_nop, am_nop, am_nop, am_nop, am_nop, am_nop]]
theorem rX8_deal_0 : am_allR (fun pc o => am_ok am_tb0 cX8_deal RX8 7 (some .int) false pc o ∧ am_mo o) 0 (am_nth [] tX8_deal 0) :=
  And.intro ⟨ok_iload_n dX8_deal_0 rfl rfl, mo_iload⟩ (
  And.intro ⟨ok_iconst dX8_deal_1 rfl ic_1, mo_push⟩ (
  And.intro ⟨ok_bipush dX8_deal_2 rfl bi_10, mo_push⟩ (
  And.intro ⟨ok_nop, mo_nop⟩ (
  And.intro ⟨ok_cs (z := 113) dX8_deal_4 wd_1012 wd_1013 wd_8 wd_1014 rfl (by decide) hy_X8_in rfl, mo_cs⟩ (
  And.intro ⟨ok_nop, mo_nop⟩ (
  And.intro ⟨ok_nop, mo_nop⟩ (
  And.intro ⟨ok_if_ne dX8_deal_7 (by decide) rfl, mo_if⟩ (
  And.intro ⟨ok_nop, mo_nop⟩ (
  And.intro ⟨ok_nop, mo_nop⟩ (
  And.intro ⟨ok_ldc dX8_deal_10 rfl wd_1021, mo_push⟩ (
  And.intro ⟨ok_nop, mo_nop⟩ (
  And.intro ⟨ok_iret dX8_deal_12 rfl, mo_iret⟩ (
  And.intro ⟨ok_iconst dX8_deal_13 rfl ic_0, mo_push⟩ (
  And.intro ⟨ok_istore_n dX8_deal_14 rfl (by decide) rfl, mo_istore⟩ (
  And.intro ⟨ok_iload_n dX8_deal_15 rfl rfl, mo_iload⟩ (
  trivial))))))))))))))))
theorem rX8_deal_1 : am_allR (fun pc o => am_ok am_tb0 cX8_deal RX8 7 (some .int) false pc o ∧ am_mo o) 16 (am_nth [] tX8_deal 1) :=
  And.intro ⟨ok_iload_n dX8_deal_16 rfl rfl, mo_iload⟩ (
  And.intro ⟨ok_icmp_ge dX8_deal_17 (by decide) rfl, mo_icmp⟩ (
  And.intro ⟨ok_nop, mo_nop⟩ (
  And.intro ⟨ok_nop, mo_nop⟩ (
  And.intro ⟨ok_aload_n dX8_deal_20 rfl rfl, mo_aload⟩ (
  And.intro ⟨ok_getR dX8_deal_21 hclX8 inWX8 (by decide) (by decide) wd_891 (fun _ _ _ => rfl) rfl, mo_getR⟩ (
  And.intro ⟨ok_nop, mo_nop⟩ (
  And.intro ⟨ok_nop, mo_nop⟩ (
  And.intro ⟨ok_iconst dX8_deal_24 rfl ic_1, mo_push⟩ (
  And.intro ⟨ok_iald dX8_deal_25 rfl, mo_iald⟩ (
  And.intro ⟨ok_bipush dX8_deal_26 rfl bi_10, mo_push⟩ (
  And.intro ⟨ok_nop, mo_nop⟩ (
  And.intro ⟨ok_icmp_ge dX8_deal_28 (by decide) rfl, mo_icmp⟩ (
  And.intro ⟨ok_nop, mo_nop⟩ (
  And.intro ⟨ok_nop, mo_nop⟩ (
  And.intro ⟨ok_aload_n dX8_deal_31 rfl rfl, mo_aload⟩ (
  trivial))))))))))))))))
theorem rX8_deal_2 : am_allR (fun pc o => am_ok am_tb0 cX8_deal RX8 7 (some .int) false pc o ∧ am_mo o) 32 (am_nth [] tX8_deal 2) :=
  And.intro ⟨ok_cv (z := 136) dX8_deal_32 hclX8 (by decide) wd_1101 wd_1103 wp_27 wd_8 wd_1104 rfl (by decide) ⟨rfl, hy_X8_draw⟩ rfl, mo_cv⟩ (
  And.intro ⟨ok_nop, mo_nop⟩ (
  And.intro ⟨ok_nop, mo_nop⟩ (
  And.intro ⟨ok_bipush dX8_deal_35 rfl bi_6, mo_push⟩ (
  And.intro ⟨ok_nop, mo_nop⟩ (
  And.intro ⟨ok_irem dX8_deal_37 rfl, mo_binS⟩ (
  And.intro ⟨ok_istore_n dX8_deal_38 rfl (by decide) rfl, mo_istore⟩ (
  And.intro ⟨ok_aload_n dX8_deal_39 rfl rfl, mo_aload⟩ (
  And.intro ⟨ok_cv (z := 136) dX8_deal_40 hclX8 (by decide) wd_1101 wd_1103 wp_27 wd_8 wd_1104 rfl (by decide) ⟨rfl, hy_X8_draw⟩ rfl, mo_cv⟩ (
  And.intro ⟨ok_nop, mo_nop⟩ (
  And.intro ⟨ok_nop, mo_nop⟩ (
  And.intro ⟨ok_bipush dX8_deal_43 rfl bi_30, mo_push⟩ (
  And.intro ⟨ok_nop, mo_nop⟩ (
  And.intro ⟨ok_irem dX8_deal_45 rfl, mo_binS⟩ (
  And.intro ⟨ok_istore dX8_deal_46 (by decide) rfl, mo_istore⟩ (
  And.intro ⟨ok_nop, mo_nop⟩ (
  trivial))))))))))))))))
theorem rX8_deal_3 : am_allR (fun pc o => am_ok am_tb0 cX8_deal RX8 7 (some .int) false pc o ∧ am_mo o) 48 (am_nth [] tX8_deal 3) :=
  And.intro ⟨ok_iconst dX8_deal_48 rfl ic_1, mo_push⟩ (
  And.intro ⟨ok_aload_n dX8_deal_49 rfl rfl, mo_aload⟩ (
  And.intro ⟨ok_cv (z := 136) dX8_deal_50 hclX8 (by decide) wd_1101 wd_1103 wp_27 wd_8 wd_1104 rfl (by decide) ⟨rfl, hy_X8_draw⟩ rfl, mo_cv⟩ (
  And.intro ⟨ok_nop, mo_nop⟩ (
  And.intro ⟨ok_nop, mo_nop⟩ (
  And.intro ⟨ok_bipush dX8_deal_53 rfl bi_60, mo_push⟩ (
  And.intro ⟨ok_nop, mo_nop⟩ (
  And.intro ⟨ok_irem dX8_deal_55 rfl, mo_binS⟩ (
  And.intro ⟨ok_iadd dX8_deal_56 rfl, mo_bin⟩ (
  And.intro ⟨ok_istore dX8_deal_57 (by decide) rfl, mo_istore⟩ (
  And.intro ⟨ok_nop, mo_nop⟩ (
  And.intro ⟨ok_aload_n dX8_deal_59 rfl rfl, mo_aload⟩ (
  And.intro ⟨ok_iload_n dX8_deal_60 rfl rfl, mo_iload⟩ (
  And.intro ⟨ok_iload dX8_deal_61 rfl, mo_iload⟩ (
  And.intro ⟨ok_nop, mo_nop⟩ (
  And.intro ⟨ok_iload dX8_deal_63 rfl, mo_iload⟩ (
  trivial))))))))))))))))
theorem rX8_deal_4 : am_allR (fun pc o => am_ok am_tb0 cX8_deal RX8 7 (some .int) false pc o ∧ am_mo o) 64 (am_nth [] tX8_deal 4) :=
  And.intro ⟨ok_nop, mo_nop⟩ (
  And.intro ⟨ok_aload_n dX8_deal_65 rfl rfl, mo_aload⟩ (
  And.intro ⟨ok_cv (z := 136) dX8_deal_66 hclX8 (by decide) wd_1101 wd_1103 wp_27 wd_8 wd_1104 rfl (by decide) ⟨rfl, hy_X8_draw⟩ rfl, mo_cv⟩ (
  And.intro ⟨ok_nop, mo_nop⟩ (
  And.intro ⟨ok_nop, mo_nop⟩ (
  And.intro ⟨ok_bipush dX8_deal_69 rfl bi_8, mo_push⟩ (
  And.intro ⟨ok_nop, mo_nop⟩ (
  And.intro ⟨ok_irem dX8_deal_71 rfl, mo_binS⟩ (
  And.intro ⟨ok_cv (z := 125) dX8_deal_72 hclX8 (by decide) wd_1023 wd_1025 wp_17 wd_8 wd_1026 rfl (by decide) ⟨rfl, hy_X8_comes⟩ rfl, mo_cv⟩ (
  And.intro ⟨ok_nop, mo_nop⟩ (
  And.intro ⟨ok_nop, mo_nop⟩ (
  And.intro ⟨ok_istore dX8_deal_75 (by decide) rfl, mo_istore⟩ (
  And.intro ⟨ok_nop, mo_nop⟩ (
  And.intro ⟨ok_iinc dX8_deal_77 ic_1 (by decide) rfl, mo_iinc⟩ (
  And.intro ⟨ok_nop, mo_nop⟩ (
  And.intro ⟨ok_nop, mo_nop⟩ (
  trivial))))))))))))))))
theorem rX8_deal_5 : am_allR (fun pc o => am_ok am_tb0 cX8_deal RX8 7 (some .int) false pc o ∧ am_mo o) 80 (am_nth [] tX8_deal 5) :=
  And.intro ⟨ok_goto dX8_deal_80 (by decide), mo_goto⟩ (
  And.intro ⟨ok_nop, mo_nop⟩ (
  And.intro ⟨ok_nop, mo_nop⟩ (
  And.intro ⟨ok_iload_n dX8_deal_83 rfl rfl, mo_iload⟩ (
  And.intro ⟨ok_iret dX8_deal_84 rfl, mo_iret⟩ (
  And.intro ⟨ok_nop, mo_nop⟩ (
  And.intro ⟨ok_nop, mo_nop⟩ (
  And.intro ⟨ok_nop, mo_nop⟩ (
  And.intro ⟨ok_nop, mo_nop⟩ (
  And.intro ⟨ok_nop, mo_nop⟩ (
  And.intro ⟨ok_nop, mo_nop⟩ (
  And.intro ⟨ok_nop, mo_nop⟩ (
  And.intro ⟨ok_nop, mo_nop⟩ (
  And.intro ⟨ok_nop, mo_nop⟩ (
  And.intro ⟨ok_nop, mo_nop⟩ (
  And.intro ⟨ok_nop, mo_nop⟩ (
  trivial))))))))))))))))
theorem kX8_deal : am_M1 am_tb0 cX8_deal RX8 7 (some .int) false tX8_deal := And.intro rX8_deal_0 (And.intro rX8_deal_1 (And.intro rX8_deal_2 (And.intro rX8_deal_3 (And.intro rX8_deal_4 (And.intro rX8_deal_5 (trivial))))))
def tX8_seed : List (List am_Op) := [[o_aload 0 1, o_push (.int 0) 2, o_iload 1 3, o_cv 8 38 123 4 0 2 6, am_nop, am_nop, o_iret]]
theorem rX8_seed_0 : am_allR (fun pc o => am_ok am_tb0 cX8_seed RX8 2 (some .int) false pc o ∧ am_mo o) 0 (am_nth [] tX8_seed 0) :=
  And.intro ⟨ok_aload_n dX8_seed_0 rfl rfl, mo_aload⟩ (
  And.intro ⟨ok_iconst dX8_seed_1 rfl ic_0, mo_push⟩ (
  And.intro ⟨ok_iload_n dX8_seed_2 rfl rfl, mo_iload⟩ (
  And.intro ⟨ok_cv (z := 123) dX8_seed_3 hclX8 (by decide) wd_1063 wd_1065 wp_23 wd_8 wd_1066 rfl (by decide) ⟨rfl, hy_X8_becomes⟩ rfl, mo_cv⟩ (
  And.intro ⟨ok_nop, mo_nop⟩ (
  And.intro ⟨ok_nop, mo_nop⟩ (
  And.intro ⟨ok_iret dX8_seed_6 rfl, mo_iret⟩ (
  trivial)))))))
theorem kX8_seed : am_M1 am_tb0 cX8_seed RX8 2 (some .int) false tX8_seed := And.intro rX8_seed_0 (trivial)
def tX8_earthOf : List (List am_Op) := [[o_iload 1 1, o_aload 0 2, o_getR 8 38 0 5, am_nop, am_nop, o_push (.int 4) 6, o_iald 20 7, o_bin (fun x y => x * y) 8, o_push (.int 100) 10, am_nop, o_binS (fun x y => x / y) 11, o_iret]]
theorem rX8_earthOf_0 : am_allR (fun pc o => am_ok am_tb0 cX8_earthOf RX8 2 (some .int) false pc o ∧ am_mo o) 0 (am_nth [] tX8_earthOf 0) :=
  And.intro ⟨ok_iload_n dX8_earthOf_0 rfl rfl, mo_iload⟩ (
  And.intro ⟨ok_aload_n dX8_earthOf_1 rfl rfl, mo_aload⟩ (
  And.intro ⟨ok_getR dX8_earthOf_2 hclX8 inWX8 (by decide) (by decide) wd_891 (fun _ _ _ => rfl) rfl, mo_getR⟩ (
  And.intro ⟨ok_nop, mo_nop⟩ (
  And.intro ⟨ok_nop, mo_nop⟩ (
  And.intro ⟨ok_iconst dX8_earthOf_5 rfl ic_4, mo_push⟩ (
  And.intro ⟨ok_iald dX8_earthOf_6 rfl, mo_iald⟩ (
  And.intro ⟨ok_imul dX8_earthOf_7 rfl, mo_bin⟩ (
  And.intro ⟨ok_bipush dX8_earthOf_8 rfl bi_100, mo_push⟩ (
  And.intro ⟨ok_nop, mo_nop⟩ (
  And.intro ⟨ok_idiv dX8_earthOf_10 rfl, mo_binS⟩ (
  And.intro ⟨ok_iret dX8_earthOf_11 rfl, mo_iret⟩ (
  trivial))))))))))))
theorem kX8_earthOf : am_M1 am_tb0 cX8_earthOf RX8 2 (some .int) false tX8_earthOf := And.intro rX8_earthOf_0 (trivial)
def tX8_apart : List (List am_Op) := [[o_aload 0 1, o_iload 1 2, o_push (.int 1) 3, o_cv 8 38 121 3 0 2 6, am_nop, am_nop, o_iload 2 7, o_bin (fun x y => x - y) 8, o_istore 3 9, o_iload 3 10, o_if (fun x => 0 ≤ x) 18 13, am_nop, am_nop, o_iload 3 14, o_un (fun x => -x) 15, o_goto 19],
  [am_nop, am_nop, o_iload 3 19, o_iret, am_nop, am_nop, am_nop, am_nop, am_nop, am_nop, am_nop, am_nop, am_nop, am_nop, am_nop, am_nop]]
theorem rX8_apart_0 : am_allR (fun pc o => am_ok am_tb0 cX8_apart RX8 4 (some .int) false pc o ∧ am_mo o) 0 (am_nth [] tX8_apart 0) :=
  And.intro ⟨ok_aload_n dX8_apart_0 rfl rfl, mo_aload⟩ (
  And.intro ⟨ok_iload_n dX8_apart_1 rfl rfl, mo_iload⟩ (
  And.intro ⟨ok_iconst dX8_apart_2 rfl ic_1, mo_push⟩ (
  And.intro ⟨ok_cv (z := 121) dX8_apart_3 hclX8 (by decide) wd_1043 wd_1045 wp_21 wd_8 wd_1046 rfl (by decide) ⟨rfl, hy_X8_of⟩ rfl, mo_cv⟩ (
  And.intro ⟨ok_nop, mo_nop⟩ (
  And.intro ⟨ok_nop, mo_nop⟩ (
  And.intro ⟨ok_iload_n dX8_apart_6 rfl rfl, mo_iload⟩ (
  And.intro ⟨ok_isub dX8_apart_7 rfl, mo_bin⟩ (
  And.intro ⟨ok_istore_n dX8_apart_8 rfl (by decide) rfl, mo_istore⟩ (
  And.intro ⟨ok_iload_n dX8_apart_9 rfl rfl, mo_iload⟩ (
  And.intro ⟨ok_if_ge dX8_apart_10 (by decide) rfl, mo_if⟩ (
  And.intro ⟨ok_nop, mo_nop⟩ (
  And.intro ⟨ok_nop, mo_nop⟩ (
  And.intro ⟨ok_iload_n dX8_apart_13 rfl rfl, mo_iload⟩ (
  And.intro ⟨ok_ineg dX8_apart_14 rfl, mo_un⟩ (
  And.intro ⟨ok_goto dX8_apart_15 (by decide), mo_goto⟩ (
  trivial))))))))))))))))
theorem rX8_apart_1 : am_allR (fun pc o => am_ok am_tb0 cX8_apart RX8 4 (some .int) false pc o ∧ am_mo o) 16 (am_nth [] tX8_apart 1) :=
  And.intro ⟨ok_nop, mo_nop⟩ (
  And.intro ⟨ok_nop, mo_nop⟩ (
  And.intro ⟨ok_iload_n dX8_apart_18 rfl rfl, mo_iload⟩ (
  And.intro ⟨ok_iret dX8_apart_19 rfl, mo_iret⟩ (
  And.intro ⟨ok_nop, mo_nop⟩ (
  And.intro ⟨ok_nop, mo_nop⟩ (
  And.intro ⟨ok_nop, mo_nop⟩ (
  And.intro ⟨ok_nop, mo_nop⟩ (
  And.intro ⟨ok_nop, mo_nop⟩ (
  And.intro ⟨ok_nop, mo_nop⟩ (
  And.intro ⟨ok_nop, mo_nop⟩ (
  And.intro ⟨ok_nop, mo_nop⟩ (
  And.intro ⟨ok_nop, mo_nop⟩ (
  And.intro ⟨ok_nop, mo_nop⟩ (
  And.intro ⟨ok_nop, mo_nop⟩ (
  And.intro ⟨ok_nop, mo_nop⟩ (
  trivial))))))))))))))))
theorem kX8_apart : am_M1 am_tb0 cX8_apart RX8 4 (some .int) false tX8_apart := And.intro rX8_apart_0 (And.intro rX8_apart_1 (trivial))
def tX8_lawOf : List (List am_Op) := [[o_aload 0 1, o_push (.int 0) 2, o_cv 8 38 185 3 0 1 5, am_nop, am_nop, o_istore 2 6, o_aload 0 7, o_getR 8 38 27 10, am_nop, am_nop, o_push (.int 0) 11, o_aload 0 12, o_iload 1 13, o_push (.int 2) 14, o_cv 8 38 121 3 0 2 17, am_nop],
  [am_nop, o_iast 18, o_aload 0 19, o_getR 8 38 27 22, am_nop, am_nop, o_push (.int 1) 23, o_aload 0 24, o_iload 1 25, o_push (.int 3) 26, o_cv 8 38 121 3 0 2 29, am_nop, am_nop, o_iast 30, o_iload 2 31, o_if (fun x => 0 ≤ x) 38 34],
  [am_nop, am_nop, o_push (.int 3) 35, o_goto 49, am_nop, am_nop, o_aload 0 39, o_iload 2 40, o_cv 8 38 188 6 1 1 43, am_nop, am_nop, o_push (.int 0) 44, o_push (.int 99) 46, am_nop, o_cs 114 3 0 3 49, am_nop],
  [am_nop, o_iret, am_nop, am_nop, am_nop, am_nop, am_nop, am_nop, am_nop, am_nop, am_nop, am_nop, am_nop, am_nop, am_nop, am_nop]]
theorem rX8_lawOf_0 : am_allR (fun pc o => am_ok am_tb0 cX8_lawOf RX8 3 (some .int) false pc o ∧ am_mo o) 0 (am_nth [] tX8_lawOf 0) :=
  And.intro ⟨ok_aload_n dX8_lawOf_0 rfl rfl, mo_aload⟩ (
  And.intro ⟨ok_iconst dX8_lawOf_1 rfl ic_0, mo_push⟩ (
  And.intro ⟨ok_cv (z := 185) dX8_lawOf_2 hclX8 (by decide) wd_1079 wd_1081 wp_25 wd_8 wd_1082 rfl (by decide) ⟨rfl, hy_X8_counts⟩ rfl, mo_cv⟩ (
  And.intro ⟨ok_nop, mo_nop⟩ (
  And.intro ⟨ok_nop, mo_nop⟩ (
  And.intro ⟨ok_istore_n dX8_lawOf_5 rfl (by decide) rfl, mo_istore⟩ (
  And.intro ⟨ok_aload_n dX8_lawOf_6 rfl rfl, mo_aload⟩ (
  And.intro ⟨ok_getR dX8_lawOf_7 hclX8 inWX8 (by decide) (by decide) wd_918 (fun _ _ _ => rfl) rfl, mo_getR⟩ (
  And.intro ⟨ok_nop, mo_nop⟩ (
  And.intro ⟨ok_nop, mo_nop⟩ (
  And.intro ⟨ok_iconst dX8_lawOf_10 rfl ic_0, mo_push⟩ (
  And.intro ⟨ok_aload_n dX8_lawOf_11 rfl rfl, mo_aload⟩ (
  And.intro ⟨ok_iload_n dX8_lawOf_12 rfl rfl, mo_iload⟩ (
  And.intro ⟨ok_iconst dX8_lawOf_13 rfl ic_2, mo_push⟩ (
  And.intro ⟨ok_cv (z := 121) dX8_lawOf_14 hclX8 (by decide) wd_1043 wd_1045 wp_21 wd_8 wd_1046 rfl (by decide) ⟨rfl, hy_X8_of⟩ rfl, mo_cv⟩ (
  And.intro ⟨ok_nop, mo_nop⟩ (
  trivial))))))))))))))))
theorem rX8_lawOf_1 : am_allR (fun pc o => am_ok am_tb0 cX8_lawOf RX8 3 (some .int) false pc o ∧ am_mo o) 16 (am_nth [] tX8_lawOf 1) :=
  And.intro ⟨ok_nop, mo_nop⟩ (
  And.intro ⟨ok_iast dX8_lawOf_17 rfl, mo_iast⟩ (
  And.intro ⟨ok_aload_n dX8_lawOf_18 rfl rfl, mo_aload⟩ (
  And.intro ⟨ok_getR dX8_lawOf_19 hclX8 inWX8 (by decide) (by decide) wd_918 (fun _ _ _ => rfl) rfl, mo_getR⟩ (
  And.intro ⟨ok_nop, mo_nop⟩ (
  And.intro ⟨ok_nop, mo_nop⟩ (
  And.intro ⟨ok_iconst dX8_lawOf_22 rfl ic_1, mo_push⟩ (
  And.intro ⟨ok_aload_n dX8_lawOf_23 rfl rfl, mo_aload⟩ (
  And.intro ⟨ok_iload_n dX8_lawOf_24 rfl rfl, mo_iload⟩ (
  And.intro ⟨ok_iconst dX8_lawOf_25 rfl ic_3, mo_push⟩ (
  And.intro ⟨ok_cv (z := 121) dX8_lawOf_26 hclX8 (by decide) wd_1043 wd_1045 wp_21 wd_8 wd_1046 rfl (by decide) ⟨rfl, hy_X8_of⟩ rfl, mo_cv⟩ (
  And.intro ⟨ok_nop, mo_nop⟩ (
  And.intro ⟨ok_nop, mo_nop⟩ (
  And.intro ⟨ok_iast dX8_lawOf_29 rfl, mo_iast⟩ (
  And.intro ⟨ok_iload_n dX8_lawOf_30 rfl rfl, mo_iload⟩ (
  And.intro ⟨ok_if_ge dX8_lawOf_31 (by decide) rfl, mo_if⟩ (
  trivial))))))))))))))))
theorem rX8_lawOf_2 : am_allR (fun pc o => am_ok am_tb0 cX8_lawOf RX8 3 (some .int) false pc o ∧ am_mo o) 32 (am_nth [] tX8_lawOf 2) :=
  And.intro ⟨ok_nop, mo_nop⟩ (
  And.intro ⟨ok_nop, mo_nop⟩ (
  And.intro ⟨ok_iconst dX8_lawOf_34 rfl ic_3, mo_push⟩ (
  And.intro ⟨ok_goto dX8_lawOf_35 (by decide), mo_goto⟩ (
  And.intro ⟨ok_nop, mo_nop⟩ (
  And.intro ⟨ok_nop, mo_nop⟩ (
  And.intro ⟨ok_aload_n dX8_lawOf_38 rfl rfl, mo_aload⟩ (
  And.intro ⟨ok_iload_n dX8_lawOf_39 rfl rfl, mo_iload⟩ (
  And.intro ⟨ok_cv (z := 188) dX8_lawOf_40 hclX8 (by decide) wd_1083 wd_1085 wp_26 wd_8 wd_1086 rfl (by decide) ⟨rfl, hy_X8_worksOut⟩ rfl, mo_cv⟩ (
  And.intro ⟨ok_nop, mo_nop⟩ (
  And.intro ⟨ok_nop, mo_nop⟩ (
  And.intro ⟨ok_iconst dX8_lawOf_43 rfl ic_0, mo_push⟩ (
  And.intro ⟨ok_bipush dX8_lawOf_44 rfl bi_99, mo_push⟩ (
  And.intro ⟨ok_nop, mo_nop⟩ (
  And.intro ⟨ok_cs (z := 114) dX8_lawOf_46 wd_1090 wd_1091 wd_8 wd_1092 rfl (by decide) hy_X8_within rfl, mo_cs⟩ (
  And.intro ⟨ok_nop, mo_nop⟩ (
  trivial))))))))))))))))
theorem rX8_lawOf_3 : am_allR (fun pc o => am_ok am_tb0 cX8_lawOf RX8 3 (some .int) false pc o ∧ am_mo o) 48 (am_nth [] tX8_lawOf 3) :=
  And.intro ⟨ok_nop, mo_nop⟩ (
  And.intro ⟨ok_iret dX8_lawOf_49 rfl, mo_iret⟩ (
  And.intro ⟨ok_nop, mo_nop⟩ (
  And.intro ⟨ok_nop, mo_nop⟩ (
  And.intro ⟨ok_nop, mo_nop⟩ (
  And.intro ⟨ok_nop, mo_nop⟩ (
  And.intro ⟨ok_nop, mo_nop⟩ (
  And.intro ⟨ok_nop, mo_nop⟩ (
  And.intro ⟨ok_nop, mo_nop⟩ (
  And.intro ⟨ok_nop, mo_nop⟩ (
  And.intro ⟨ok_nop, mo_nop⟩ (
  And.intro ⟨ok_nop, mo_nop⟩ (
  And.intro ⟨ok_nop, mo_nop⟩ (
  And.intro ⟨ok_nop, mo_nop⟩ (
  And.intro ⟨ok_nop, mo_nop⟩ (
  And.intro ⟨ok_nop, mo_nop⟩ (
  trivial))))))))))))))))
theorem kX8_lawOf : am_M1 am_tb0 cX8_lawOf RX8 3 (some .int) false tX8_lawOf := And.intro rX8_lawOf_0 (And.intro rX8_lawOf_1 (And.intro rX8_lawOf_2 (And.intro rX8_lawOf_3 (trivial))))
def tX8_doesTake : List (List am_Op) := [[o_iload 2 1, o_aload 0 2, o_iload 1 3, o_push (.int 2) 4, o_cv 8 38 121 3 0 2 7, am_nop, am_nop, o_icmp (fun x y => y < x) 14 10, am_nop, am_nop, o_push (.int 1) 11, o_goto 15, am_nop, am_nop, o_push (.int 0) 15, o_istore 4 17],
  [am_nop, o_iload 4 19, am_nop, o_if (fun x => x = 0) 41 22, am_nop, am_nop, o_aload 0 23, o_iload 1 24, o_iload 3 25, o_cv 8 38 140 4 1 2 28, am_nop, am_nop, o_aload 0 29, o_getR 8 38 0 32, am_nop, am_nop],
  [o_push (.int 3) 33, o_iald 20 34, o_icmp (fun x y => y < x) 41 37, am_nop, am_nop, o_push (.int 1) 38, o_goto 42, am_nop, am_nop, o_push (.int 0) 42, o_istore 5 44, am_nop, o_aload 0 45, o_iload 1 46, o_push (.int 0) 47, o_cv 8 38 121 3 0 2 50],
  [am_nop, am_nop, o_sw [(1, 84), (2, 109), (3, 126), (4, 161), (5, 192)] 195, am_nop, am_nop, am_nop, am_nop, am_nop, am_nop, am_nop, am_nop, am_nop, am_nop, am_nop, am_nop, am_nop],
  [am_nop, am_nop, am_nop, am_nop, am_nop, am_nop, am_nop, am_nop, am_nop, am_nop, am_nop, am_nop, am_nop, am_nop, am_nop, am_nop],
  [am_nop, am_nop, am_nop, am_nop, o_iload 5 86, am_nop, o_if (fun x => x = 0) 107 89, am_nop, am_nop, o_aload 0 90, o_iload 1 91, o_push (.int 4) 92, o_cv 8 38 121 3 0 2 95, am_nop, am_nop, o_aload 0 96],
  [o_iload 1 97, o_cv 8 38 141 3 2 1 100, am_nop, am_nop, o_icmp (fun x y => x < y) 107 103, am_nop, am_nop, o_push (.int 1) 104, o_goto 108, am_nop, am_nop, o_push (.int 0) 108, o_nret .boolean, o_iload 5 111, am_nop, o_if (fun x => x = 0) 124 114],
  [am_nop, am_nop, o_iload 2 115, o_push (.int 2) 116, o_binS (fun x y => x - x / y * y) 117, o_if (fun x => ¬ x = 0) 124 120, am_nop, am_nop, o_push (.int 1) 121, o_goto 125, am_nop, am_nop, o_push (.int 0) 125, o_nret .boolean, o_iload 5 128, am_nop],
  [o_if (fun x => x = 0) 159 131, am_nop, am_nop, o_aload 0 132, o_iload 1 133, o_push (.int 4) 134, o_cv 8 38 121 3 0 2 137, am_nop, am_nop, o_aload 0 138, o_iload 1 139, o_cv 8 38 141 3 2 1 142, am_nop, am_nop, o_icmp (fun x y => x < y) 159 145, am_nop],
  [am_nop, o_iload 2 146, o_aload 0 147, o_iload 1 148, o_push (.int 2) 149, o_cv 8 38 121 3 0 2 152, am_nop, am_nop, o_icmp (fun x y => ¬ x = y) 159 155, am_nop, am_nop, o_push (.int 1) 156, o_goto 160, am_nop, am_nop, o_push (.int 0) 160],
  [o_nret .boolean, o_iload 5 163, am_nop, o_if (fun x => x = 0) 172 166, am_nop, am_nop, o_iload 2 167, o_push (.int 2) 168, o_binS (fun x y => x - x / y * y) 169, o_if (fun x => x = 0) 186 172, am_nop, am_nop, o_iload 4 174, am_nop, o_if (fun x => x = 0) 190 177, am_nop],
  [am_nop, o_aload 0 178, o_iload 1 179, o_iload 3 180, o_cv 8 38 140 4 1 2 183, am_nop, am_nop, o_if (fun x => ¬ x = 0) 190 186, am_nop, am_nop, o_push (.int 1) 187, o_goto 191, am_nop, am_nop, o_push (.int 0) 191, o_nret .boolean],
  [o_iload 4 194, am_nop, o_nret .boolean, o_iload 5 197, am_nop, o_nret .boolean, am_nop, am_nop, am_nop, am_nop, am_nop, am_nop, am_nop, am_nop, am_nop, am_nop]]
theorem rX8_doesTake_0 : am_allR (fun pc o => am_ok am_tb0 cX8_doesTake RX8 6 (some .boolean) false pc o ∧ am_mo o) 0 (am_nth [] tX8_doesTake 0) :=
  And.intro ⟨ok_iload_n dX8_doesTake_0 rfl rfl, mo_iload⟩ (
  And.intro ⟨ok_aload_n dX8_doesTake_1 rfl rfl, mo_aload⟩ (
  And.intro ⟨ok_iload_n dX8_doesTake_2 rfl rfl, mo_iload⟩ (
  And.intro ⟨ok_iconst dX8_doesTake_3 rfl ic_2, mo_push⟩ (
  And.intro ⟨ok_cv (z := 121) dX8_doesTake_4 hclX8 (by decide) wd_1043 wd_1045 wp_21 wd_8 wd_1046 rfl (by decide) ⟨rfl, hy_X8_of⟩ rfl, mo_cv⟩ (
  And.intro ⟨ok_nop, mo_nop⟩ (
  And.intro ⟨ok_nop, mo_nop⟩ (
  And.intro ⟨ok_icmp_gt dX8_doesTake_7 (by decide) rfl, mo_icmp⟩ (
  And.intro ⟨ok_nop, mo_nop⟩ (
  And.intro ⟨ok_nop, mo_nop⟩ (
  And.intro ⟨ok_iconst dX8_doesTake_10 rfl ic_1, mo_push⟩ (
  And.intro ⟨ok_goto dX8_doesTake_11 (by decide), mo_goto⟩ (
  And.intro ⟨ok_nop, mo_nop⟩ (
  And.intro ⟨ok_nop, mo_nop⟩ (
  And.intro ⟨ok_iconst dX8_doesTake_14 rfl ic_0, mo_push⟩ (
  And.intro ⟨ok_istore dX8_doesTake_15 (by decide) rfl, mo_istore⟩ (
  trivial))))))))))))))))
theorem rX8_doesTake_1 : am_allR (fun pc o => am_ok am_tb0 cX8_doesTake RX8 6 (some .boolean) false pc o ∧ am_mo o) 16 (am_nth [] tX8_doesTake 1) :=
  And.intro ⟨ok_nop, mo_nop⟩ (
  And.intro ⟨ok_iload dX8_doesTake_17 rfl, mo_iload⟩ (
  And.intro ⟨ok_nop, mo_nop⟩ (
  And.intro ⟨ok_if_eq dX8_doesTake_19 (by decide) rfl, mo_if⟩ (
  And.intro ⟨ok_nop, mo_nop⟩ (
  And.intro ⟨ok_nop, mo_nop⟩ (
  And.intro ⟨ok_aload_n dX8_doesTake_22 rfl rfl, mo_aload⟩ (
  And.intro ⟨ok_iload_n dX8_doesTake_23 rfl rfl, mo_iload⟩ (
  And.intro ⟨ok_iload_n dX8_doesTake_24 rfl rfl, mo_iload⟩ (
  And.intro ⟨ok_cv (z := 140) dX8_doesTake_25 hclX8 (by decide) wd_1125 wd_1127 wp_30 wd_8 wd_1128 rfl (by decide) ⟨rfl, hy_X8_apart⟩ rfl, mo_cv⟩ (
  And.intro ⟨ok_nop, mo_nop⟩ (
  And.intro ⟨ok_nop, mo_nop⟩ (
  And.intro ⟨ok_aload_n dX8_doesTake_28 rfl rfl, mo_aload⟩ (
  And.intro ⟨ok_getR dX8_doesTake_29 hclX8 inWX8 (by decide) (by decide) wd_891 (fun _ _ _ => rfl) rfl, mo_getR⟩ (
  And.intro ⟨ok_nop, mo_nop⟩ (
  And.intro ⟨ok_nop, mo_nop⟩ (
  trivial))))))))))))))))
theorem rX8_doesTake_2 : am_allR (fun pc o => am_ok am_tb0 cX8_doesTake RX8 6 (some .boolean) false pc o ∧ am_mo o) 32 (am_nth [] tX8_doesTake 2) :=
  And.intro ⟨ok_iconst dX8_doesTake_32 rfl ic_3, mo_push⟩ (
  And.intro ⟨ok_iald dX8_doesTake_33 rfl, mo_iald⟩ (
  And.intro ⟨ok_icmp_gt dX8_doesTake_34 (by decide) rfl, mo_icmp⟩ (
  And.intro ⟨ok_nop, mo_nop⟩ (
  And.intro ⟨ok_nop, mo_nop⟩ (
  And.intro ⟨ok_iconst dX8_doesTake_37 rfl ic_1, mo_push⟩ (
  And.intro ⟨ok_goto dX8_doesTake_38 (by decide), mo_goto⟩ (
  And.intro ⟨ok_nop, mo_nop⟩ (
  And.intro ⟨ok_nop, mo_nop⟩ (
  And.intro ⟨ok_iconst dX8_doesTake_41 rfl ic_0, mo_push⟩ (
  And.intro ⟨ok_istore dX8_doesTake_42 (by decide) rfl, mo_istore⟩ (
  And.intro ⟨ok_nop, mo_nop⟩ (
  And.intro ⟨ok_aload_n dX8_doesTake_44 rfl rfl, mo_aload⟩ (
  And.intro ⟨ok_iload_n dX8_doesTake_45 rfl rfl, mo_iload⟩ (
  And.intro ⟨ok_iconst dX8_doesTake_46 rfl ic_0, mo_push⟩ (
  And.intro ⟨ok_cv (z := 121) dX8_doesTake_47 hclX8 (by decide) wd_1043 wd_1045 wp_21 wd_8 wd_1046 rfl (by decide) ⟨rfl, hy_X8_of⟩ rfl, mo_cv⟩ (
  trivial))))))))))))))))
theorem rX8_doesTake_3 : am_allR (fun pc o => am_ok am_tb0 cX8_doesTake RX8 6 (some .boolean) false pc o ∧ am_mo o) 48 (am_nth [] tX8_doesTake 3) :=
  And.intro ⟨ok_nop, mo_nop⟩ (
  And.intro ⟨ok_nop, mo_nop⟩ (
  And.intro ⟨ok_table dX8_doesTake_50 (by decide) (by decide +kernel) (by decide +kernel), mo_sw⟩ (
  And.intro ⟨ok_nop, mo_nop⟩ (
  And.intro ⟨ok_nop, mo_nop⟩ (
  And.intro ⟨ok_nop, mo_nop⟩ (
  And.intro ⟨ok_nop, mo_nop⟩ (
  And.intro ⟨ok_nop, mo_nop⟩ (
  And.intro ⟨ok_nop, mo_nop⟩ (
  And.intro ⟨ok_nop, mo_nop⟩ (
  And.intro ⟨ok_nop, mo_nop⟩ (
  And.intro ⟨ok_nop, mo_nop⟩ (
  And.intro ⟨ok_nop, mo_nop⟩ (
  And.intro ⟨ok_nop, mo_nop⟩ (
  And.intro ⟨ok_nop, mo_nop⟩ (
  And.intro ⟨ok_nop, mo_nop⟩ (
  trivial))))))))))))))))
theorem rX8_doesTake_4 : am_allR (fun pc o => am_ok am_tb0 cX8_doesTake RX8 6 (some .boolean) false pc o ∧ am_mo o) 64 (am_nth [] tX8_doesTake 4) :=
  And.intro ⟨ok_nop, mo_nop⟩ (
  And.intro ⟨ok_nop, mo_nop⟩ (
  And.intro ⟨ok_nop, mo_nop⟩ (
  And.intro ⟨ok_nop, mo_nop⟩ (
  And.intro ⟨ok_nop, mo_nop⟩ (
  And.intro ⟨ok_nop, mo_nop⟩ (
  And.intro ⟨ok_nop, mo_nop⟩ (
  And.intro ⟨ok_nop, mo_nop⟩ (
  And.intro ⟨ok_nop, mo_nop⟩ (
  And.intro ⟨ok_nop, mo_nop⟩ (
  And.intro ⟨ok_nop, mo_nop⟩ (
  And.intro ⟨ok_nop, mo_nop⟩ (
  And.intro ⟨ok_nop, mo_nop⟩ (
  And.intro ⟨ok_nop, mo_nop⟩ (
  And.intro ⟨ok_nop, mo_nop⟩ (
  And.intro ⟨ok_nop, mo_nop⟩ (
  trivial))))))))))))))))
theorem rX8_doesTake_5 : am_allR (fun pc o => am_ok am_tb0 cX8_doesTake RX8 6 (some .boolean) false pc o ∧ am_mo o) 80 (am_nth [] tX8_doesTake 5) :=
  And.intro ⟨ok_nop, mo_nop⟩ (
  And.intro ⟨ok_nop, mo_nop⟩ (
  And.intro ⟨ok_nop, mo_nop⟩ (
  And.intro ⟨ok_nop, mo_nop⟩ (
  And.intro ⟨ok_iload dX8_doesTake_84 rfl, mo_iload⟩ (
  And.intro ⟨ok_nop, mo_nop⟩ (
  And.intro ⟨ok_if_eq dX8_doesTake_86 (by decide) rfl, mo_if⟩ (
  And.intro ⟨ok_nop, mo_nop⟩ (
  And.intro ⟨ok_nop, mo_nop⟩ (
  And.intro ⟨ok_aload_n dX8_doesTake_89 rfl rfl, mo_aload⟩ (
  And.intro ⟨ok_iload_n dX8_doesTake_90 rfl rfl, mo_iload⟩ (
  And.intro ⟨ok_iconst dX8_doesTake_91 rfl ic_4, mo_push⟩ (
  And.intro ⟨ok_cv (z := 121) dX8_doesTake_92 hclX8 (by decide) wd_1043 wd_1045 wp_21 wd_8 wd_1046 rfl (by decide) ⟨rfl, hy_X8_of⟩ rfl, mo_cv⟩ (
  And.intro ⟨ok_nop, mo_nop⟩ (
  And.intro ⟨ok_nop, mo_nop⟩ (
  And.intro ⟨ok_aload_n dX8_doesTake_95 rfl rfl, mo_aload⟩ (
  trivial))))))))))))))))
theorem rX8_doesTake_6 : am_allR (fun pc o => am_ok am_tb0 cX8_doesTake RX8 6 (some .boolean) false pc o ∧ am_mo o) 96 (am_nth [] tX8_doesTake 6) :=
  And.intro ⟨ok_iload_n dX8_doesTake_96 rfl rfl, mo_iload⟩ (
  And.intro ⟨ok_cv (z := 141) dX8_doesTake_97 hclX8 (by decide) wd_1129 wd_1131 wp_31 wd_8 wd_1132 rfl (by decide) ⟨rfl, hy_X8_lawOf⟩ rfl, mo_cv⟩ (
  And.intro ⟨ok_nop, mo_nop⟩ (
  And.intro ⟨ok_nop, mo_nop⟩ (
  And.intro ⟨ok_icmp_lt dX8_doesTake_100 (by decide) rfl, mo_icmp⟩ (
  And.intro ⟨ok_nop, mo_nop⟩ (
  And.intro ⟨ok_nop, mo_nop⟩ (
  And.intro ⟨ok_iconst dX8_doesTake_103 rfl ic_1, mo_push⟩ (
  And.intro ⟨ok_goto dX8_doesTake_104 (by decide), mo_goto⟩ (
  And.intro ⟨ok_nop, mo_nop⟩ (
  And.intro ⟨ok_nop, mo_nop⟩ (
  And.intro ⟨ok_iconst dX8_doesTake_107 rfl ic_0, mo_push⟩ (
  And.intro ⟨ok_nret dX8_doesTake_108 rfl, mo_nret⟩ (
  And.intro ⟨ok_iload dX8_doesTake_109 rfl, mo_iload⟩ (
  And.intro ⟨ok_nop, mo_nop⟩ (
  And.intro ⟨ok_if_eq dX8_doesTake_111 (by decide) rfl, mo_if⟩ (
  trivial))))))))))))))))
theorem rX8_doesTake_7 : am_allR (fun pc o => am_ok am_tb0 cX8_doesTake RX8 6 (some .boolean) false pc o ∧ am_mo o) 112 (am_nth [] tX8_doesTake 7) :=
  And.intro ⟨ok_nop, mo_nop⟩ (
  And.intro ⟨ok_nop, mo_nop⟩ (
  And.intro ⟨ok_iload_n dX8_doesTake_114 rfl rfl, mo_iload⟩ (
  And.intro ⟨ok_iconst dX8_doesTake_115 rfl ic_2, mo_push⟩ (
  And.intro ⟨ok_irem dX8_doesTake_116 rfl, mo_binS⟩ (
  And.intro ⟨ok_if_ne dX8_doesTake_117 (by decide) rfl, mo_if⟩ (
  And.intro ⟨ok_nop, mo_nop⟩ (
  And.intro ⟨ok_nop, mo_nop⟩ (
  And.intro ⟨ok_iconst dX8_doesTake_120 rfl ic_1, mo_push⟩ (
  And.intro ⟨ok_goto dX8_doesTake_121 (by decide), mo_goto⟩ (
  And.intro ⟨ok_nop, mo_nop⟩ (
  And.intro ⟨ok_nop, mo_nop⟩ (
  And.intro ⟨ok_iconst dX8_doesTake_124 rfl ic_0, mo_push⟩ (
  And.intro ⟨ok_nret dX8_doesTake_125 rfl, mo_nret⟩ (
  And.intro ⟨ok_iload dX8_doesTake_126 rfl, mo_iload⟩ (
  And.intro ⟨ok_nop, mo_nop⟩ (
  trivial))))))))))))))))
theorem rX8_doesTake_8 : am_allR (fun pc o => am_ok am_tb0 cX8_doesTake RX8 6 (some .boolean) false pc o ∧ am_mo o) 128 (am_nth [] tX8_doesTake 8) :=
  And.intro ⟨ok_if_eq dX8_doesTake_128 (by decide) rfl, mo_if⟩ (
  And.intro ⟨ok_nop, mo_nop⟩ (
  And.intro ⟨ok_nop, mo_nop⟩ (
  And.intro ⟨ok_aload_n dX8_doesTake_131 rfl rfl, mo_aload⟩ (
  And.intro ⟨ok_iload_n dX8_doesTake_132 rfl rfl, mo_iload⟩ (
  And.intro ⟨ok_iconst dX8_doesTake_133 rfl ic_4, mo_push⟩ (
  And.intro ⟨ok_cv (z := 121) dX8_doesTake_134 hclX8 (by decide) wd_1043 wd_1045 wp_21 wd_8 wd_1046 rfl (by decide) ⟨rfl, hy_X8_of⟩ rfl, mo_cv⟩ (
  And.intro ⟨ok_nop, mo_nop⟩ (
  And.intro ⟨ok_nop, mo_nop⟩ (
  And.intro ⟨ok_aload_n dX8_doesTake_137 rfl rfl, mo_aload⟩ (
  And.intro ⟨ok_iload_n dX8_doesTake_138 rfl rfl, mo_iload⟩ (
  And.intro ⟨ok_cv (z := 141) dX8_doesTake_139 hclX8 (by decide) wd_1129 wd_1131 wp_31 wd_8 wd_1132 rfl (by decide) ⟨rfl, hy_X8_lawOf⟩ rfl, mo_cv⟩ (
  And.intro ⟨ok_nop, mo_nop⟩ (
  And.intro ⟨ok_nop, mo_nop⟩ (
  And.intro ⟨ok_icmp_lt dX8_doesTake_142 (by decide) rfl, mo_icmp⟩ (
  And.intro ⟨ok_nop, mo_nop⟩ (
  trivial))))))))))))))))
theorem rX8_doesTake_9 : am_allR (fun pc o => am_ok am_tb0 cX8_doesTake RX8 6 (some .boolean) false pc o ∧ am_mo o) 144 (am_nth [] tX8_doesTake 9) :=
  And.intro ⟨ok_nop, mo_nop⟩ (
  And.intro ⟨ok_iload_n dX8_doesTake_145 rfl rfl, mo_iload⟩ (
  And.intro ⟨ok_aload_n dX8_doesTake_146 rfl rfl, mo_aload⟩ (
  And.intro ⟨ok_iload_n dX8_doesTake_147 rfl rfl, mo_iload⟩ (
  And.intro ⟨ok_iconst dX8_doesTake_148 rfl ic_2, mo_push⟩ (
  And.intro ⟨ok_cv (z := 121) dX8_doesTake_149 hclX8 (by decide) wd_1043 wd_1045 wp_21 wd_8 wd_1046 rfl (by decide) ⟨rfl, hy_X8_of⟩ rfl, mo_cv⟩ (
  And.intro ⟨ok_nop, mo_nop⟩ (
  And.intro ⟨ok_nop, mo_nop⟩ (
  And.intro ⟨ok_icmp_ne dX8_doesTake_152 (by decide) rfl, mo_icmp⟩ (
  And.intro ⟨ok_nop, mo_nop⟩ (
  And.intro ⟨ok_nop, mo_nop⟩ (
  And.intro ⟨ok_iconst dX8_doesTake_155 rfl ic_1, mo_push⟩ (
  And.intro ⟨ok_goto dX8_doesTake_156 (by decide), mo_goto⟩ (
  And.intro ⟨ok_nop, mo_nop⟩ (
  And.intro ⟨ok_nop, mo_nop⟩ (
  And.intro ⟨ok_iconst dX8_doesTake_159 rfl ic_0, mo_push⟩ (
  trivial))))))))))))))))
theorem rX8_doesTake_10 : am_allR (fun pc o => am_ok am_tb0 cX8_doesTake RX8 6 (some .boolean) false pc o ∧ am_mo o) 160 (am_nth [] tX8_doesTake 10) :=
  And.intro ⟨ok_nret dX8_doesTake_160 rfl, mo_nret⟩ (
  And.intro ⟨ok_iload dX8_doesTake_161 rfl, mo_iload⟩ (
  And.intro ⟨ok_nop, mo_nop⟩ (
  And.intro ⟨ok_if_eq dX8_doesTake_163 (by decide) rfl, mo_if⟩ (
  And.intro ⟨ok_nop, mo_nop⟩ (
  And.intro ⟨ok_nop, mo_nop⟩ (
  And.intro ⟨ok_iload_n dX8_doesTake_166 rfl rfl, mo_iload⟩ (
  And.intro ⟨ok_iconst dX8_doesTake_167 rfl ic_2, mo_push⟩ (
  And.intro ⟨ok_irem dX8_doesTake_168 rfl, mo_binS⟩ (
  And.intro ⟨ok_if_eq dX8_doesTake_169 (by decide) rfl, mo_if⟩ (
  And.intro ⟨ok_nop, mo_nop⟩ (
  And.intro ⟨ok_nop, mo_nop⟩ (
  And.intro ⟨ok_iload dX8_doesTake_172 rfl, mo_iload⟩ (
  And.intro ⟨ok_nop, mo_nop⟩ (
  And.intro ⟨ok_if_eq dX8_doesTake_174 (by decide) rfl, mo_if⟩ (
  And.intro ⟨ok_nop, mo_nop⟩ (
  trivial))))))))))))))))
theorem rX8_doesTake_11 : am_allR (fun pc o => am_ok am_tb0 cX8_doesTake RX8 6 (some .boolean) false pc o ∧ am_mo o) 176 (am_nth [] tX8_doesTake 11) :=
  And.intro ⟨ok_nop, mo_nop⟩ (
  And.intro ⟨ok_aload_n dX8_doesTake_177 rfl rfl, mo_aload⟩ (
  And.intro ⟨ok_iload_n dX8_doesTake_178 rfl rfl, mo_iload⟩ (
  And.intro ⟨ok_iload_n dX8_doesTake_179 rfl rfl, mo_iload⟩ (
  And.intro ⟨ok_cv (z := 140) dX8_doesTake_180 hclX8 (by decide) wd_1125 wd_1127 wp_30 wd_8 wd_1128 rfl (by decide) ⟨rfl, hy_X8_apart⟩ rfl, mo_cv⟩ (
  And.intro ⟨ok_nop, mo_nop⟩ (
  And.intro ⟨ok_nop, mo_nop⟩ (
  And.intro ⟨ok_if_ne dX8_doesTake_183 (by decide) rfl, mo_if⟩ (
  And.intro ⟨ok_nop, mo_nop⟩ (
  And.intro ⟨ok_nop, mo_nop⟩ (
  And.intro ⟨ok_iconst dX8_doesTake_186 rfl ic_1, mo_push⟩ (
  And.intro ⟨ok_goto dX8_doesTake_187 (by decide), mo_goto⟩ (
  And.intro ⟨ok_nop, mo_nop⟩ (
  And.intro ⟨ok_nop, mo_nop⟩ (
  And.intro ⟨ok_iconst dX8_doesTake_190 rfl ic_0, mo_push⟩ (
  And.intro ⟨ok_nret dX8_doesTake_191 rfl, mo_nret⟩ (
  trivial))))))))))))))))
theorem rX8_doesTake_12 : am_allR (fun pc o => am_ok am_tb0 cX8_doesTake RX8 6 (some .boolean) false pc o ∧ am_mo o) 192 (am_nth [] tX8_doesTake 12) :=
  And.intro ⟨ok_iload dX8_doesTake_192 rfl, mo_iload⟩ (
  And.intro ⟨ok_nop, mo_nop⟩ (
  And.intro ⟨ok_nret dX8_doesTake_194 rfl, mo_nret⟩ (
  And.intro ⟨ok_iload dX8_doesTake_195 rfl, mo_iload⟩ (
  And.intro ⟨ok_nop, mo_nop⟩ (
  And.intro ⟨ok_nret dX8_doesTake_197 rfl, mo_nret⟩ (
  And.intro ⟨ok_nop, mo_nop⟩ (
  And.intro ⟨ok_nop, mo_nop⟩ (
  And.intro ⟨ok_nop, mo_nop⟩ (
  And.intro ⟨ok_nop, mo_nop⟩ (
  And.intro ⟨ok_nop, mo_nop⟩ (
  And.intro ⟨ok_nop, mo_nop⟩ (
  And.intro ⟨ok_nop, mo_nop⟩ (
  And.intro ⟨ok_nop, mo_nop⟩ (
  And.intro ⟨ok_nop, mo_nop⟩ (
  And.intro ⟨ok_nop, mo_nop⟩ (
  trivial))))))))))))))))
theorem kX8_doesTake : am_M1 am_tb0 cX8_doesTake RX8 6 (some .boolean) false tX8_doesTake := And.intro rX8_doesTake_0 (And.intro rX8_doesTake_1 (And.intro rX8_doesTake_2 (And.intro rX8_doesTake_3 (And.intro rX8_doesTake_4 (And.intro rX8_doesTake_5 (And.intro rX8_doesTake_6 (And.intro rX8_doesTake_7 (And.intro rX8_doesTake_8 (And.intro rX8_doesTake_9 (And.intro rX8_doesTake_10 (And.intro rX8_doesTake_11 (And.intro rX8_doesTake_12 (trivial)))))))))))))
def tX8_takes : List (List am_Op) := [[o_iload 1 1, o_cs 118 1 1 1 4, am_nop, am_nop, o_if (fun x => x = 0) 14 7, am_nop, am_nop, o_iload 2 8, o_cs 120 1 1 1 11, am_nop, am_nop, o_if (fun x => ¬ x = 0) 17 14, am_nop, am_nop, o_push (.int (-1000000001)) 16, am_nop],
  [o_iret, o_push (.int 0) 18, o_istore 3 19, o_push (.int 0) 20, o_istore 4 22, am_nop, o_iload 4 24, am_nop, o_aload 0 25, o_getR 8 38 0 28, am_nop, am_nop, o_push (.int 1) 29, o_iald 20 30, o_icmp (fun x y => y ≤ x) 65 33, am_nop],
  [am_nop, o_iload 3 34, o_aload 0 35, o_iload 4 37, am_nop, o_aload 0 38, o_iload 2 39, o_cv 8 38 139 2 0 1 42, am_nop, am_nop, o_iload 1 43, o_cv 8 38 142 6 3 3 46, am_nop, am_nop, o_if (fun x => x = 0) 56 49, am_nop],
  [am_nop, o_push (.int 1) 50, o_iload 4 52, am_nop, o_bin (fun x y => x <<< (y &&& 31)) 53, o_goto 57, am_nop, am_nop, o_push (.int 0) 57, o_bin (fun x y => x ||| y) 58, o_istore 3 59, o_iinc 4 1 62, am_nop, am_nop, o_goto 22, am_nop],
  [am_nop, o_iload 3 66, o_iret, am_nop, am_nop, am_nop, am_nop, am_nop, am_nop, am_nop, am_nop, am_nop, am_nop, am_nop, am_nop, am_nop]]
theorem rX8_takes_0 : am_allR (fun pc o => am_ok am_tb0 cX8_takes RX8 5 (some .int) false pc o ∧ am_mo o) 0 (am_nth [] tX8_takes 0) :=
  And.intro ⟨ok_iload_n dX8_takes_0 rfl rfl, mo_iload⟩ (
  And.intro ⟨ok_cs (z := 118) dX8_takes_1 wd_1015 wd_1016 wd_8 wd_1017 rfl (by decide) hy_X8_isPlace rfl, mo_cs⟩ (
  And.intro ⟨ok_nop, mo_nop⟩ (
  And.intro ⟨ok_nop, mo_nop⟩ (
  And.intro ⟨ok_if_eq dX8_takes_4 (by decide) rfl, mo_if⟩ (
  And.intro ⟨ok_nop, mo_nop⟩ (
  And.intro ⟨ok_nop, mo_nop⟩ (
  And.intro ⟨ok_iload_n dX8_takes_7 rfl rfl, mo_iload⟩ (
  And.intro ⟨ok_cs (z := 120) dX8_takes_8 wd_1114 wd_1115 wd_8 wd_1116 rfl (by decide) hy_X8_isDug rfl, mo_cs⟩ (
  And.intro ⟨ok_nop, mo_nop⟩ (
  And.intro ⟨ok_nop, mo_nop⟩ (
  And.intro ⟨ok_if_ne dX8_takes_11 (by decide) rfl, mo_if⟩ (
  And.intro ⟨ok_nop, mo_nop⟩ (
  And.intro ⟨ok_nop, mo_nop⟩ (
  And.intro ⟨ok_ldc dX8_takes_14 rfl wd_1021, mo_push⟩ (
  And.intro ⟨ok_nop, mo_nop⟩ (
  trivial))))))))))))))))
theorem rX8_takes_1 : am_allR (fun pc o => am_ok am_tb0 cX8_takes RX8 5 (some .int) false pc o ∧ am_mo o) 16 (am_nth [] tX8_takes 1) :=
  And.intro ⟨ok_iret dX8_takes_16 rfl, mo_iret⟩ (
  And.intro ⟨ok_iconst dX8_takes_17 rfl ic_0, mo_push⟩ (
  And.intro ⟨ok_istore_n dX8_takes_18 rfl (by decide) rfl, mo_istore⟩ (
  And.intro ⟨ok_iconst dX8_takes_19 rfl ic_0, mo_push⟩ (
  And.intro ⟨ok_istore dX8_takes_20 (by decide) rfl, mo_istore⟩ (
  And.intro ⟨ok_nop, mo_nop⟩ (
  And.intro ⟨ok_iload dX8_takes_22 rfl, mo_iload⟩ (
  And.intro ⟨ok_nop, mo_nop⟩ (
  And.intro ⟨ok_aload_n dX8_takes_24 rfl rfl, mo_aload⟩ (
  And.intro ⟨ok_getR dX8_takes_25 hclX8 inWX8 (by decide) (by decide) wd_891 (fun _ _ _ => rfl) rfl, mo_getR⟩ (
  And.intro ⟨ok_nop, mo_nop⟩ (
  And.intro ⟨ok_nop, mo_nop⟩ (
  And.intro ⟨ok_iconst dX8_takes_28 rfl ic_1, mo_push⟩ (
  And.intro ⟨ok_iald dX8_takes_29 rfl, mo_iald⟩ (
  And.intro ⟨ok_icmp_ge dX8_takes_30 (by decide) rfl, mo_icmp⟩ (
  And.intro ⟨ok_nop, mo_nop⟩ (
  trivial))))))))))))))))
theorem rX8_takes_2 : am_allR (fun pc o => am_ok am_tb0 cX8_takes RX8 5 (some .int) false pc o ∧ am_mo o) 32 (am_nth [] tX8_takes 2) :=
  And.intro ⟨ok_nop, mo_nop⟩ (
  And.intro ⟨ok_iload_n dX8_takes_33 rfl rfl, mo_iload⟩ (
  And.intro ⟨ok_aload_n dX8_takes_34 rfl rfl, mo_aload⟩ (
  And.intro ⟨ok_iload dX8_takes_35 rfl, mo_iload⟩ (
  And.intro ⟨ok_nop, mo_nop⟩ (
  And.intro ⟨ok_aload_n dX8_takes_37 rfl rfl, mo_aload⟩ (
  And.intro ⟨ok_iload_n dX8_takes_38 rfl rfl, mo_iload⟩ (
  And.intro ⟨ok_cv (z := 139) dX8_takes_39 hclX8 (by decide) wd_1117 wd_1119 wp_28 wd_8 wd_1120 rfl (by decide) ⟨rfl, hy_X8_earthOf⟩ rfl, mo_cv⟩ (
  And.intro ⟨ok_nop, mo_nop⟩ (
  And.intro ⟨ok_nop, mo_nop⟩ (
  And.intro ⟨ok_iload_n dX8_takes_42 rfl rfl, mo_iload⟩ (
  And.intro ⟨ok_cv (z := 142) dX8_takes_43 hclX8 (by decide) wd_1121 wd_1123 wp_29 wd_8 wd_1124 rfl (by decide) ⟨rfl, hy_X8_doesTake⟩ rfl, mo_cv⟩ (
  And.intro ⟨ok_nop, mo_nop⟩ (
  And.intro ⟨ok_nop, mo_nop⟩ (
  And.intro ⟨ok_if_eq dX8_takes_46 (by decide) rfl, mo_if⟩ (
  And.intro ⟨ok_nop, mo_nop⟩ (
  trivial))))))))))))))))
theorem rX8_takes_3 : am_allR (fun pc o => am_ok am_tb0 cX8_takes RX8 5 (some .int) false pc o ∧ am_mo o) 48 (am_nth [] tX8_takes 3) :=
  And.intro ⟨ok_nop, mo_nop⟩ (
  And.intro ⟨ok_iconst dX8_takes_49 rfl ic_1, mo_push⟩ (
  And.intro ⟨ok_iload dX8_takes_50 rfl, mo_iload⟩ (
  And.intro ⟨ok_nop, mo_nop⟩ (
  And.intro ⟨ok_ishl dX8_takes_52 rfl, mo_bin⟩ (
  And.intro ⟨ok_goto dX8_takes_53 (by decide), mo_goto⟩ (
  And.intro ⟨ok_nop, mo_nop⟩ (
  And.intro ⟨ok_nop, mo_nop⟩ (
  And.intro ⟨ok_iconst dX8_takes_56 rfl ic_0, mo_push⟩ (
  And.intro ⟨ok_ior dX8_takes_57 rfl, mo_bin⟩ (
  And.intro ⟨ok_istore_n dX8_takes_58 rfl (by decide) rfl, mo_istore⟩ (
  And.intro ⟨ok_iinc dX8_takes_59 ic_1 (by decide) rfl, mo_iinc⟩ (
  And.intro ⟨ok_nop, mo_nop⟩ (
  And.intro ⟨ok_nop, mo_nop⟩ (
  And.intro ⟨ok_goto dX8_takes_62 (by decide), mo_goto⟩ (
  And.intro ⟨ok_nop, mo_nop⟩ (
  trivial))))))))))))))))
theorem rX8_takes_4 : am_allR (fun pc o => am_ok am_tb0 cX8_takes RX8 5 (some .int) false pc o ∧ am_mo o) 64 (am_nth [] tX8_takes 4) :=
  And.intro ⟨ok_nop, mo_nop⟩ (
  And.intro ⟨ok_iload_n dX8_takes_65 rfl rfl, mo_iload⟩ (
  And.intro ⟨ok_iret dX8_takes_66 rfl, mo_iret⟩ (
  And.intro ⟨ok_nop, mo_nop⟩ (
  And.intro ⟨ok_nop, mo_nop⟩ (
  And.intro ⟨ok_nop, mo_nop⟩ (
  And.intro ⟨ok_nop, mo_nop⟩ (
  And.intro ⟨ok_nop, mo_nop⟩ (
  And.intro ⟨ok_nop, mo_nop⟩ (
  And.intro ⟨ok_nop, mo_nop⟩ (
  And.intro ⟨ok_nop, mo_nop⟩ (
  And.intro ⟨ok_nop, mo_nop⟩ (
  And.intro ⟨ok_nop, mo_nop⟩ (
  And.intro ⟨ok_nop, mo_nop⟩ (
  And.intro ⟨ok_nop, mo_nop⟩ (
  And.intro ⟨ok_nop, mo_nop⟩ (
  trivial))))))))))))))))
theorem kX8_takes : am_M1 am_tb0 cX8_takes RX8 5 (some .int) false tX8_takes := And.intro rX8_takes_0 (And.intro rX8_takes_1 (And.intro rX8_takes_2 (And.intro rX8_takes_3 (And.intro rX8_takes_4 (trivial)))))
def tX8_dig : List (List am_Op) := [[o_iload 1 1, o_cs 118 1 1 1 4, am_nop, am_nop, o_if (fun x => x = 0) 30 7, am_nop, am_nop, o_iload 2 8, o_cs 120 1 1 1 11, am_nop, am_nop, o_if (fun x => x = 0) 30 14, am_nop, am_nop, o_aload 0 15, o_iload 3 16],
  [o_cv 8 38 117 2 1 1 19, am_nop, am_nop, o_if (fun x => x = 0) 30 22, am_nop, am_nop, o_iload 4 24, am_nop, o_cs 119 1 1 1 27, am_nop, am_nop, o_if (fun x => ¬ x = 0) 33 30, am_nop, am_nop, o_push (.int (-1000000001)) 32, am_nop],
  [o_iret, o_aload 0 34, o_iload 2 35, o_cv 8 38 139 2 0 1 38, am_nop, am_nop, o_istore 5 40, am_nop, o_aload 0 41, o_iload 3 42, o_iload 5 44, am_nop, o_iload 1 45, o_cv 8 38 142 6 3 3 48, am_nop, am_nop],
  [o_if (fun x => ¬ x = 0) 54 51, am_nop, am_nop, o_push (.int (-1000000002)) 53, am_nop, o_iret, o_push (.int 0) 55, o_istore 6 57, am_nop, o_iload 6 59, am_nop, o_aload 0 60, o_getR 8 38 0 63, am_nop, am_nop, o_push (.int 1) 64],
  [o_iald 20 65, o_icmp (fun x y => y ≤ x) 108 68, am_nop, am_nop, o_aload 0 69, o_getR 8 38 0 72, am_nop, am_nop, o_push (.int 1) 73, o_iald 20 74, o_push (.int 10) 76, am_nop, o_icmp (fun x y => x < y) 102 79, am_nop, am_nop, o_aload 0 80],
  [o_iload 6 82, am_nop, o_push (.int 2) 83, o_cv 8 38 121 3 0 2 86, am_nop, am_nop, o_iload 6 88, am_nop, o_iload 3 89, o_icmp (fun x y => ¬ x = y) 97 92, am_nop, am_nop, o_iload 5 94, am_nop, o_goto 98, am_nop],
  [am_nop, o_push (.int 0) 98, o_bin (fun x y => x - y) 99, o_if (fun x => x ≤ 0) 108 102, am_nop, am_nop, o_iinc 6 1 105, am_nop, am_nop, o_goto 57, am_nop, am_nop, o_iload 6 110, am_nop, o_push (.int 10) 112, am_nop],
  [o_icmp (fun x y => ¬ x = y) 118 115, am_nop, am_nop, o_push (.int (-1000000003)) 117, am_nop, o_iret, o_aload 0 119, o_iload 3 120, o_push (.int 2) 121, o_aload 0 122, o_iload 3 123, o_push (.int 2) 124, o_cv 8 38 121 3 0 2 127, am_nop, am_nop, o_iload 5 129],
  [am_nop, o_bin (fun x y => x - y) 130, o_cv 8 38 122 4 0 3 133, am_nop, am_nop, o_aload 0 134, o_getR 8 38 0 137, am_nop, am_nop, o_push (.int 5) 138, o_dup2 139, o_iald 20 140, o_iload 2 141, o_bin (fun x y => x + y) 142, o_iast 143, o_aload 0 144],
  [o_iload 6 146, am_nop, o_push (.int 0) 147, o_iload 1 148, o_iload 2 149, o_iload 4 151, am_nop, o_cv 8 38 124 6 1 5 154, am_nop, am_nop, o_aload 0 155, o_getR 8 38 0 158, am_nop, am_nop, o_push (.int 1) 159, o_dup2 160],
  [o_iald 20 161, o_iload 6 163, am_nop, o_aload 0 164, o_getR 8 38 0 167, am_nop, am_nop, o_push (.int 1) 168, o_iald 20 169, o_icmp (fun x y => ¬ x = y) 176 172, am_nop, am_nop, o_push (.int 1) 173, o_goto 177, am_nop, am_nop],
  [o_push (.int 0) 177, o_bin (fun x y => x + y) 178, o_iast 179, o_iload 6 181, am_nop, o_iret, am_nop, am_nop, am_nop, am_nop, am_nop, am_nop, am_nop, am_nop, am_nop, am_nop]]
theorem rX8_dig_0 : am_allR (fun pc o => am_ok am_tb0 cX8_dig RX8 7 (some .int) false pc o ∧ am_mo o) 0 (am_nth [] tX8_dig 0) :=
  And.intro ⟨ok_iload_n dX8_dig_0 rfl rfl, mo_iload⟩ (
  And.intro ⟨ok_cs (z := 118) dX8_dig_1 wd_1015 wd_1016 wd_8 wd_1017 rfl (by decide) hy_X8_isPlace rfl, mo_cs⟩ (
  And.intro ⟨ok_nop, mo_nop⟩ (
  And.intro ⟨ok_nop, mo_nop⟩ (
  And.intro ⟨ok_if_eq dX8_dig_4 (by decide) rfl, mo_if⟩ (
  And.intro ⟨ok_nop, mo_nop⟩ (
  And.intro ⟨ok_nop, mo_nop⟩ (
  And.intro ⟨ok_iload_n dX8_dig_7 rfl rfl, mo_iload⟩ (
  And.intro ⟨ok_cs (z := 120) dX8_dig_8 wd_1114 wd_1115 wd_8 wd_1116 rfl (by decide) hy_X8_isDug rfl, mo_cs⟩ (
  And.intro ⟨ok_nop, mo_nop⟩ (
  And.intro ⟨ok_nop, mo_nop⟩ (
  And.intro ⟨ok_if_eq dX8_dig_11 (by decide) rfl, mo_if⟩ (
  And.intro ⟨ok_nop, mo_nop⟩ (
  And.intro ⟨ok_nop, mo_nop⟩ (
  And.intro ⟨ok_aload_n dX8_dig_14 rfl rfl, mo_aload⟩ (
  And.intro ⟨ok_iload_n dX8_dig_15 rfl rfl, mo_iload⟩ (
  trivial))))))))))))))))
theorem rX8_dig_1 : am_allR (fun pc o => am_ok am_tb0 cX8_dig RX8 7 (some .int) false pc o ∧ am_mo o) 16 (am_nth [] tX8_dig 1) :=
  And.intro ⟨ok_cv (z := 117) dX8_dig_16 hclX8 (by decide) wd_1039 wd_1041 wp_20 wd_8 wd_1042 rfl (by decide) ⟨rfl, hy_X8_isHole⟩ rfl, mo_cv⟩ (
  And.intro ⟨ok_nop, mo_nop⟩ (
  And.intro ⟨ok_nop, mo_nop⟩ (
  And.intro ⟨ok_if_eq dX8_dig_19 (by decide) rfl, mo_if⟩ (
  And.intro ⟨ok_nop, mo_nop⟩ (
  And.intro ⟨ok_nop, mo_nop⟩ (
  And.intro ⟨ok_iload dX8_dig_22 rfl, mo_iload⟩ (
  And.intro ⟨ok_nop, mo_nop⟩ (
  And.intro ⟨ok_cs (z := 119) dX8_dig_24 wd_1018 wd_1019 wd_8 wd_1020 rfl (by decide) hy_X8_isOwner rfl, mo_cs⟩ (
  And.intro ⟨ok_nop, mo_nop⟩ (
  And.intro ⟨ok_nop, mo_nop⟩ (
  And.intro ⟨ok_if_ne dX8_dig_27 (by decide) rfl, mo_if⟩ (
  And.intro ⟨ok_nop, mo_nop⟩ (
  And.intro ⟨ok_nop, mo_nop⟩ (
  And.intro ⟨ok_ldc dX8_dig_30 rfl wd_1021, mo_push⟩ (
  And.intro ⟨ok_nop, mo_nop⟩ (
  trivial))))))))))))))))
theorem rX8_dig_2 : am_allR (fun pc o => am_ok am_tb0 cX8_dig RX8 7 (some .int) false pc o ∧ am_mo o) 32 (am_nth [] tX8_dig 2) :=
  And.intro ⟨ok_iret dX8_dig_32 rfl, mo_iret⟩ (
  And.intro ⟨ok_aload_n dX8_dig_33 rfl rfl, mo_aload⟩ (
  And.intro ⟨ok_iload_n dX8_dig_34 rfl rfl, mo_iload⟩ (
  And.intro ⟨ok_cv (z := 139) dX8_dig_35 hclX8 (by decide) wd_1117 wd_1119 wp_28 wd_8 wd_1120 rfl (by decide) ⟨rfl, hy_X8_earthOf⟩ rfl, mo_cv⟩ (
  And.intro ⟨ok_nop, mo_nop⟩ (
  And.intro ⟨ok_nop, mo_nop⟩ (
  And.intro ⟨ok_istore dX8_dig_38 (by decide) rfl, mo_istore⟩ (
  And.intro ⟨ok_nop, mo_nop⟩ (
  And.intro ⟨ok_aload_n dX8_dig_40 rfl rfl, mo_aload⟩ (
  And.intro ⟨ok_iload_n dX8_dig_41 rfl rfl, mo_iload⟩ (
  And.intro ⟨ok_iload dX8_dig_42 rfl, mo_iload⟩ (
  And.intro ⟨ok_nop, mo_nop⟩ (
  And.intro ⟨ok_iload_n dX8_dig_44 rfl rfl, mo_iload⟩ (
  And.intro ⟨ok_cv (z := 142) dX8_dig_45 hclX8 (by decide) wd_1121 wd_1123 wp_29 wd_8 wd_1124 rfl (by decide) ⟨rfl, hy_X8_doesTake⟩ rfl, mo_cv⟩ (
  And.intro ⟨ok_nop, mo_nop⟩ (
  And.intro ⟨ok_nop, mo_nop⟩ (
  trivial))))))))))))))))
theorem rX8_dig_3 : am_allR (fun pc o => am_ok am_tb0 cX8_dig RX8 7 (some .int) false pc o ∧ am_mo o) 48 (am_nth [] tX8_dig 3) :=
  And.intro ⟨ok_if_ne dX8_dig_48 (by decide) rfl, mo_if⟩ (
  And.intro ⟨ok_nop, mo_nop⟩ (
  And.intro ⟨ok_nop, mo_nop⟩ (
  And.intro ⟨ok_ldc dX8_dig_51 rfl wd_1137, mo_push⟩ (
  And.intro ⟨ok_nop, mo_nop⟩ (
  And.intro ⟨ok_iret dX8_dig_53 rfl, mo_iret⟩ (
  And.intro ⟨ok_iconst dX8_dig_54 rfl ic_0, mo_push⟩ (
  And.intro ⟨ok_istore dX8_dig_55 (by decide) rfl, mo_istore⟩ (
  And.intro ⟨ok_nop, mo_nop⟩ (
  And.intro ⟨ok_iload dX8_dig_57 rfl, mo_iload⟩ (
  And.intro ⟨ok_nop, mo_nop⟩ (
  And.intro ⟨ok_aload_n dX8_dig_59 rfl rfl, mo_aload⟩ (
  And.intro ⟨ok_getR dX8_dig_60 hclX8 inWX8 (by decide) (by decide) wd_891 (fun _ _ _ => rfl) rfl, mo_getR⟩ (
  And.intro ⟨ok_nop, mo_nop⟩ (
  And.intro ⟨ok_nop, mo_nop⟩ (
  And.intro ⟨ok_iconst dX8_dig_63 rfl ic_1, mo_push⟩ (
  trivial))))))))))))))))
theorem rX8_dig_4 : am_allR (fun pc o => am_ok am_tb0 cX8_dig RX8 7 (some .int) false pc o ∧ am_mo o) 64 (am_nth [] tX8_dig 4) :=
  And.intro ⟨ok_iald dX8_dig_64 rfl, mo_iald⟩ (
  And.intro ⟨ok_icmp_ge dX8_dig_65 (by decide) rfl, mo_icmp⟩ (
  And.intro ⟨ok_nop, mo_nop⟩ (
  And.intro ⟨ok_nop, mo_nop⟩ (
  And.intro ⟨ok_aload_n dX8_dig_68 rfl rfl, mo_aload⟩ (
  And.intro ⟨ok_getR dX8_dig_69 hclX8 inWX8 (by decide) (by decide) wd_891 (fun _ _ _ => rfl) rfl, mo_getR⟩ (
  And.intro ⟨ok_nop, mo_nop⟩ (
  And.intro ⟨ok_nop, mo_nop⟩ (
  And.intro ⟨ok_iconst dX8_dig_72 rfl ic_1, mo_push⟩ (
  And.intro ⟨ok_iald dX8_dig_73 rfl, mo_iald⟩ (
  And.intro ⟨ok_bipush dX8_dig_74 rfl bi_10, mo_push⟩ (
  And.intro ⟨ok_nop, mo_nop⟩ (
  And.intro ⟨ok_icmp_lt dX8_dig_76 (by decide) rfl, mo_icmp⟩ (
  And.intro ⟨ok_nop, mo_nop⟩ (
  And.intro ⟨ok_nop, mo_nop⟩ (
  And.intro ⟨ok_aload_n dX8_dig_79 rfl rfl, mo_aload⟩ (
  trivial))))))))))))))))
theorem rX8_dig_5 : am_allR (fun pc o => am_ok am_tb0 cX8_dig RX8 7 (some .int) false pc o ∧ am_mo o) 80 (am_nth [] tX8_dig 5) :=
  And.intro ⟨ok_iload dX8_dig_80 rfl, mo_iload⟩ (
  And.intro ⟨ok_nop, mo_nop⟩ (
  And.intro ⟨ok_iconst dX8_dig_82 rfl ic_2, mo_push⟩ (
  And.intro ⟨ok_cv (z := 121) dX8_dig_83 hclX8 (by decide) wd_1043 wd_1045 wp_21 wd_8 wd_1046 rfl (by decide) ⟨rfl, hy_X8_of⟩ rfl, mo_cv⟩ (
  And.intro ⟨ok_nop, mo_nop⟩ (
  And.intro ⟨ok_nop, mo_nop⟩ (
  And.intro ⟨ok_iload dX8_dig_86 rfl, mo_iload⟩ (
  And.intro ⟨ok_nop, mo_nop⟩ (
  And.intro ⟨ok_iload_n dX8_dig_88 rfl rfl, mo_iload⟩ (
  And.intro ⟨ok_icmp_ne dX8_dig_89 (by decide) rfl, mo_icmp⟩ (
  And.intro ⟨ok_nop, mo_nop⟩ (
  And.intro ⟨ok_nop, mo_nop⟩ (
  And.intro ⟨ok_iload dX8_dig_92 rfl, mo_iload⟩ (
  And.intro ⟨ok_nop, mo_nop⟩ (
  And.intro ⟨ok_goto dX8_dig_94 (by decide), mo_goto⟩ (
  And.intro ⟨ok_nop, mo_nop⟩ (
  trivial))))))))))))))))
theorem rX8_dig_6 : am_allR (fun pc o => am_ok am_tb0 cX8_dig RX8 7 (some .int) false pc o ∧ am_mo o) 96 (am_nth [] tX8_dig 6) :=
  And.intro ⟨ok_nop, mo_nop⟩ (
  And.intro ⟨ok_iconst dX8_dig_97 rfl ic_0, mo_push⟩ (
  And.intro ⟨ok_isub dX8_dig_98 rfl, mo_bin⟩ (
  And.intro ⟨ok_if_le dX8_dig_99 (by decide) rfl, mo_if⟩ (
  And.intro ⟨ok_nop, mo_nop⟩ (
  And.intro ⟨ok_nop, mo_nop⟩ (
  And.intro ⟨ok_iinc dX8_dig_102 ic_1 (by decide) rfl, mo_iinc⟩ (
  And.intro ⟨ok_nop, mo_nop⟩ (
  And.intro ⟨ok_nop, mo_nop⟩ (
  And.intro ⟨ok_goto dX8_dig_105 (by decide), mo_goto⟩ (
  And.intro ⟨ok_nop, mo_nop⟩ (
  And.intro ⟨ok_nop, mo_nop⟩ (
  And.intro ⟨ok_iload dX8_dig_108 rfl, mo_iload⟩ (
  And.intro ⟨ok_nop, mo_nop⟩ (
  And.intro ⟨ok_bipush dX8_dig_110 rfl bi_10, mo_push⟩ (
  And.intro ⟨ok_nop, mo_nop⟩ (
  trivial))))))))))))))))
theorem rX8_dig_7 : am_allR (fun pc o => am_ok am_tb0 cX8_dig RX8 7 (some .int) false pc o ∧ am_mo o) 112 (am_nth [] tX8_dig 7) :=
  And.intro ⟨ok_icmp_ne dX8_dig_112 (by decide) rfl, mo_icmp⟩ (
  And.intro ⟨ok_nop, mo_nop⟩ (
  And.intro ⟨ok_nop, mo_nop⟩ (
  And.intro ⟨ok_ldc dX8_dig_115 rfl wd_1022, mo_push⟩ (
  And.intro ⟨ok_nop, mo_nop⟩ (
  And.intro ⟨ok_iret dX8_dig_117 rfl, mo_iret⟩ (
  And.intro ⟨ok_aload_n dX8_dig_118 rfl rfl, mo_aload⟩ (
  And.intro ⟨ok_iload_n dX8_dig_119 rfl rfl, mo_iload⟩ (
  And.intro ⟨ok_iconst dX8_dig_120 rfl ic_2, mo_push⟩ (
  And.intro ⟨ok_aload_n dX8_dig_121 rfl rfl, mo_aload⟩ (
  And.intro ⟨ok_iload_n dX8_dig_122 rfl rfl, mo_iload⟩ (
  And.intro ⟨ok_iconst dX8_dig_123 rfl ic_2, mo_push⟩ (
  And.intro ⟨ok_cv (z := 121) dX8_dig_124 hclX8 (by decide) wd_1043 wd_1045 wp_21 wd_8 wd_1046 rfl (by decide) ⟨rfl, hy_X8_of⟩ rfl, mo_cv⟩ (
  And.intro ⟨ok_nop, mo_nop⟩ (
  And.intro ⟨ok_nop, mo_nop⟩ (
  And.intro ⟨ok_iload dX8_dig_127 rfl, mo_iload⟩ (
  trivial))))))))))))))))
theorem rX8_dig_8 : am_allR (fun pc o => am_ok am_tb0 cX8_dig RX8 7 (some .int) false pc o ∧ am_mo o) 128 (am_nth [] tX8_dig 8) :=
  And.intro ⟨ok_nop, mo_nop⟩ (
  And.intro ⟨ok_isub dX8_dig_129 rfl, mo_bin⟩ (
  And.intro ⟨ok_cv (z := 122) dX8_dig_130 hclX8 (by decide) wd_1031 wd_1033 wp_19 wd_8 wd_1034 rfl (by decide) ⟨rfl, hy_X8_put⟩ rfl, mo_cv⟩ (
  And.intro ⟨ok_nop, mo_nop⟩ (
  And.intro ⟨ok_nop, mo_nop⟩ (
  And.intro ⟨ok_aload_n dX8_dig_133 rfl rfl, mo_aload⟩ (
  And.intro ⟨ok_getR dX8_dig_134 hclX8 inWX8 (by decide) (by decide) wd_891 (fun _ _ _ => rfl) rfl, mo_getR⟩ (
  And.intro ⟨ok_nop, mo_nop⟩ (
  And.intro ⟨ok_nop, mo_nop⟩ (
  And.intro ⟨ok_iconst dX8_dig_137 rfl ic_5, mo_push⟩ (
  And.intro ⟨ok_dup2 dX8_dig_138 rfl, mo_dup2⟩ (
  And.intro ⟨ok_iald dX8_dig_139 rfl, mo_iald⟩ (
  And.intro ⟨ok_iload_n dX8_dig_140 rfl rfl, mo_iload⟩ (
  And.intro ⟨ok_iadd dX8_dig_141 rfl, mo_bin⟩ (
  And.intro ⟨ok_iast dX8_dig_142 rfl, mo_iast⟩ (
  And.intro ⟨ok_aload_n dX8_dig_143 rfl rfl, mo_aload⟩ (
  trivial))))))))))))))))
theorem rX8_dig_9 : am_allR (fun pc o => am_ok am_tb0 cX8_dig RX8 7 (some .int) false pc o ∧ am_mo o) 144 (am_nth [] tX8_dig 9) :=
  And.intro ⟨ok_iload dX8_dig_144 rfl, mo_iload⟩ (
  And.intro ⟨ok_nop, mo_nop⟩ (
  And.intro ⟨ok_iconst dX8_dig_146 rfl ic_0, mo_push⟩ (
  And.intro ⟨ok_iload_n dX8_dig_147 rfl rfl, mo_iload⟩ (
  And.intro ⟨ok_iload_n dX8_dig_148 rfl rfl, mo_iload⟩ (
  And.intro ⟨ok_iload dX8_dig_149 rfl, mo_iload⟩ (
  And.intro ⟨ok_nop, mo_nop⟩ (
  And.intro ⟨ok_cv (z := 124) dX8_dig_151 hclX8 (by decide) wd_1027 wd_1029 wp_18 wd_8 wd_1030 rfl (by decide) ⟨rfl, hy_X8_lays⟩ rfl, mo_cv⟩ (
  And.intro ⟨ok_nop, mo_nop⟩ (
  And.intro ⟨ok_nop, mo_nop⟩ (
  And.intro ⟨ok_aload_n dX8_dig_154 rfl rfl, mo_aload⟩ (
  And.intro ⟨ok_getR dX8_dig_155 hclX8 inWX8 (by decide) (by decide) wd_891 (fun _ _ _ => rfl) rfl, mo_getR⟩ (
  And.intro ⟨ok_nop, mo_nop⟩ (
  And.intro ⟨ok_nop, mo_nop⟩ (
  And.intro ⟨ok_iconst dX8_dig_158 rfl ic_1, mo_push⟩ (
  And.intro ⟨ok_dup2 dX8_dig_159 rfl, mo_dup2⟩ (
  trivial))))))))))))))))
theorem rX8_dig_10 : am_allR (fun pc o => am_ok am_tb0 cX8_dig RX8 7 (some .int) false pc o ∧ am_mo o) 160 (am_nth [] tX8_dig 10) :=
  And.intro ⟨ok_iald dX8_dig_160 rfl, mo_iald⟩ (
  And.intro ⟨ok_iload dX8_dig_161 rfl, mo_iload⟩ (
  And.intro ⟨ok_nop, mo_nop⟩ (
  And.intro ⟨ok_aload_n dX8_dig_163 rfl rfl, mo_aload⟩ (
  And.intro ⟨ok_getR dX8_dig_164 hclX8 inWX8 (by decide) (by decide) wd_891 (fun _ _ _ => rfl) rfl, mo_getR⟩ (
  And.intro ⟨ok_nop, mo_nop⟩ (
  And.intro ⟨ok_nop, mo_nop⟩ (
  And.intro ⟨ok_iconst dX8_dig_167 rfl ic_1, mo_push⟩ (
  And.intro ⟨ok_iald dX8_dig_168 rfl, mo_iald⟩ (
  And.intro ⟨ok_icmp_ne dX8_dig_169 (by decide) rfl, mo_icmp⟩ (
  And.intro ⟨ok_nop, mo_nop⟩ (
  And.intro ⟨ok_nop, mo_nop⟩ (
  And.intro ⟨ok_iconst dX8_dig_172 rfl ic_1, mo_push⟩ (
  And.intro ⟨ok_goto dX8_dig_173 (by decide), mo_goto⟩ (
  And.intro ⟨ok_nop, mo_nop⟩ (
  And.intro ⟨ok_nop, mo_nop⟩ (
  trivial))))))))))))))))
theorem rX8_dig_11 : am_allR (fun pc o => am_ok am_tb0 cX8_dig RX8 7 (some .int) false pc o ∧ am_mo o) 176 (am_nth [] tX8_dig 11) :=
  And.intro ⟨ok_iconst dX8_dig_176 rfl ic_0, mo_push⟩ (
  And.intro ⟨ok_iadd dX8_dig_177 rfl, mo_bin⟩ (
  And.intro ⟨ok_iast dX8_dig_178 rfl, mo_iast⟩ (
  And.intro ⟨ok_iload dX8_dig_179 rfl, mo_iload⟩ (
  And.intro ⟨ok_nop, mo_nop⟩ (
  And.intro ⟨ok_iret dX8_dig_181 rfl, mo_iret⟩ (
  And.intro ⟨ok_nop, mo_nop⟩ (
  And.intro ⟨ok_nop, mo_nop⟩ (
  And.intro ⟨ok_nop, mo_nop⟩ (
  And.intro ⟨ok_nop, mo_nop⟩ (
  And.intro ⟨ok_nop, mo_nop⟩ (
  And.intro ⟨ok_nop, mo_nop⟩ (
  And.intro ⟨ok_nop, mo_nop⟩ (
  And.intro ⟨ok_nop, mo_nop⟩ (
  And.intro ⟨ok_nop, mo_nop⟩ (
  And.intro ⟨ok_nop, mo_nop⟩ (
  trivial))))))))))))))))
theorem kX8_dig : am_M1 am_tb0 cX8_dig RX8 7 (some .int) false tX8_dig := And.intro rX8_dig_0 (And.intro rX8_dig_1 (And.intro rX8_dig_2 (And.intro rX8_dig_3 (And.intro rX8_dig_4 (And.intro rX8_dig_5 (And.intro rX8_dig_6 (And.intro rX8_dig_7 (And.intro rX8_dig_8 (And.intro rX8_dig_9 (And.intro rX8_dig_10 (And.intro rX8_dig_11 (trivial))))))))))))
def tX8_want : List (List am_Op) := [[o_iload 1 1, o_cs 118 1 1 1 4, am_nop, am_nop, o_if (fun x => x = 0) 14 7, am_nop, am_nop, o_iload 2 8, o_cs 120 1 1 1 11, am_nop, am_nop, o_if (fun x => ¬ x = 0) 17 14, am_nop, am_nop, o_push (.int (-1000000001)) 16, am_nop],
  [o_iret, o_aload 0 18, o_getR 8 38 0 21, am_nop, am_nop, o_push (.int 7) 23, am_nop, o_iald 20 24, o_push (.int 6) 26, am_nop, o_icmp (fun x y => ¬ x = y) 32 29, am_nop, am_nop, o_push (.int (-1000000003)) 31, am_nop, o_iret],
  [o_aload 0 33, o_getR 8 38 0 36, am_nop, am_nop, o_push (.int 9) 38, am_nop, o_push (.int 2) 39, o_aload 0 40, o_getR 8 38 0 43, am_nop, am_nop, o_push (.int 7) 45, am_nop, o_iald 20 46, o_bin (fun x y => x * y) 47, o_bin (fun x y => x + y) 48],
  [o_iload 1 49, o_iast 50, o_aload 0 51, o_getR 8 38 0 54, am_nop, am_nop, o_push (.int 9) 56, am_nop, o_push (.int 2) 57, o_aload 0 58, o_getR 8 38 0 61, am_nop, am_nop, o_push (.int 7) 63, am_nop, o_iald 20 64],
  [o_bin (fun x y => x * y) 65, o_bin (fun x y => x + y) 66, o_push (.int 1) 67, o_bin (fun x y => x + y) 68, o_iload 2 69, o_iast 70, o_aload 0 71, o_getR 8 38 0 74, am_nop, am_nop, o_push (.int 7) 76, am_nop, o_dup2 77, o_iald 20 78, o_push (.int 1) 79, o_bin (fun x y => x + y) 80],
  [o_iast 81, o_aload 0 82, o_getR 8 38 0 85, am_nop, am_nop, o_push (.int 7) 87, am_nop, o_iald 20 88, o_push (.int 1) 89, o_bin (fun x y => x - y) 90, o_iret, am_nop, am_nop, am_nop, am_nop, am_nop]]
theorem rX8_want_0 : am_allR (fun pc o => am_ok am_tb0 cX8_want RX8 3 (some .int) false pc o ∧ am_mo o) 0 (am_nth [] tX8_want 0) :=
  And.intro ⟨ok_iload_n dX8_want_0 rfl rfl, mo_iload⟩ (
  And.intro ⟨ok_cs (z := 118) dX8_want_1 wd_1015 wd_1016 wd_8 wd_1017 rfl (by decide) hy_X8_isPlace rfl, mo_cs⟩ (
  And.intro ⟨ok_nop, mo_nop⟩ (
  And.intro ⟨ok_nop, mo_nop⟩ (
  And.intro ⟨ok_if_eq dX8_want_4 (by decide) rfl, mo_if⟩ (
  And.intro ⟨ok_nop, mo_nop⟩ (
  And.intro ⟨ok_nop, mo_nop⟩ (
  And.intro ⟨ok_iload_n dX8_want_7 rfl rfl, mo_iload⟩ (
  And.intro ⟨ok_cs (z := 120) dX8_want_8 wd_1114 wd_1115 wd_8 wd_1116 rfl (by decide) hy_X8_isDug rfl, mo_cs⟩ (
  And.intro ⟨ok_nop, mo_nop⟩ (
  And.intro ⟨ok_nop, mo_nop⟩ (
  And.intro ⟨ok_if_ne dX8_want_11 (by decide) rfl, mo_if⟩ (
  And.intro ⟨ok_nop, mo_nop⟩ (
  And.intro ⟨ok_nop, mo_nop⟩ (
  And.intro ⟨ok_ldc dX8_want_14 rfl wd_1021, mo_push⟩ (
  And.intro ⟨ok_nop, mo_nop⟩ (
  trivial))))))))))))))))
theorem rX8_want_1 : am_allR (fun pc o => am_ok am_tb0 cX8_want RX8 3 (some .int) false pc o ∧ am_mo o) 16 (am_nth [] tX8_want 1) :=
  And.intro ⟨ok_iret dX8_want_16 rfl, mo_iret⟩ (
  And.intro ⟨ok_aload_n dX8_want_17 rfl rfl, mo_aload⟩ (
  And.intro ⟨ok_getR dX8_want_18 hclX8 inWX8 (by decide) (by decide) wd_891 (fun _ _ _ => rfl) rfl, mo_getR⟩ (
  And.intro ⟨ok_nop, mo_nop⟩ (
  And.intro ⟨ok_nop, mo_nop⟩ (
  And.intro ⟨ok_bipush dX8_want_21 rfl bi_7, mo_push⟩ (
  And.intro ⟨ok_nop, mo_nop⟩ (
  And.intro ⟨ok_iald dX8_want_23 rfl, mo_iald⟩ (
  And.intro ⟨ok_bipush dX8_want_24 rfl bi_6, mo_push⟩ (
  And.intro ⟨ok_nop, mo_nop⟩ (
  And.intro ⟨ok_icmp_ne dX8_want_26 (by decide) rfl, mo_icmp⟩ (
  And.intro ⟨ok_nop, mo_nop⟩ (
  And.intro ⟨ok_nop, mo_nop⟩ (
  And.intro ⟨ok_ldc dX8_want_29 rfl wd_1022, mo_push⟩ (
  And.intro ⟨ok_nop, mo_nop⟩ (
  And.intro ⟨ok_iret dX8_want_31 rfl, mo_iret⟩ (
  trivial))))))))))))))))
theorem rX8_want_2 : am_allR (fun pc o => am_ok am_tb0 cX8_want RX8 3 (some .int) false pc o ∧ am_mo o) 32 (am_nth [] tX8_want 2) :=
  And.intro ⟨ok_aload_n dX8_want_32 rfl rfl, mo_aload⟩ (
  And.intro ⟨ok_getR dX8_want_33 hclX8 inWX8 (by decide) (by decide) wd_891 (fun _ _ _ => rfl) rfl, mo_getR⟩ (
  And.intro ⟨ok_nop, mo_nop⟩ (
  And.intro ⟨ok_nop, mo_nop⟩ (
  And.intro ⟨ok_bipush dX8_want_36 rfl bi_9, mo_push⟩ (
  And.intro ⟨ok_nop, mo_nop⟩ (
  And.intro ⟨ok_iconst dX8_want_38 rfl ic_2, mo_push⟩ (
  And.intro ⟨ok_aload_n dX8_want_39 rfl rfl, mo_aload⟩ (
  And.intro ⟨ok_getR dX8_want_40 hclX8 inWX8 (by decide) (by decide) wd_891 (fun _ _ _ => rfl) rfl, mo_getR⟩ (
  And.intro ⟨ok_nop, mo_nop⟩ (
  And.intro ⟨ok_nop, mo_nop⟩ (
  And.intro ⟨ok_bipush dX8_want_43 rfl bi_7, mo_push⟩ (
  And.intro ⟨ok_nop, mo_nop⟩ (
  And.intro ⟨ok_iald dX8_want_45 rfl, mo_iald⟩ (
  And.intro ⟨ok_imul dX8_want_46 rfl, mo_bin⟩ (
  And.intro ⟨ok_iadd dX8_want_47 rfl, mo_bin⟩ (
  trivial))))))))))))))))
theorem rX8_want_3 : am_allR (fun pc o => am_ok am_tb0 cX8_want RX8 3 (some .int) false pc o ∧ am_mo o) 48 (am_nth [] tX8_want 3) :=
  And.intro ⟨ok_iload_n dX8_want_48 rfl rfl, mo_iload⟩ (
  And.intro ⟨ok_iast dX8_want_49 rfl, mo_iast⟩ (
  And.intro ⟨ok_aload_n dX8_want_50 rfl rfl, mo_aload⟩ (
  And.intro ⟨ok_getR dX8_want_51 hclX8 inWX8 (by decide) (by decide) wd_891 (fun _ _ _ => rfl) rfl, mo_getR⟩ (
  And.intro ⟨ok_nop, mo_nop⟩ (
  And.intro ⟨ok_nop, mo_nop⟩ (
  And.intro ⟨ok_bipush dX8_want_54 rfl bi_9, mo_push⟩ (
  And.intro ⟨ok_nop, mo_nop⟩ (
  And.intro ⟨ok_iconst dX8_want_56 rfl ic_2, mo_push⟩ (
  And.intro ⟨ok_aload_n dX8_want_57 rfl rfl, mo_aload⟩ (
  And.intro ⟨ok_getR dX8_want_58 hclX8 inWX8 (by decide) (by decide) wd_891 (fun _ _ _ => rfl) rfl, mo_getR⟩ (
  And.intro ⟨ok_nop, mo_nop⟩ (
  And.intro ⟨ok_nop, mo_nop⟩ (
  And.intro ⟨ok_bipush dX8_want_61 rfl bi_7, mo_push⟩ (
  And.intro ⟨ok_nop, mo_nop⟩ (
  And.intro ⟨ok_iald dX8_want_63 rfl, mo_iald⟩ (
  trivial))))))))))))))))
theorem rX8_want_4 : am_allR (fun pc o => am_ok am_tb0 cX8_want RX8 3 (some .int) false pc o ∧ am_mo o) 64 (am_nth [] tX8_want 4) :=
  And.intro ⟨ok_imul dX8_want_64 rfl, mo_bin⟩ (
  And.intro ⟨ok_iadd dX8_want_65 rfl, mo_bin⟩ (
  And.intro ⟨ok_iconst dX8_want_66 rfl ic_1, mo_push⟩ (
  And.intro ⟨ok_iadd dX8_want_67 rfl, mo_bin⟩ (
  And.intro ⟨ok_iload_n dX8_want_68 rfl rfl, mo_iload⟩ (
  And.intro ⟨ok_iast dX8_want_69 rfl, mo_iast⟩ (
  And.intro ⟨ok_aload_n dX8_want_70 rfl rfl, mo_aload⟩ (
  And.intro ⟨ok_getR dX8_want_71 hclX8 inWX8 (by decide) (by decide) wd_891 (fun _ _ _ => rfl) rfl, mo_getR⟩ (
  And.intro ⟨ok_nop, mo_nop⟩ (
  And.intro ⟨ok_nop, mo_nop⟩ (
  And.intro ⟨ok_bipush dX8_want_74 rfl bi_7, mo_push⟩ (
  And.intro ⟨ok_nop, mo_nop⟩ (
  And.intro ⟨ok_dup2 dX8_want_76 rfl, mo_dup2⟩ (
  And.intro ⟨ok_iald dX8_want_77 rfl, mo_iald⟩ (
  And.intro ⟨ok_iconst dX8_want_78 rfl ic_1, mo_push⟩ (
  And.intro ⟨ok_iadd dX8_want_79 rfl, mo_bin⟩ (
  trivial))))))))))))))))
theorem rX8_want_5 : am_allR (fun pc o => am_ok am_tb0 cX8_want RX8 3 (some .int) false pc o ∧ am_mo o) 80 (am_nth [] tX8_want 5) :=
  And.intro ⟨ok_iast dX8_want_80 rfl, mo_iast⟩ (
  And.intro ⟨ok_aload_n dX8_want_81 rfl rfl, mo_aload⟩ (
  And.intro ⟨ok_getR dX8_want_82 hclX8 inWX8 (by decide) (by decide) wd_891 (fun _ _ _ => rfl) rfl, mo_getR⟩ (
  And.intro ⟨ok_nop, mo_nop⟩ (
  And.intro ⟨ok_nop, mo_nop⟩ (
  And.intro ⟨ok_bipush dX8_want_85 rfl bi_7, mo_push⟩ (
  And.intro ⟨ok_nop, mo_nop⟩ (
  And.intro ⟨ok_iald dX8_want_87 rfl, mo_iald⟩ (
  And.intro ⟨ok_iconst dX8_want_88 rfl ic_1, mo_push⟩ (
  And.intro ⟨ok_isub dX8_want_89 rfl, mo_bin⟩ (
  And.intro ⟨ok_iret dX8_want_90 rfl, mo_iret⟩ (
  And.intro ⟨ok_nop, mo_nop⟩ (
  And.intro ⟨ok_nop, mo_nop⟩ (
  And.intro ⟨ok_nop, mo_nop⟩ (
  And.intro ⟨ok_nop, mo_nop⟩ (
  And.intro ⟨ok_nop, mo_nop⟩ (
  trivial))))))))))))))))
theorem kX8_want : am_M1 am_tb0 cX8_want RX8 3 (some .int) false tX8_want := And.intro rX8_want_0 (And.intro rX8_want_1 (And.intro rX8_want_2 (And.intro rX8_want_3 (And.intro rX8_want_4 (And.intro rX8_want_5 (trivial))))))
def tX8_forget : List (List am_Op) := [[o_aload 0 1, o_push (.int 7) 3, am_nop, o_push (.int 0) 4, o_cv 8 38 123 4 0 2 7, am_nop, am_nop, o_iret]]
theorem rX8_forget_0 : am_allR (fun pc o => am_ok am_tb0 cX8_forget RX8 1 (some .int) false pc o ∧ am_mo o) 0 (am_nth [] tX8_forget 0) :=
  And.intro ⟨ok_aload_n dX8_forget_0 rfl rfl, mo_aload⟩ (
  And.intro ⟨ok_bipush dX8_forget_1 rfl bi_7, mo_push⟩ (
  And.intro ⟨ok_nop, mo_nop⟩ (
  And.intro ⟨ok_iconst dX8_forget_3 rfl ic_0, mo_push⟩ (
  And.intro ⟨ok_cv (z := 123) dX8_forget_4 hclX8 (by decide) wd_1063 wd_1065 wp_23 wd_8 wd_1066 rfl (by decide) ⟨rfl, hy_X8_becomes⟩ rfl, mo_cv⟩ (
  And.intro ⟨ok_nop, mo_nop⟩ (
  And.intro ⟨ok_nop, mo_nop⟩ (
  And.intro ⟨ok_iret dX8_forget_7 rfl, mo_iret⟩ (
  trivial))))))))
theorem kX8_forget : am_M1 am_tb0 cX8_forget RX8 1 (some .int) false tX8_forget := And.intro rX8_forget_0 (trivial)
def tX8_doesMeet : List (List am_Op) := [[o_aload 0 1, o_iload 2 2, o_aload 0 3, o_aload 0 4, o_getR 8 38 0 7, am_nop, am_nop, o_push (.int 9) 9, am_nop, o_push (.int 2) 10, o_iload 1 11, o_bin (fun x y => x * y) 12, o_bin (fun x y => x + y) 13, o_push (.int 1) 14, o_bin (fun x y => x + y) 15, o_iald 20 16],
  [o_cv 8 38 139 2 0 1 19, am_nop, am_nop, o_aload 0 20, o_getR 8 38 0 23, am_nop, am_nop, o_push (.int 9) 25, am_nop, o_push (.int 2) 26, o_iload 1 27, o_bin (fun x y => x * y) 28, o_bin (fun x y => x + y) 29, o_iald 20 30, o_cv 8 38 142 6 3 3 33, am_nop],
  [am_nop, o_nret .boolean, am_nop, am_nop, am_nop, am_nop, am_nop, am_nop, am_nop, am_nop, am_nop, am_nop, am_nop, am_nop, am_nop, am_nop]]
theorem rX8_doesMeet_0 : am_allR (fun pc o => am_ok am_tb0 cX8_doesMeet RX8 3 (some .boolean) false pc o ∧ am_mo o) 0 (am_nth [] tX8_doesMeet 0) :=
  And.intro ⟨ok_aload_n dX8_doesMeet_0 rfl rfl, mo_aload⟩ (
  And.intro ⟨ok_iload_n dX8_doesMeet_1 rfl rfl, mo_iload⟩ (
  And.intro ⟨ok_aload_n dX8_doesMeet_2 rfl rfl, mo_aload⟩ (
  And.intro ⟨ok_aload_n dX8_doesMeet_3 rfl rfl, mo_aload⟩ (
  And.intro ⟨ok_getR dX8_doesMeet_4 hclX8 inWX8 (by decide) (by decide) wd_891 (fun _ _ _ => rfl) rfl, mo_getR⟩ (
  And.intro ⟨ok_nop, mo_nop⟩ (
  And.intro ⟨ok_nop, mo_nop⟩ (
  And.intro ⟨ok_bipush dX8_doesMeet_7 rfl bi_9, mo_push⟩ (
  And.intro ⟨ok_nop, mo_nop⟩ (
  And.intro ⟨ok_iconst dX8_doesMeet_9 rfl ic_2, mo_push⟩ (
  And.intro ⟨ok_iload_n dX8_doesMeet_10 rfl rfl, mo_iload⟩ (
  And.intro ⟨ok_imul dX8_doesMeet_11 rfl, mo_bin⟩ (
  And.intro ⟨ok_iadd dX8_doesMeet_12 rfl, mo_bin⟩ (
  And.intro ⟨ok_iconst dX8_doesMeet_13 rfl ic_1, mo_push⟩ (
  And.intro ⟨ok_iadd dX8_doesMeet_14 rfl, mo_bin⟩ (
  And.intro ⟨ok_iald dX8_doesMeet_15 rfl, mo_iald⟩ (
  trivial))))))))))))))))
theorem rX8_doesMeet_1 : am_allR (fun pc o => am_ok am_tb0 cX8_doesMeet RX8 3 (some .boolean) false pc o ∧ am_mo o) 16 (am_nth [] tX8_doesMeet 1) :=
  And.intro ⟨ok_cv (z := 139) dX8_doesMeet_16 hclX8 (by decide) wd_1117 wd_1119 wp_28 wd_8 wd_1120 rfl (by decide) ⟨rfl, hy_X8_earthOf⟩ rfl, mo_cv⟩ (
  And.intro ⟨ok_nop, mo_nop⟩ (
  And.intro ⟨ok_nop, mo_nop⟩ (
  And.intro ⟨ok_aload_n dX8_doesMeet_19 rfl rfl, mo_aload⟩ (
  And.intro ⟨ok_getR dX8_doesMeet_20 hclX8 inWX8 (by decide) (by decide) wd_891 (fun _ _ _ => rfl) rfl, mo_getR⟩ (
  And.intro ⟨ok_nop, mo_nop⟩ (
  And.intro ⟨ok_nop, mo_nop⟩ (
  And.intro ⟨ok_bipush dX8_doesMeet_23 rfl bi_9, mo_push⟩ (
  And.intro ⟨ok_nop, mo_nop⟩ (
  And.intro ⟨ok_iconst dX8_doesMeet_25 rfl ic_2, mo_push⟩ (
  And.intro ⟨ok_iload_n dX8_doesMeet_26 rfl rfl, mo_iload⟩ (
  And.intro ⟨ok_imul dX8_doesMeet_27 rfl, mo_bin⟩ (
  And.intro ⟨ok_iadd dX8_doesMeet_28 rfl, mo_bin⟩ (
  And.intro ⟨ok_iald dX8_doesMeet_29 rfl, mo_iald⟩ (
  And.intro ⟨ok_cv (z := 142) dX8_doesMeet_30 hclX8 (by decide) wd_1121 wd_1123 wp_29 wd_8 wd_1124 rfl (by decide) ⟨rfl, hy_X8_doesTake⟩ rfl, mo_cv⟩ (
  And.intro ⟨ok_nop, mo_nop⟩ (
  trivial))))))))))))))))
theorem rX8_doesMeet_2 : am_allR (fun pc o => am_ok am_tb0 cX8_doesMeet RX8 3 (some .boolean) false pc o ∧ am_mo o) 32 (am_nth [] tX8_doesMeet 2) :=
  And.intro ⟨ok_nop, mo_nop⟩ (
  And.intro ⟨ok_nret dX8_doesMeet_33 rfl, mo_nret⟩ (
  And.intro ⟨ok_nop, mo_nop⟩ (
  And.intro ⟨ok_nop, mo_nop⟩ (
  And.intro ⟨ok_nop, mo_nop⟩ (
  And.intro ⟨ok_nop, mo_nop⟩ (
  And.intro ⟨ok_nop, mo_nop⟩ (
  And.intro ⟨ok_nop, mo_nop⟩ (
  And.intro ⟨ok_nop, mo_nop⟩ (
  And.intro ⟨ok_nop, mo_nop⟩ (
  And.intro ⟨ok_nop, mo_nop⟩ (
  And.intro ⟨ok_nop, mo_nop⟩ (
  And.intro ⟨ok_nop, mo_nop⟩ (
  And.intro ⟨ok_nop, mo_nop⟩ (
  And.intro ⟨ok_nop, mo_nop⟩ (
  And.intro ⟨ok_nop, mo_nop⟩ (
  trivial))))))))))))))))
theorem kX8_doesMeet : am_M1 am_tb0 cX8_doesMeet RX8 3 (some .boolean) false tX8_doesMeet := And.intro rX8_doesMeet_0 (And.intro rX8_doesMeet_1 (And.intro rX8_doesMeet_2 (trivial)))
def tX8_findsHole : List (List am_Op) := [[o_push (.int 0) 1, o_istore 3 2, o_iload 3 3, o_aload 0 4, o_getR 8 38 0 7, am_nop, am_nop, o_push (.int 1) 8, o_iald 20 9, o_icmp (fun x y => y ≤ x) 83 12, am_nop, am_nop, o_iload 3 13, o_iload 2 14, o_icmp (fun x y => x = y) 77 17, am_nop],
  [am_nop, o_aload 0 18, o_getR 8 38 5 21, am_nop, am_nop, o_iload 3 22, o_iald 21 23, o_if (fun x => ¬ x = 0) 77 26, am_nop, am_nop, o_aload 0 27, o_iload 1 28, o_iload 3 29, o_cvp 8 38 147 3 4 2 32, am_nop, am_nop],
  [o_if (fun x => ¬ x = 0) 38 35, am_nop, am_nop, o_goto 77, am_nop, am_nop, o_aload 0 39, o_getR 8 38 5 42, am_nop, am_nop, o_iload 3 43, o_push (.int 1) 44, o_zast 45, o_aload 0 46, o_getR 8 38 4 49, am_nop],
  [am_nop, o_iload 3 50, o_iald 20 51, o_if (fun x => x < 0) 68 54, am_nop, am_nop, o_aload 0 55, o_aload 0 56, o_getR 8 38 4 59, am_nop, am_nop, o_iload 3 60, o_iald 20 61, o_iload 2 62, o_cvr 8 38 148 4 2 65, am_nop],
  [am_nop, o_if (fun x => x = 0) 77 68, am_nop, am_nop, o_aload 0 69, o_getR 8 38 4 72, am_nop, am_nop, o_iload 3 73, o_iload 1 74, o_iast 75, o_push (.int 1) 76, o_nret .boolean, o_iinc 3 1 80, am_nop, am_nop],
  [o_goto 2, am_nop, am_nop, o_push (.int 0) 84, o_nret .boolean, am_nop, am_nop, am_nop, am_nop, am_nop, am_nop, am_nop, am_nop, am_nop, am_nop, am_nop]]
theorem rX8_findsHole_0 : am_allR (fun pc o => am_ok am_tb0 cX8_findsHole RX8 4 (some .boolean) false pc o ∧ am_mo o) 0 (am_nth [] tX8_findsHole 0) :=
  And.intro ⟨ok_iconst dX8_findsHole_0 rfl ic_0, mo_push⟩ (
  And.intro ⟨ok_istore_n dX8_findsHole_1 rfl (by decide) rfl, mo_istore⟩ (
  And.intro ⟨ok_iload_n dX8_findsHole_2 rfl rfl, mo_iload⟩ (
  And.intro ⟨ok_aload_n dX8_findsHole_3 rfl rfl, mo_aload⟩ (
  And.intro ⟨ok_getR dX8_findsHole_4 hclX8 inWX8 (by decide) (by decide) wd_891 (fun _ _ _ => rfl) rfl, mo_getR⟩ (
  And.intro ⟨ok_nop, mo_nop⟩ (
  And.intro ⟨ok_nop, mo_nop⟩ (
  And.intro ⟨ok_iconst dX8_findsHole_7 rfl ic_1, mo_push⟩ (
  And.intro ⟨ok_iald dX8_findsHole_8 rfl, mo_iald⟩ (
  And.intro ⟨ok_icmp_ge dX8_findsHole_9 (by decide) rfl, mo_icmp⟩ (
  And.intro ⟨ok_nop, mo_nop⟩ (
  And.intro ⟨ok_nop, mo_nop⟩ (
  And.intro ⟨ok_iload_n dX8_findsHole_12 rfl rfl, mo_iload⟩ (
  And.intro ⟨ok_iload_n dX8_findsHole_13 rfl rfl, mo_iload⟩ (
  And.intro ⟨ok_icmp_eq dX8_findsHole_14 (by decide) rfl, mo_icmp⟩ (
  And.intro ⟨ok_nop, mo_nop⟩ (
  trivial))))))))))))))))
theorem rX8_findsHole_1 : am_allR (fun pc o => am_ok am_tb0 cX8_findsHole RX8 4 (some .boolean) false pc o ∧ am_mo o) 16 (am_nth [] tX8_findsHole 1) :=
  And.intro ⟨ok_nop, mo_nop⟩ (
  And.intro ⟨ok_aload_n dX8_findsHole_17 rfl rfl, mo_aload⟩ (
  And.intro ⟨ok_getR dX8_findsHole_18 hclX8 inWX8 (by decide) (by decide) wd_896 (fun _ _ _ => rfl) rfl, mo_getR⟩ (
  And.intro ⟨ok_nop, mo_nop⟩ (
  And.intro ⟨ok_nop, mo_nop⟩ (
  And.intro ⟨ok_iload_n dX8_findsHole_21 rfl rfl, mo_iload⟩ (
  And.intro ⟨ok_zald dX8_findsHole_22 rfl, mo_iald⟩ (
  And.intro ⟨ok_if_ne dX8_findsHole_23 (by decide) rfl, mo_if⟩ (
  And.intro ⟨ok_nop, mo_nop⟩ (
  And.intro ⟨ok_nop, mo_nop⟩ (
  And.intro ⟨ok_aload_n dX8_findsHole_26 rfl rfl, mo_aload⟩ (
  And.intro ⟨ok_iload_n dX8_findsHole_27 rfl rfl, mo_iload⟩ (
  And.intro ⟨ok_iload_n dX8_findsHole_28 rfl rfl, mo_iload⟩ (
  And.intro ⟨ok_cvp (z := 147) dX8_findsHole_29 hclX8 (by decide) wd_1158 wd_1160 wp_34 wd_8 wd_1161 rfl (by decide) ⟨rfl, hy_X8_doesMeet⟩ rfl, mo_cvp⟩ (
  And.intro ⟨ok_nop, mo_nop⟩ (
  And.intro ⟨ok_nop, mo_nop⟩ (
  trivial))))))))))))))))
theorem rX8_findsHole_2 : am_allR (fun pc o => am_ok am_tb0 cX8_findsHole RX8 4 (some .boolean) false pc o ∧ am_mo o) 32 (am_nth [] tX8_findsHole 2) :=
  And.intro ⟨ok_if_ne dX8_findsHole_32 (by decide) rfl, mo_if⟩ (
  And.intro ⟨ok_nop, mo_nop⟩ (
  And.intro ⟨ok_nop, mo_nop⟩ (
  And.intro ⟨ok_goto dX8_findsHole_35 (by decide), mo_goto⟩ (
  And.intro ⟨ok_nop, mo_nop⟩ (
  And.intro ⟨ok_nop, mo_nop⟩ (
  And.intro ⟨ok_aload_n dX8_findsHole_38 rfl rfl, mo_aload⟩ (
  And.intro ⟨ok_getR dX8_findsHole_39 hclX8 inWX8 (by decide) (by decide) wd_896 (fun _ _ _ => rfl) rfl, mo_getR⟩ (
  And.intro ⟨ok_nop, mo_nop⟩ (
  And.intro ⟨ok_nop, mo_nop⟩ (
  And.intro ⟨ok_iload_n dX8_findsHole_42 rfl rfl, mo_iload⟩ (
  And.intro ⟨ok_iconst dX8_findsHole_43 rfl ic_1, mo_push⟩ (
  And.intro ⟨ok_zast dX8_findsHole_44 rfl, mo_zast⟩ (
  And.intro ⟨ok_aload_n dX8_findsHole_45 rfl rfl, mo_aload⟩ (
  And.intro ⟨ok_getR dX8_findsHole_46 hclX8 inWX8 (by decide) (by decide) wd_895 (fun _ _ _ => rfl) rfl, mo_getR⟩ (
  And.intro ⟨ok_nop, mo_nop⟩ (
  trivial))))))))))))))))
theorem rX8_findsHole_3 : am_allR (fun pc o => am_ok am_tb0 cX8_findsHole RX8 4 (some .boolean) false pc o ∧ am_mo o) 48 (am_nth [] tX8_findsHole 3) :=
  And.intro ⟨ok_nop, mo_nop⟩ (
  And.intro ⟨ok_iload_n dX8_findsHole_49 rfl rfl, mo_iload⟩ (
  And.intro ⟨ok_iald dX8_findsHole_50 rfl, mo_iald⟩ (
  And.intro ⟨ok_if_lt dX8_findsHole_51 (by decide) rfl, mo_if⟩ (
  And.intro ⟨ok_nop, mo_nop⟩ (
  And.intro ⟨ok_nop, mo_nop⟩ (
  And.intro ⟨ok_aload_n dX8_findsHole_54 rfl rfl, mo_aload⟩ (
  And.intro ⟨ok_aload_n dX8_findsHole_55 rfl rfl, mo_aload⟩ (
  And.intro ⟨ok_getR dX8_findsHole_56 hclX8 inWX8 (by decide) (by decide) wd_895 (fun _ _ _ => rfl) rfl, mo_getR⟩ (
  And.intro ⟨ok_nop, mo_nop⟩ (
  And.intro ⟨ok_nop, mo_nop⟩ (
  And.intro ⟨ok_iload_n dX8_findsHole_59 rfl rfl, mo_iload⟩ (
  And.intro ⟨ok_iald dX8_findsHole_60 rfl, mo_iald⟩ (
  And.intro ⟨ok_iload_n dX8_findsHole_61 rfl rfl, mo_iload⟩ (
  And.intro ⟨ok_cvr (z := 148) dX8_findsHole_62 hclX8 (by decide) wd_1154 wd_1156 wp_33 wd_8 wd_1157 rfl (by decide) ⟨rfl, hy_X8_findsHole⟩ rfl, mo_cvr⟩ (
  And.intro ⟨ok_nop, mo_nop⟩ (
  trivial))))))))))))))))
theorem rX8_findsHole_4 : am_allR (fun pc o => am_ok am_tb0 cX8_findsHole RX8 4 (some .boolean) false pc o ∧ am_mo o) 64 (am_nth [] tX8_findsHole 4) :=
  And.intro ⟨ok_nop, mo_nop⟩ (
  And.intro ⟨ok_if_eq dX8_findsHole_65 (by decide) rfl, mo_if⟩ (
  And.intro ⟨ok_nop, mo_nop⟩ (
  And.intro ⟨ok_nop, mo_nop⟩ (
  And.intro ⟨ok_aload_n dX8_findsHole_68 rfl rfl, mo_aload⟩ (
  And.intro ⟨ok_getR dX8_findsHole_69 hclX8 inWX8 (by decide) (by decide) wd_895 (fun _ _ _ => rfl) rfl, mo_getR⟩ (
  And.intro ⟨ok_nop, mo_nop⟩ (
  And.intro ⟨ok_nop, mo_nop⟩ (
  And.intro ⟨ok_iload_n dX8_findsHole_72 rfl rfl, mo_iload⟩ (
  And.intro ⟨ok_iload_n dX8_findsHole_73 rfl rfl, mo_iload⟩ (
  And.intro ⟨ok_iast dX8_findsHole_74 rfl, mo_iast⟩ (
  And.intro ⟨ok_iconst dX8_findsHole_75 rfl ic_1, mo_push⟩ (
  And.intro ⟨ok_nret dX8_findsHole_76 rfl, mo_nret⟩ (
  And.intro ⟨ok_iinc dX8_findsHole_77 ic_1 (by decide) rfl, mo_iinc⟩ (
  And.intro ⟨ok_nop, mo_nop⟩ (
  And.intro ⟨ok_nop, mo_nop⟩ (
  trivial))))))))))))))))
theorem rX8_findsHole_5 : am_allR (fun pc o => am_ok am_tb0 cX8_findsHole RX8 4 (some .boolean) false pc o ∧ am_mo o) 80 (am_nth [] tX8_findsHole 5) :=
  And.intro ⟨ok_goto dX8_findsHole_80 (by decide), mo_goto⟩ (
  And.intro ⟨ok_nop, mo_nop⟩ (
  And.intro ⟨ok_nop, mo_nop⟩ (
  And.intro ⟨ok_iconst dX8_findsHole_83 rfl ic_0, mo_push⟩ (
  And.intro ⟨ok_nret dX8_findsHole_84 rfl, mo_nret⟩ (
  And.intro ⟨ok_nop, mo_nop⟩ (
  And.intro ⟨ok_nop, mo_nop⟩ (
  And.intro ⟨ok_nop, mo_nop⟩ (
  And.intro ⟨ok_nop, mo_nop⟩ (
  And.intro ⟨ok_nop, mo_nop⟩ (
  And.intro ⟨ok_nop, mo_nop⟩ (
  And.intro ⟨ok_nop, mo_nop⟩ (
  And.intro ⟨ok_nop, mo_nop⟩ (
  And.intro ⟨ok_nop, mo_nop⟩ (
  And.intro ⟨ok_nop, mo_nop⟩ (
  And.intro ⟨ok_nop, mo_nop⟩ (
  trivial))))))))))))))))
theorem kX8_findsHole : am_M1 am_tb0 cX8_findsHole RX8 4 (some .boolean) false tX8_findsHole := And.intro rX8_findsHole_0 (And.intro rX8_findsHole_1 (And.intro rX8_findsHole_2 (And.intro rX8_findsHole_3 (And.intro rX8_findsHole_4 (And.intro rX8_findsHole_5 (trivial))))))
def tX8_metBut : List (List am_Op) := [[o_push (.int 0) 1, o_istore 2 2, o_iload 2 3, o_push (.int 11) 5, am_nop, o_icmp (fun x y => y ≤ x) 21 8, am_nop, am_nop, o_aload 0 9, o_getR 8 38 4 12, am_nop, am_nop, o_iload 2 13, o_push (.int (-1)) 14, o_iast 15, o_iinc 2 1 18],
  [am_nop, am_nop, o_goto 2, am_nop, am_nop, o_push (.int 0) 22, o_istore 2 23, o_push (.int 0) 24, o_istore 3 25, o_iload 3 26, o_aload 0 27, o_getR 8 38 0 30, am_nop, am_nop, o_push (.int 7) 32, am_nop],
  [o_iald 20 33, o_icmp (fun x y => y ≤ x) 83 36, am_nop, am_nop, o_push (.int 0) 37, o_istore 4 39, am_nop, o_iload 4 41, am_nop, o_push (.int 11) 43, am_nop, o_icmp (fun x y => y ≤ x) 60 46, am_nop, am_nop, o_aload 0 47, o_getR 8 38 5 50],
  [am_nop, am_nop, o_iload 4 52, am_nop, o_push (.int 0) 53, o_zast 54, o_iinc 4 1 57, am_nop, am_nop, o_goto 39, am_nop, am_nop, o_iload 2 61, o_aload 0 62, o_iload 3 63, o_iload 1 64],
  [o_cv 8 38 148 4 24 2 67, am_nop, am_nop, o_if (fun x => x = 0) 74 70, am_nop, am_nop, o_push (.int 1) 71, o_goto 75, am_nop, am_nop, o_push (.int 0) 75, o_bin (fun x y => x + y) 76, o_istore 2 77, o_iinc 3 1 80, am_nop, am_nop],
  [o_goto 25, am_nop, am_nop, o_iload 2 84, o_iret, am_nop, am_nop, am_nop, am_nop, am_nop, am_nop, am_nop, am_nop, am_nop, am_nop, am_nop]]
theorem rX8_metBut_0 : am_allR (fun pc o => am_ok am_tb0 cX8_metBut RX8 5 (some .int) false pc o ∧ am_mo o) 0 (am_nth [] tX8_metBut 0) :=
  And.intro ⟨ok_iconst dX8_metBut_0 rfl ic_0, mo_push⟩ (
  And.intro ⟨ok_istore_n dX8_metBut_1 rfl (by decide) rfl, mo_istore⟩ (
  And.intro ⟨ok_iload_n dX8_metBut_2 rfl rfl, mo_iload⟩ (
  And.intro ⟨ok_bipush dX8_metBut_3 rfl bi_11, mo_push⟩ (
  And.intro ⟨ok_nop, mo_nop⟩ (
  And.intro ⟨ok_icmp_ge dX8_metBut_5 (by decide) rfl, mo_icmp⟩ (
  And.intro ⟨ok_nop, mo_nop⟩ (
  And.intro ⟨ok_nop, mo_nop⟩ (
  And.intro ⟨ok_aload_n dX8_metBut_8 rfl rfl, mo_aload⟩ (
  And.intro ⟨ok_getR dX8_metBut_9 hclX8 inWX8 (by decide) (by decide) wd_895 (fun _ _ _ => rfl) rfl, mo_getR⟩ (
  And.intro ⟨ok_nop, mo_nop⟩ (
  And.intro ⟨ok_nop, mo_nop⟩ (
  And.intro ⟨ok_iload_n dX8_metBut_12 rfl rfl, mo_iload⟩ (
  And.intro ⟨ok_iconst dX8_metBut_13 rfl ic_m1, mo_push⟩ (
  And.intro ⟨ok_iast dX8_metBut_14 rfl, mo_iast⟩ (
  And.intro ⟨ok_iinc dX8_metBut_15 ic_1 (by decide) rfl, mo_iinc⟩ (
  trivial))))))))))))))))
theorem rX8_metBut_1 : am_allR (fun pc o => am_ok am_tb0 cX8_metBut RX8 5 (some .int) false pc o ∧ am_mo o) 16 (am_nth [] tX8_metBut 1) :=
  And.intro ⟨ok_nop, mo_nop⟩ (
  And.intro ⟨ok_nop, mo_nop⟩ (
  And.intro ⟨ok_goto dX8_metBut_18 (by decide), mo_goto⟩ (
  And.intro ⟨ok_nop, mo_nop⟩ (
  And.intro ⟨ok_nop, mo_nop⟩ (
  And.intro ⟨ok_iconst dX8_metBut_21 rfl ic_0, mo_push⟩ (
  And.intro ⟨ok_istore_n dX8_metBut_22 rfl (by decide) rfl, mo_istore⟩ (
  And.intro ⟨ok_iconst dX8_metBut_23 rfl ic_0, mo_push⟩ (
  And.intro ⟨ok_istore_n dX8_metBut_24 rfl (by decide) rfl, mo_istore⟩ (
  And.intro ⟨ok_iload_n dX8_metBut_25 rfl rfl, mo_iload⟩ (
  And.intro ⟨ok_aload_n dX8_metBut_26 rfl rfl, mo_aload⟩ (
  And.intro ⟨ok_getR dX8_metBut_27 hclX8 inWX8 (by decide) (by decide) wd_891 (fun _ _ _ => rfl) rfl, mo_getR⟩ (
  And.intro ⟨ok_nop, mo_nop⟩ (
  And.intro ⟨ok_nop, mo_nop⟩ (
  And.intro ⟨ok_bipush dX8_metBut_30 rfl bi_7, mo_push⟩ (
  And.intro ⟨ok_nop, mo_nop⟩ (
  trivial))))))))))))))))
theorem rX8_metBut_2 : am_allR (fun pc o => am_ok am_tb0 cX8_metBut RX8 5 (some .int) false pc o ∧ am_mo o) 32 (am_nth [] tX8_metBut 2) :=
  And.intro ⟨ok_iald dX8_metBut_32 rfl, mo_iald⟩ (
  And.intro ⟨ok_icmp_ge dX8_metBut_33 (by decide) rfl, mo_icmp⟩ (
  And.intro ⟨ok_nop, mo_nop⟩ (
  And.intro ⟨ok_nop, mo_nop⟩ (
  And.intro ⟨ok_iconst dX8_metBut_36 rfl ic_0, mo_push⟩ (
  And.intro ⟨ok_istore dX8_metBut_37 (by decide) rfl, mo_istore⟩ (
  And.intro ⟨ok_nop, mo_nop⟩ (
  And.intro ⟨ok_iload dX8_metBut_39 rfl, mo_iload⟩ (
  And.intro ⟨ok_nop, mo_nop⟩ (
  And.intro ⟨ok_bipush dX8_metBut_41 rfl bi_11, mo_push⟩ (
  And.intro ⟨ok_nop, mo_nop⟩ (
  And.intro ⟨ok_icmp_ge dX8_metBut_43 (by decide) rfl, mo_icmp⟩ (
  And.intro ⟨ok_nop, mo_nop⟩ (
  And.intro ⟨ok_nop, mo_nop⟩ (
  And.intro ⟨ok_aload_n dX8_metBut_46 rfl rfl, mo_aload⟩ (
  And.intro ⟨ok_getR dX8_metBut_47 hclX8 inWX8 (by decide) (by decide) wd_896 (fun _ _ _ => rfl) rfl, mo_getR⟩ (
  trivial))))))))))))))))
theorem rX8_metBut_3 : am_allR (fun pc o => am_ok am_tb0 cX8_metBut RX8 5 (some .int) false pc o ∧ am_mo o) 48 (am_nth [] tX8_metBut 3) :=
  And.intro ⟨ok_nop, mo_nop⟩ (
  And.intro ⟨ok_nop, mo_nop⟩ (
  And.intro ⟨ok_iload dX8_metBut_50 rfl, mo_iload⟩ (
  And.intro ⟨ok_nop, mo_nop⟩ (
  And.intro ⟨ok_iconst dX8_metBut_52 rfl ic_0, mo_push⟩ (
  And.intro ⟨ok_zast dX8_metBut_53 rfl, mo_zast⟩ (
  And.intro ⟨ok_iinc dX8_metBut_54 ic_1 (by decide) rfl, mo_iinc⟩ (
  And.intro ⟨ok_nop, mo_nop⟩ (
  And.intro ⟨ok_nop, mo_nop⟩ (
  And.intro ⟨ok_goto dX8_metBut_57 (by decide), mo_goto⟩ (
  And.intro ⟨ok_nop, mo_nop⟩ (
  And.intro ⟨ok_nop, mo_nop⟩ (
  And.intro ⟨ok_iload_n dX8_metBut_60 rfl rfl, mo_iload⟩ (
  And.intro ⟨ok_aload_n dX8_metBut_61 rfl rfl, mo_aload⟩ (
  And.intro ⟨ok_iload_n dX8_metBut_62 rfl rfl, mo_iload⟩ (
  And.intro ⟨ok_iload_n dX8_metBut_63 rfl rfl, mo_iload⟩ (
  trivial))))))))))))))))
theorem rX8_metBut_4 : am_allR (fun pc o => am_ok am_tb0 cX8_metBut RX8 5 (some .int) false pc o ∧ am_mo o) 64 (am_nth [] tX8_metBut 4) :=
  And.intro ⟨ok_cv (z := 148) dX8_metBut_64 hclX8 (by decide) wd_1154 wd_1156 wp_33 wd_8 wd_1157 rfl (by decide) ⟨rfl, hy_X8_findsHole⟩ rfl, mo_cv⟩ (
  And.intro ⟨ok_nop, mo_nop⟩ (
  And.intro ⟨ok_nop, mo_nop⟩ (
  And.intro ⟨ok_if_eq dX8_metBut_67 (by decide) rfl, mo_if⟩ (
  And.intro ⟨ok_nop, mo_nop⟩ (
  And.intro ⟨ok_nop, mo_nop⟩ (
  And.intro ⟨ok_iconst dX8_metBut_70 rfl ic_1, mo_push⟩ (
  And.intro ⟨ok_goto dX8_metBut_71 (by decide), mo_goto⟩ (
  And.intro ⟨ok_nop, mo_nop⟩ (
  And.intro ⟨ok_nop, mo_nop⟩ (
  And.intro ⟨ok_iconst dX8_metBut_74 rfl ic_0, mo_push⟩ (
  And.intro ⟨ok_iadd dX8_metBut_75 rfl, mo_bin⟩ (
  And.intro ⟨ok_istore_n dX8_metBut_76 rfl (by decide) rfl, mo_istore⟩ (
  And.intro ⟨ok_iinc dX8_metBut_77 ic_1 (by decide) rfl, mo_iinc⟩ (
  And.intro ⟨ok_nop, mo_nop⟩ (
  And.intro ⟨ok_nop, mo_nop⟩ (
  trivial))))))))))))))))
theorem rX8_metBut_5 : am_allR (fun pc o => am_ok am_tb0 cX8_metBut RX8 5 (some .int) false pc o ∧ am_mo o) 80 (am_nth [] tX8_metBut 5) :=
  And.intro ⟨ok_goto dX8_metBut_80 (by decide), mo_goto⟩ (
  And.intro ⟨ok_nop, mo_nop⟩ (
  And.intro ⟨ok_nop, mo_nop⟩ (
  And.intro ⟨ok_iload_n dX8_metBut_83 rfl rfl, mo_iload⟩ (
  And.intro ⟨ok_iret dX8_metBut_84 rfl, mo_iret⟩ (
  And.intro ⟨ok_nop, mo_nop⟩ (
  And.intro ⟨ok_nop, mo_nop⟩ (
  And.intro ⟨ok_nop, mo_nop⟩ (
  And.intro ⟨ok_nop, mo_nop⟩ (
  And.intro ⟨ok_nop, mo_nop⟩ (
  And.intro ⟨ok_nop, mo_nop⟩ (
  And.intro ⟨ok_nop, mo_nop⟩ (
  And.intro ⟨ok_nop, mo_nop⟩ (
  And.intro ⟨ok_nop, mo_nop⟩ (
  And.intro ⟨ok_nop, mo_nop⟩ (
  And.intro ⟨ok_nop, mo_nop⟩ (
  trivial))))))))))))))))
theorem kX8_metBut : am_M1 am_tb0 cX8_metBut RX8 5 (some .int) false tX8_metBut := And.intro rX8_metBut_0 (And.intro rX8_metBut_1 (And.intro rX8_metBut_2 (And.intro rX8_metBut_3 (And.intro rX8_metBut_4 (And.intro rX8_metBut_5 (trivial))))))
def tX8_scoreOf : List (List am_Op) := [[o_aload 0 1, o_getR 8 38 6 4, am_nop, am_nop, o_push (.int 1024) 7, am_nop, am_nop, o_iload 1 8, o_push (.int 1) 9, o_bin (fun x y => x + y) 10, o_bin (fun x y => x * y) 11, o_iload 2 12, o_push (.int 1) 13, o_iload 3 14, o_bin (fun x y => x <<< (y &&& 31)) 15, o_bin (fun x y => x ||| y) 16],
  [o_bin (fun x y => x + y) 17, o_iald 20 18, o_push (.int 1000) 21, am_nop, am_nop, o_bin (fun x y => x + y) 22, o_aload 0 23, o_iload 3 24, o_aload 0 25, o_getR 8 38 0 28, am_nop, am_nop, o_push (.int 9) 30, am_nop, o_push (.int 2) 31, o_iload 1 32],
  [o_bin (fun x y => x * y) 33, o_bin (fun x y => x + y) 34, o_iald 20 35, o_cv 8 38 140 4 1 2 38, am_nop, am_nop, o_bin (fun x y => x - y) 39, o_iret, am_nop, am_nop, am_nop, am_nop, am_nop, am_nop, am_nop, am_nop]]
theorem rX8_scoreOf_0 : am_allR (fun pc o => am_ok am_tb0 cX8_scoreOf RX8 4 (some .int) false pc o ∧ am_mo o) 0 (am_nth [] tX8_scoreOf 0) :=
  And.intro ⟨ok_aload_n dX8_scoreOf_0 rfl rfl, mo_aload⟩ (
  And.intro ⟨ok_getR dX8_scoreOf_1 hclX8 inWX8 (by decide) (by decide) wd_897 (fun _ _ _ => rfl) rfl, mo_getR⟩ (
  And.intro ⟨ok_nop, mo_nop⟩ (
  And.intro ⟨ok_nop, mo_nop⟩ (
  And.intro ⟨ok_sipush dX8_scoreOf_4 rfl si_1024, mo_push⟩ (
  And.intro ⟨ok_nop, mo_nop⟩ (
  And.intro ⟨ok_nop, mo_nop⟩ (
  And.intro ⟨ok_iload_n dX8_scoreOf_7 rfl rfl, mo_iload⟩ (
  And.intro ⟨ok_iconst dX8_scoreOf_8 rfl ic_1, mo_push⟩ (
  And.intro ⟨ok_iadd dX8_scoreOf_9 rfl, mo_bin⟩ (
  And.intro ⟨ok_imul dX8_scoreOf_10 rfl, mo_bin⟩ (
  And.intro ⟨ok_iload_n dX8_scoreOf_11 rfl rfl, mo_iload⟩ (
  And.intro ⟨ok_iconst dX8_scoreOf_12 rfl ic_1, mo_push⟩ (
  And.intro ⟨ok_iload_n dX8_scoreOf_13 rfl rfl, mo_iload⟩ (
  And.intro ⟨ok_ishl dX8_scoreOf_14 rfl, mo_bin⟩ (
  And.intro ⟨ok_ior dX8_scoreOf_15 rfl, mo_bin⟩ (
  trivial))))))))))))))))
theorem rX8_scoreOf_1 : am_allR (fun pc o => am_ok am_tb0 cX8_scoreOf RX8 4 (some .int) false pc o ∧ am_mo o) 16 (am_nth [] tX8_scoreOf 1) :=
  And.intro ⟨ok_iadd dX8_scoreOf_16 rfl, mo_bin⟩ (
  And.intro ⟨ok_iald dX8_scoreOf_17 rfl, mo_iald⟩ (
  And.intro ⟨ok_sipush dX8_scoreOf_18 rfl si_1000, mo_push⟩ (
  And.intro ⟨ok_nop, mo_nop⟩ (
  And.intro ⟨ok_nop, mo_nop⟩ (
  And.intro ⟨ok_iadd dX8_scoreOf_21 rfl, mo_bin⟩ (
  And.intro ⟨ok_aload_n dX8_scoreOf_22 rfl rfl, mo_aload⟩ (
  And.intro ⟨ok_iload_n dX8_scoreOf_23 rfl rfl, mo_iload⟩ (
  And.intro ⟨ok_aload_n dX8_scoreOf_24 rfl rfl, mo_aload⟩ (
  And.intro ⟨ok_getR dX8_scoreOf_25 hclX8 inWX8 (by decide) (by decide) wd_891 (fun _ _ _ => rfl) rfl, mo_getR⟩ (
  And.intro ⟨ok_nop, mo_nop⟩ (
  And.intro ⟨ok_nop, mo_nop⟩ (
  And.intro ⟨ok_bipush dX8_scoreOf_28 rfl bi_9, mo_push⟩ (
  And.intro ⟨ok_nop, mo_nop⟩ (
  And.intro ⟨ok_iconst dX8_scoreOf_30 rfl ic_2, mo_push⟩ (
  And.intro ⟨ok_iload_n dX8_scoreOf_31 rfl rfl, mo_iload⟩ (
  trivial))))))))))))))))
theorem rX8_scoreOf_2 : am_allR (fun pc o => am_ok am_tb0 cX8_scoreOf RX8 4 (some .int) false pc o ∧ am_mo o) 32 (am_nth [] tX8_scoreOf 2) :=
  And.intro ⟨ok_imul dX8_scoreOf_32 rfl, mo_bin⟩ (
  And.intro ⟨ok_iadd dX8_scoreOf_33 rfl, mo_bin⟩ (
  And.intro ⟨ok_iald dX8_scoreOf_34 rfl, mo_iald⟩ (
  And.intro ⟨ok_cv (z := 140) dX8_scoreOf_35 hclX8 (by decide) wd_1125 wd_1127 wp_30 wd_8 wd_1128 rfl (by decide) ⟨rfl, hy_X8_apart⟩ rfl, mo_cv⟩ (
  And.intro ⟨ok_nop, mo_nop⟩ (
  And.intro ⟨ok_nop, mo_nop⟩ (
  And.intro ⟨ok_isub dX8_scoreOf_38 rfl, mo_bin⟩ (
  And.intro ⟨ok_iret dX8_scoreOf_39 rfl, mo_iret⟩ (
  And.intro ⟨ok_nop, mo_nop⟩ (
  And.intro ⟨ok_nop, mo_nop⟩ (
  And.intro ⟨ok_nop, mo_nop⟩ (
  And.intro ⟨ok_nop, mo_nop⟩ (
  And.intro ⟨ok_nop, mo_nop⟩ (
  And.intro ⟨ok_nop, mo_nop⟩ (
  And.intro ⟨ok_nop, mo_nop⟩ (
  And.intro ⟨ok_nop, mo_nop⟩ (
  trivial))))))))))))))))
theorem kX8_scoreOf : am_M1 am_tb0 cX8_scoreOf RX8 4 (some .int) false tX8_scoreOf := And.intro rX8_scoreOf_0 (And.intro rX8_scoreOf_1 (And.intro rX8_scoreOf_2 (trivial)))
def tX8_findDealing : List (List am_Op) := [[o_aload 0 1, o_getR 8 38 0 4, am_nop, am_nop, o_push (.int 7) 6, am_nop, o_iald 20 7, o_istore 1 8, o_push (.int 0) 9, o_istore 2 10, o_iload 2 11, o_push (.int 1) 12, o_aload 0 13, o_getR 8 38 0 16, am_nop, am_nop],
  [o_push (.int 1) 17, o_iald 20 18, o_bin (fun x y => x <<< (y &&& 31)) 19, o_icmp (fun x y => y ≤ x) 41 22, am_nop, am_nop, o_aload 0 23, o_getR 8 38 6 26, am_nop, am_nop, o_push (.int 1024) 29, am_nop, am_nop, o_iload 1 30, o_bin (fun x y => x * y) 31, o_iload 2 32],
  [o_bin (fun x y => x + y) 33, o_push (.int 0) 34, o_iast 35, o_iinc 2 1 38, am_nop, am_nop, o_goto 10, am_nop, am_nop, o_iload 1 42, o_push (.int 1) 43, o_bin (fun x y => x - y) 44, o_istore 2 45, o_iload 2 46, o_if (fun x => x < 0) 213 49, am_nop],
  [am_nop, o_push (.int 0) 50, o_istore 3 51, o_push (.int 0) 52, o_istore 4 54, am_nop, o_iload 4 56, am_nop, o_aload 0 57, o_getR 8 38 0 60, am_nop, am_nop, o_push (.int 1) 61, o_iald 20 62, o_icmp (fun x y => y ≤ x) 92 65, am_nop],
  [am_nop, o_iload 3 66, o_aload 0 67, o_iload 2 68, o_iload 4 70, am_nop, o_cv 8 38 147 3 4 2 73, am_nop, am_nop, o_if (fun x => x = 0) 83 76, am_nop, am_nop, o_push (.int 1) 77, o_iload 4 79, am_nop, o_bin (fun x y => x <<< (y &&& 31)) 80],
  [o_goto 84, am_nop, am_nop, o_push (.int 0) 84, o_bin (fun x y => x ||| y) 85, o_istore 3 86, o_iinc 4 1 89, am_nop, am_nop, o_goto 54, am_nop, am_nop, o_push (.int 0) 93, o_istore 4 95, am_nop, o_iload 4 97],
  [am_nop, o_push (.int 1) 98, o_aload 0 99, o_getR 8 38 0 102, am_nop, am_nop, o_push (.int 1) 103, o_iald 20 104, o_bin (fun x y => x <<< (y &&& 31)) 105, o_icmp (fun x y => y ≤ x) 207 108, am_nop, am_nop, o_aload 0 109, o_getR 8 38 6 112, am_nop, am_nop],
  [o_push (.int 1024) 115, am_nop, am_nop, o_iload 2 116, o_push (.int 1) 117, o_bin (fun x y => x + y) 118, o_bin (fun x y => x * y) 119, o_iload 4 121, am_nop, o_bin (fun x y => x + y) 122, o_iald 20 123, o_istore 5 125, am_nop, o_push (.int 0) 126, o_istore 6 128, am_nop],
  [o_iload 6 130, am_nop, o_aload 0 131, o_getR 8 38 0 134, am_nop, am_nop, o_push (.int 1) 135, o_iald 20 136, o_icmp (fun x y => y ≤ x) 186 139, am_nop, am_nop, o_iload 3 140, o_iload 4 142, am_nop, o_push (.int (-1)) 143, o_bin (fun x y => x ^^^ y) 144],
  [o_bin (fun x y => x &&& y) 145, o_push (.int 1) 146, o_iload 6 148, am_nop, o_bin (fun x y => x <<< (y &&& 31)) 149, o_bin (fun x y => x &&& y) 150, o_if (fun x => x = 0) 180 153, am_nop, am_nop, o_aload 0 154, o_iload 2 155, o_iload 4 157, am_nop, o_iload 6 159, am_nop, o_cv 8 38 150 4 2 3 162],
  [am_nop, am_nop, o_istore 7 164, am_nop, o_iload 7 166, am_nop, o_iload 5 168, am_nop, o_icmp (fun x y => x ≤ y) 176 171, am_nop, am_nop, o_iload 7 173, am_nop, o_goto 178, am_nop, am_nop],
  [o_iload 5 178, am_nop, o_istore 5 180, am_nop, o_iinc 6 1 183, am_nop, am_nop, o_goto 128, am_nop, am_nop, o_aload 0 187, o_getR 8 38 6 190, am_nop, am_nop, o_push (.int 1024) 193, am_nop],
  [am_nop, o_iload 2 194, o_bin (fun x y => x * y) 195, o_iload 4 197, am_nop, o_bin (fun x y => x + y) 198, o_iload 5 200, am_nop, o_iast 201, o_iinc 4 1 204, am_nop, am_nop, o_goto 95, am_nop, am_nop, o_iinc 2 (-1) 210],
  [am_nop, am_nop, o_goto 45, am_nop, am_nop, o_push (.int 0) 214, o_istore 2 215, o_push (.int 0) 216, o_istore 3 217, o_iload 3 218, o_iload 1 219, o_icmp (fun x y => y ≤ x) 351 222, am_nop, am_nop, o_aload 0 223, o_getR 8 38 7 226],
  [am_nop, am_nop, o_iload 3 227, o_push (.int (-1)) 228, o_iast 229, o_aload 0 230, o_getR 8 38 0 233, am_nop, am_nop, o_push (.int 1) 234, o_iald 20 235, o_push (.int 1) 236, o_bin (fun x y => x - y) 237, o_istore 4 239, am_nop, o_iload 4 241],
  [am_nop, o_if (fun x => x < 0) 321 244, am_nop, am_nop, o_iload 2 245, o_iload 4 247, am_nop, o_bin (fun x y => x >>> (y &&& 31)) 248, o_push (.int 1) 249, o_bin (fun x y => x &&& y) 250, o_if (fun x => ¬ x = 0) 290 253, am_nop, am_nop, o_aload 0 254, o_iload 3 255, o_iload 4 257],
  [am_nop, o_cv 8 38 147 3 4 2 260, am_nop, am_nop, o_if (fun x => x = 0) 290 263, am_nop, am_nop, o_aload 0 264, o_iload 3 265, o_iload 2 266, o_iload 4 268, am_nop, o_cv 8 38 150 4 2 3 271, am_nop, am_nop, o_aload 0 272],
  [o_getR 8 38 6 275, am_nop, am_nop, o_push (.int 1024) 278, am_nop, am_nop, o_iload 3 279, o_bin (fun x y => x * y) 280, o_iload 2 281, o_bin (fun x y => x + y) 282, o_iald 20 283, o_icmp (fun x y => ¬ x = y) 290 286, am_nop, am_nop, o_push (.int 1) 287, o_goto 291],
  [am_nop, am_nop, o_push (.int 0) 291, o_istore 5 293, am_nop, o_aload 0 294, o_getR 8 38 7 297, am_nop, am_nop, o_iload 3 298, o_iload 5 300, am_nop, o_if (fun x => x = 0) 308 303, am_nop, am_nop, o_iload 4 305],
  [am_nop, o_goto 314, am_nop, am_nop, o_aload 0 309, o_getR 8 38 7 312, am_nop, am_nop, o_iload 3 313, o_iald 20 314, o_iast 315, o_iinc 4 (-1) 318, am_nop, am_nop, o_goto 239, am_nop],
  [am_nop, o_iload 2 322, o_aload 0 323, o_getR 8 38 7 326, am_nop, am_nop, o_iload 3 327, o_iald 20 328, o_if (fun x => 0 ≤ x) 335 331, am_nop, am_nop, o_push (.int 0) 332, o_goto 343, am_nop, am_nop, o_push (.int 1) 336],
  [o_aload 0 337, o_getR 8 38 7 340, am_nop, am_nop, o_iload 3 341, o_iald 20 342, o_bin (fun x y => x <<< (y &&& 31)) 343, o_bin (fun x y => x ||| y) 344, o_istore 2 345, o_iinc 3 1 348, am_nop, am_nop, o_goto 217, am_nop, am_nop, o_ret]]
theorem rX8_findDealing_0 : am_allR (fun pc o => am_ok am_tb0 cX8_findDealing RX8 8 none false pc o ∧ am_mo o) 0 (am_nth [] tX8_findDealing 0) :=
  And.intro ⟨ok_aload_n dX8_findDealing_0 rfl rfl, mo_aload⟩ (
  And.intro ⟨ok_getR dX8_findDealing_1 hclX8 inWX8 (by decide) (by decide) wd_891 (fun _ _ _ => rfl) rfl, mo_getR⟩ (
  And.intro ⟨ok_nop, mo_nop⟩ (
  And.intro ⟨ok_nop, mo_nop⟩ (
  And.intro ⟨ok_bipush dX8_findDealing_4 rfl bi_7, mo_push⟩ (
  And.intro ⟨ok_nop, mo_nop⟩ (
  And.intro ⟨ok_iald dX8_findDealing_6 rfl, mo_iald⟩ (
  And.intro ⟨ok_istore_n dX8_findDealing_7 rfl (by decide) rfl, mo_istore⟩ (
  And.intro ⟨ok_iconst dX8_findDealing_8 rfl ic_0, mo_push⟩ (
  And.intro ⟨ok_istore_n dX8_findDealing_9 rfl (by decide) rfl, mo_istore⟩ (
  And.intro ⟨ok_iload_n dX8_findDealing_10 rfl rfl, mo_iload⟩ (
  And.intro ⟨ok_iconst dX8_findDealing_11 rfl ic_1, mo_push⟩ (
  And.intro ⟨ok_aload_n dX8_findDealing_12 rfl rfl, mo_aload⟩ (
  And.intro ⟨ok_getR dX8_findDealing_13 hclX8 inWX8 (by decide) (by decide) wd_891 (fun _ _ _ => rfl) rfl, mo_getR⟩ (
  And.intro ⟨ok_nop, mo_nop⟩ (
  And.intro ⟨ok_nop, mo_nop⟩ (
  trivial))))))))))))))))
theorem rX8_findDealing_1 : am_allR (fun pc o => am_ok am_tb0 cX8_findDealing RX8 8 none false pc o ∧ am_mo o) 16 (am_nth [] tX8_findDealing 1) :=
  And.intro ⟨ok_iconst dX8_findDealing_16 rfl ic_1, mo_push⟩ (
  And.intro ⟨ok_iald dX8_findDealing_17 rfl, mo_iald⟩ (
  And.intro ⟨ok_ishl dX8_findDealing_18 rfl, mo_bin⟩ (
  And.intro ⟨ok_icmp_ge dX8_findDealing_19 (by decide) rfl, mo_icmp⟩ (
  And.intro ⟨ok_nop, mo_nop⟩ (
  And.intro ⟨ok_nop, mo_nop⟩ (
  And.intro ⟨ok_aload_n dX8_findDealing_22 rfl rfl, mo_aload⟩ (
  And.intro ⟨ok_getR dX8_findDealing_23 hclX8 inWX8 (by decide) (by decide) wd_897 (fun _ _ _ => rfl) rfl, mo_getR⟩ (
  And.intro ⟨ok_nop, mo_nop⟩ (
  And.intro ⟨ok_nop, mo_nop⟩ (
  And.intro ⟨ok_sipush dX8_findDealing_26 rfl si_1024, mo_push⟩ (
  And.intro ⟨ok_nop, mo_nop⟩ (
  And.intro ⟨ok_nop, mo_nop⟩ (
  And.intro ⟨ok_iload_n dX8_findDealing_29 rfl rfl, mo_iload⟩ (
  And.intro ⟨ok_imul dX8_findDealing_30 rfl, mo_bin⟩ (
  And.intro ⟨ok_iload_n dX8_findDealing_31 rfl rfl, mo_iload⟩ (
  trivial))))))))))))))))
theorem rX8_findDealing_2 : am_allR (fun pc o => am_ok am_tb0 cX8_findDealing RX8 8 none false pc o ∧ am_mo o) 32 (am_nth [] tX8_findDealing 2) :=
  And.intro ⟨ok_iadd dX8_findDealing_32 rfl, mo_bin⟩ (
  And.intro ⟨ok_iconst dX8_findDealing_33 rfl ic_0, mo_push⟩ (
  And.intro ⟨ok_iast dX8_findDealing_34 rfl, mo_iast⟩ (
  And.intro ⟨ok_iinc dX8_findDealing_35 ic_1 (by decide) rfl, mo_iinc⟩ (
  And.intro ⟨ok_nop, mo_nop⟩ (
  And.intro ⟨ok_nop, mo_nop⟩ (
  And.intro ⟨ok_goto dX8_findDealing_38 (by decide), mo_goto⟩ (
  And.intro ⟨ok_nop, mo_nop⟩ (
  And.intro ⟨ok_nop, mo_nop⟩ (
  And.intro ⟨ok_iload_n dX8_findDealing_41 rfl rfl, mo_iload⟩ (
  And.intro ⟨ok_iconst dX8_findDealing_42 rfl ic_1, mo_push⟩ (
  And.intro ⟨ok_isub dX8_findDealing_43 rfl, mo_bin⟩ (
  And.intro ⟨ok_istore_n dX8_findDealing_44 rfl (by decide) rfl, mo_istore⟩ (
  And.intro ⟨ok_iload_n dX8_findDealing_45 rfl rfl, mo_iload⟩ (
  And.intro ⟨ok_if_lt dX8_findDealing_46 (by decide) rfl, mo_if⟩ (
  And.intro ⟨ok_nop, mo_nop⟩ (
  trivial))))))))))))))))
theorem rX8_findDealing_3 : am_allR (fun pc o => am_ok am_tb0 cX8_findDealing RX8 8 none false pc o ∧ am_mo o) 48 (am_nth [] tX8_findDealing 3) :=
  And.intro ⟨ok_nop, mo_nop⟩ (
  And.intro ⟨ok_iconst dX8_findDealing_49 rfl ic_0, mo_push⟩ (
  And.intro ⟨ok_istore_n dX8_findDealing_50 rfl (by decide) rfl, mo_istore⟩ (
  And.intro ⟨ok_iconst dX8_findDealing_51 rfl ic_0, mo_push⟩ (
  And.intro ⟨ok_istore dX8_findDealing_52 (by decide) rfl, mo_istore⟩ (
  And.intro ⟨ok_nop, mo_nop⟩ (
  And.intro ⟨ok_iload dX8_findDealing_54 rfl, mo_iload⟩ (
  And.intro ⟨ok_nop, mo_nop⟩ (
  And.intro ⟨ok_aload_n dX8_findDealing_56 rfl rfl, mo_aload⟩ (
  And.intro ⟨ok_getR dX8_findDealing_57 hclX8 inWX8 (by decide) (by decide) wd_891 (fun _ _ _ => rfl) rfl, mo_getR⟩ (
  And.intro ⟨ok_nop, mo_nop⟩ (
  And.intro ⟨ok_nop, mo_nop⟩ (
  And.intro ⟨ok_iconst dX8_findDealing_60 rfl ic_1, mo_push⟩ (
  And.intro ⟨ok_iald dX8_findDealing_61 rfl, mo_iald⟩ (
  And.intro ⟨ok_icmp_ge dX8_findDealing_62 (by decide) rfl, mo_icmp⟩ (
  And.intro ⟨ok_nop, mo_nop⟩ (
  trivial))))))))))))))))
theorem rX8_findDealing_4 : am_allR (fun pc o => am_ok am_tb0 cX8_findDealing RX8 8 none false pc o ∧ am_mo o) 64 (am_nth [] tX8_findDealing 4) :=
  And.intro ⟨ok_nop, mo_nop⟩ (
  And.intro ⟨ok_iload_n dX8_findDealing_65 rfl rfl, mo_iload⟩ (
  And.intro ⟨ok_aload_n dX8_findDealing_66 rfl rfl, mo_aload⟩ (
  And.intro ⟨ok_iload_n dX8_findDealing_67 rfl rfl, mo_iload⟩ (
  And.intro ⟨ok_iload dX8_findDealing_68 rfl, mo_iload⟩ (
  And.intro ⟨ok_nop, mo_nop⟩ (
  And.intro ⟨ok_cv (z := 147) dX8_findDealing_70 hclX8 (by decide) wd_1158 wd_1160 wp_34 wd_8 wd_1161 rfl (by decide) ⟨rfl, hy_X8_doesMeet⟩ rfl, mo_cv⟩ (
  And.intro ⟨ok_nop, mo_nop⟩ (
  And.intro ⟨ok_nop, mo_nop⟩ (
  And.intro ⟨ok_if_eq dX8_findDealing_73 (by decide) rfl, mo_if⟩ (
  And.intro ⟨ok_nop, mo_nop⟩ (
  And.intro ⟨ok_nop, mo_nop⟩ (
  And.intro ⟨ok_iconst dX8_findDealing_76 rfl ic_1, mo_push⟩ (
  And.intro ⟨ok_iload dX8_findDealing_77 rfl, mo_iload⟩ (
  And.intro ⟨ok_nop, mo_nop⟩ (
  And.intro ⟨ok_ishl dX8_findDealing_79 rfl, mo_bin⟩ (
  trivial))))))))))))))))
theorem rX8_findDealing_5 : am_allR (fun pc o => am_ok am_tb0 cX8_findDealing RX8 8 none false pc o ∧ am_mo o) 80 (am_nth [] tX8_findDealing 5) :=
  And.intro ⟨ok_goto dX8_findDealing_80 (by decide), mo_goto⟩ (
  And.intro ⟨ok_nop, mo_nop⟩ (
  And.intro ⟨ok_nop, mo_nop⟩ (
  And.intro ⟨ok_iconst dX8_findDealing_83 rfl ic_0, mo_push⟩ (
  And.intro ⟨ok_ior dX8_findDealing_84 rfl, mo_bin⟩ (
  And.intro ⟨ok_istore_n dX8_findDealing_85 rfl (by decide) rfl, mo_istore⟩ (
  And.intro ⟨ok_iinc dX8_findDealing_86 ic_1 (by decide) rfl, mo_iinc⟩ (
  And.intro ⟨ok_nop, mo_nop⟩ (
  And.intro ⟨ok_nop, mo_nop⟩ (
  And.intro ⟨ok_goto dX8_findDealing_89 (by decide), mo_goto⟩ (
  And.intro ⟨ok_nop, mo_nop⟩ (
  And.intro ⟨ok_nop, mo_nop⟩ (
  And.intro ⟨ok_iconst dX8_findDealing_92 rfl ic_0, mo_push⟩ (
  And.intro ⟨ok_istore dX8_findDealing_93 (by decide) rfl, mo_istore⟩ (
  And.intro ⟨ok_nop, mo_nop⟩ (
  And.intro ⟨ok_iload dX8_findDealing_95 rfl, mo_iload⟩ (
  trivial))))))))))))))))
theorem rX8_findDealing_6 : am_allR (fun pc o => am_ok am_tb0 cX8_findDealing RX8 8 none false pc o ∧ am_mo o) 96 (am_nth [] tX8_findDealing 6) :=
  And.intro ⟨ok_nop, mo_nop⟩ (
  And.intro ⟨ok_iconst dX8_findDealing_97 rfl ic_1, mo_push⟩ (
  And.intro ⟨ok_aload_n dX8_findDealing_98 rfl rfl, mo_aload⟩ (
  And.intro ⟨ok_getR dX8_findDealing_99 hclX8 inWX8 (by decide) (by decide) wd_891 (fun _ _ _ => rfl) rfl, mo_getR⟩ (
  And.intro ⟨ok_nop, mo_nop⟩ (
  And.intro ⟨ok_nop, mo_nop⟩ (
  And.intro ⟨ok_iconst dX8_findDealing_102 rfl ic_1, mo_push⟩ (
  And.intro ⟨ok_iald dX8_findDealing_103 rfl, mo_iald⟩ (
  And.intro ⟨ok_ishl dX8_findDealing_104 rfl, mo_bin⟩ (
  And.intro ⟨ok_icmp_ge dX8_findDealing_105 (by decide) rfl, mo_icmp⟩ (
  And.intro ⟨ok_nop, mo_nop⟩ (
  And.intro ⟨ok_nop, mo_nop⟩ (
  And.intro ⟨ok_aload_n dX8_findDealing_108 rfl rfl, mo_aload⟩ (
  And.intro ⟨ok_getR dX8_findDealing_109 hclX8 inWX8 (by decide) (by decide) wd_897 (fun _ _ _ => rfl) rfl, mo_getR⟩ (
  And.intro ⟨ok_nop, mo_nop⟩ (
  And.intro ⟨ok_nop, mo_nop⟩ (
  trivial))))))))))))))))
theorem rX8_findDealing_7 : am_allR (fun pc o => am_ok am_tb0 cX8_findDealing RX8 8 none false pc o ∧ am_mo o) 112 (am_nth [] tX8_findDealing 7) :=
  And.intro ⟨ok_sipush dX8_findDealing_112 rfl si_1024, mo_push⟩ (
  And.intro ⟨ok_nop, mo_nop⟩ (
  And.intro ⟨ok_nop, mo_nop⟩ (
  And.intro ⟨ok_iload_n dX8_findDealing_115 rfl rfl, mo_iload⟩ (
  And.intro ⟨ok_iconst dX8_findDealing_116 rfl ic_1, mo_push⟩ (
  And.intro ⟨ok_iadd dX8_findDealing_117 rfl, mo_bin⟩ (
  And.intro ⟨ok_imul dX8_findDealing_118 rfl, mo_bin⟩ (
  And.intro ⟨ok_iload dX8_findDealing_119 rfl, mo_iload⟩ (
  And.intro ⟨ok_nop, mo_nop⟩ (
  And.intro ⟨ok_iadd dX8_findDealing_121 rfl, mo_bin⟩ (
  And.intro ⟨ok_iald dX8_findDealing_122 rfl, mo_iald⟩ (
  And.intro ⟨ok_istore dX8_findDealing_123 (by decide) rfl, mo_istore⟩ (
  And.intro ⟨ok_nop, mo_nop⟩ (
  And.intro ⟨ok_iconst dX8_findDealing_125 rfl ic_0, mo_push⟩ (
  And.intro ⟨ok_istore dX8_findDealing_126 (by decide) rfl, mo_istore⟩ (
  And.intro ⟨ok_nop, mo_nop⟩ (
  trivial))))))))))))))))
theorem rX8_findDealing_8 : am_allR (fun pc o => am_ok am_tb0 cX8_findDealing RX8 8 none false pc o ∧ am_mo o) 128 (am_nth [] tX8_findDealing 8) :=
  And.intro ⟨ok_iload dX8_findDealing_128 rfl, mo_iload⟩ (
  And.intro ⟨ok_nop, mo_nop⟩ (
  And.intro ⟨ok_aload_n dX8_findDealing_130 rfl rfl, mo_aload⟩ (
  And.intro ⟨ok_getR dX8_findDealing_131 hclX8 inWX8 (by decide) (by decide) wd_891 (fun _ _ _ => rfl) rfl, mo_getR⟩ (
  And.intro ⟨ok_nop, mo_nop⟩ (
  And.intro ⟨ok_nop, mo_nop⟩ (
  And.intro ⟨ok_iconst dX8_findDealing_134 rfl ic_1, mo_push⟩ (
  And.intro ⟨ok_iald dX8_findDealing_135 rfl, mo_iald⟩ (
  And.intro ⟨ok_icmp_ge dX8_findDealing_136 (by decide) rfl, mo_icmp⟩ (
  And.intro ⟨ok_nop, mo_nop⟩ (
  And.intro ⟨ok_nop, mo_nop⟩ (
  And.intro ⟨ok_iload_n dX8_findDealing_139 rfl rfl, mo_iload⟩ (
  And.intro ⟨ok_iload dX8_findDealing_140 rfl, mo_iload⟩ (
  And.intro ⟨ok_nop, mo_nop⟩ (
  And.intro ⟨ok_iconst dX8_findDealing_142 rfl ic_m1, mo_push⟩ (
  And.intro ⟨ok_ixor dX8_findDealing_143 rfl, mo_bin⟩ (
  trivial))))))))))))))))
theorem rX8_findDealing_9 : am_allR (fun pc o => am_ok am_tb0 cX8_findDealing RX8 8 none false pc o ∧ am_mo o) 144 (am_nth [] tX8_findDealing 9) :=
  And.intro ⟨ok_iand dX8_findDealing_144 rfl, mo_bin⟩ (
  And.intro ⟨ok_iconst dX8_findDealing_145 rfl ic_1, mo_push⟩ (
  And.intro ⟨ok_iload dX8_findDealing_146 rfl, mo_iload⟩ (
  And.intro ⟨ok_nop, mo_nop⟩ (
  And.intro ⟨ok_ishl dX8_findDealing_148 rfl, mo_bin⟩ (
  And.intro ⟨ok_iand dX8_findDealing_149 rfl, mo_bin⟩ (
  And.intro ⟨ok_if_eq dX8_findDealing_150 (by decide) rfl, mo_if⟩ (
  And.intro ⟨ok_nop, mo_nop⟩ (
  And.intro ⟨ok_nop, mo_nop⟩ (
  And.intro ⟨ok_aload_n dX8_findDealing_153 rfl rfl, mo_aload⟩ (
  And.intro ⟨ok_iload_n dX8_findDealing_154 rfl rfl, mo_iload⟩ (
  And.intro ⟨ok_iload dX8_findDealing_155 rfl, mo_iload⟩ (
  And.intro ⟨ok_nop, mo_nop⟩ (
  And.intro ⟨ok_iload dX8_findDealing_157 rfl, mo_iload⟩ (
  And.intro ⟨ok_nop, mo_nop⟩ (
  And.intro ⟨ok_cv (z := 150) dX8_findDealing_159 hclX8 (by decide) wd_1166 wd_1168 wp_36 wd_8 wd_1169 rfl (by decide) ⟨rfl, hy_X8_scoreOf⟩ rfl, mo_cv⟩ (
  trivial))))))))))))))))
theorem rX8_findDealing_10 : am_allR (fun pc o => am_ok am_tb0 cX8_findDealing RX8 8 none false pc o ∧ am_mo o) 160 (am_nth [] tX8_findDealing 10) :=
  And.intro ⟨ok_nop, mo_nop⟩ (
  And.intro ⟨ok_nop, mo_nop⟩ (
  And.intro ⟨ok_istore dX8_findDealing_162 (by decide) rfl, mo_istore⟩ (
  And.intro ⟨ok_nop, mo_nop⟩ (
  And.intro ⟨ok_iload dX8_findDealing_164 rfl, mo_iload⟩ (
  And.intro ⟨ok_nop, mo_nop⟩ (
  And.intro ⟨ok_iload dX8_findDealing_166 rfl, mo_iload⟩ (
  And.intro ⟨ok_nop, mo_nop⟩ (
  And.intro ⟨ok_icmp_le dX8_findDealing_168 (by decide) rfl, mo_icmp⟩ (
  And.intro ⟨ok_nop, mo_nop⟩ (
  And.intro ⟨ok_nop, mo_nop⟩ (
  And.intro ⟨ok_iload dX8_findDealing_171 rfl, mo_iload⟩ (
  And.intro ⟨ok_nop, mo_nop⟩ (
  And.intro ⟨ok_goto dX8_findDealing_173 (by decide), mo_goto⟩ (
  And.intro ⟨ok_nop, mo_nop⟩ (
  And.intro ⟨ok_nop, mo_nop⟩ (
  trivial))))))))))))))))
theorem rX8_findDealing_11 : am_allR (fun pc o => am_ok am_tb0 cX8_findDealing RX8 8 none false pc o ∧ am_mo o) 176 (am_nth [] tX8_findDealing 11) :=
  And.intro ⟨ok_iload dX8_findDealing_176 rfl, mo_iload⟩ (
  And.intro ⟨ok_nop, mo_nop⟩ (
  And.intro ⟨ok_istore dX8_findDealing_178 (by decide) rfl, mo_istore⟩ (
  And.intro ⟨ok_nop, mo_nop⟩ (
  And.intro ⟨ok_iinc dX8_findDealing_180 ic_1 (by decide) rfl, mo_iinc⟩ (
  And.intro ⟨ok_nop, mo_nop⟩ (
  And.intro ⟨ok_nop, mo_nop⟩ (
  And.intro ⟨ok_goto dX8_findDealing_183 (by decide), mo_goto⟩ (
  And.intro ⟨ok_nop, mo_nop⟩ (
  And.intro ⟨ok_nop, mo_nop⟩ (
  And.intro ⟨ok_aload_n dX8_findDealing_186 rfl rfl, mo_aload⟩ (
  And.intro ⟨ok_getR dX8_findDealing_187 hclX8 inWX8 (by decide) (by decide) wd_897 (fun _ _ _ => rfl) rfl, mo_getR⟩ (
  And.intro ⟨ok_nop, mo_nop⟩ (
  And.intro ⟨ok_nop, mo_nop⟩ (
  And.intro ⟨ok_sipush dX8_findDealing_190 rfl si_1024, mo_push⟩ (
  And.intro ⟨ok_nop, mo_nop⟩ (
  trivial))))))))))))))))
theorem rX8_findDealing_12 : am_allR (fun pc o => am_ok am_tb0 cX8_findDealing RX8 8 none false pc o ∧ am_mo o) 192 (am_nth [] tX8_findDealing 12) :=
  And.intro ⟨ok_nop, mo_nop⟩ (
  And.intro ⟨ok_iload_n dX8_findDealing_193 rfl rfl, mo_iload⟩ (
  And.intro ⟨ok_imul dX8_findDealing_194 rfl, mo_bin⟩ (
  And.intro ⟨ok_iload dX8_findDealing_195 rfl, mo_iload⟩ (
  And.intro ⟨ok_nop, mo_nop⟩ (
  And.intro ⟨ok_iadd dX8_findDealing_197 rfl, mo_bin⟩ (
  And.intro ⟨ok_iload dX8_findDealing_198 rfl, mo_iload⟩ (
  And.intro ⟨ok_nop, mo_nop⟩ (
  And.intro ⟨ok_iast dX8_findDealing_200 rfl, mo_iast⟩ (
  And.intro ⟨ok_iinc dX8_findDealing_201 ic_1 (by decide) rfl, mo_iinc⟩ (
  And.intro ⟨ok_nop, mo_nop⟩ (
  And.intro ⟨ok_nop, mo_nop⟩ (
  And.intro ⟨ok_goto dX8_findDealing_204 (by decide), mo_goto⟩ (
  And.intro ⟨ok_nop, mo_nop⟩ (
  And.intro ⟨ok_nop, mo_nop⟩ (
  And.intro ⟨ok_iinc dX8_findDealing_207 ic_m1 (by decide) rfl, mo_iinc⟩ (
  trivial))))))))))))))))
theorem rX8_findDealing_13 : am_allR (fun pc o => am_ok am_tb0 cX8_findDealing RX8 8 none false pc o ∧ am_mo o) 208 (am_nth [] tX8_findDealing 13) :=
  And.intro ⟨ok_nop, mo_nop⟩ (
  And.intro ⟨ok_nop, mo_nop⟩ (
  And.intro ⟨ok_goto dX8_findDealing_210 (by decide), mo_goto⟩ (
  And.intro ⟨ok_nop, mo_nop⟩ (
  And.intro ⟨ok_nop, mo_nop⟩ (
  And.intro ⟨ok_iconst dX8_findDealing_213 rfl ic_0, mo_push⟩ (
  And.intro ⟨ok_istore_n dX8_findDealing_214 rfl (by decide) rfl, mo_istore⟩ (
  And.intro ⟨ok_iconst dX8_findDealing_215 rfl ic_0, mo_push⟩ (
  And.intro ⟨ok_istore_n dX8_findDealing_216 rfl (by decide) rfl, mo_istore⟩ (
  And.intro ⟨ok_iload_n dX8_findDealing_217 rfl rfl, mo_iload⟩ (
  And.intro ⟨ok_iload_n dX8_findDealing_218 rfl rfl, mo_iload⟩ (
  And.intro ⟨ok_icmp_ge dX8_findDealing_219 (by decide) rfl, mo_icmp⟩ (
  And.intro ⟨ok_nop, mo_nop⟩ (
  And.intro ⟨ok_nop, mo_nop⟩ (
  And.intro ⟨ok_aload_n dX8_findDealing_222 rfl rfl, mo_aload⟩ (
  And.intro ⟨ok_getR dX8_findDealing_223 hclX8 inWX8 (by decide) (by decide) wd_898 (fun _ _ _ => rfl) rfl, mo_getR⟩ (
  trivial))))))))))))))))
theorem rX8_findDealing_14 : am_allR (fun pc o => am_ok am_tb0 cX8_findDealing RX8 8 none false pc o ∧ am_mo o) 224 (am_nth [] tX8_findDealing 14) :=
  And.intro ⟨ok_nop, mo_nop⟩ (
  And.intro ⟨ok_nop, mo_nop⟩ (
  And.intro ⟨ok_iload_n dX8_findDealing_226 rfl rfl, mo_iload⟩ (
  And.intro ⟨ok_iconst dX8_findDealing_227 rfl ic_m1, mo_push⟩ (
  And.intro ⟨ok_iast dX8_findDealing_228 rfl, mo_iast⟩ (
  And.intro ⟨ok_aload_n dX8_findDealing_229 rfl rfl, mo_aload⟩ (
  And.intro ⟨ok_getR dX8_findDealing_230 hclX8 inWX8 (by decide) (by decide) wd_891 (fun _ _ _ => rfl) rfl, mo_getR⟩ (
  And.intro ⟨ok_nop, mo_nop⟩ (
  And.intro ⟨ok_nop, mo_nop⟩ (
  And.intro ⟨ok_iconst dX8_findDealing_233 rfl ic_1, mo_push⟩ (
  And.intro ⟨ok_iald dX8_findDealing_234 rfl, mo_iald⟩ (
  And.intro ⟨ok_iconst dX8_findDealing_235 rfl ic_1, mo_push⟩ (
  And.intro ⟨ok_isub dX8_findDealing_236 rfl, mo_bin⟩ (
  And.intro ⟨ok_istore dX8_findDealing_237 (by decide) rfl, mo_istore⟩ (
  And.intro ⟨ok_nop, mo_nop⟩ (
  And.intro ⟨ok_iload dX8_findDealing_239 rfl, mo_iload⟩ (
  trivial))))))))))))))))
theorem rX8_findDealing_15 : am_allR (fun pc o => am_ok am_tb0 cX8_findDealing RX8 8 none false pc o ∧ am_mo o) 240 (am_nth [] tX8_findDealing 15) :=
  And.intro ⟨ok_nop, mo_nop⟩ (
  And.intro ⟨ok_if_lt dX8_findDealing_241 (by decide) rfl, mo_if⟩ (
  And.intro ⟨ok_nop, mo_nop⟩ (
  And.intro ⟨ok_nop, mo_nop⟩ (
  And.intro ⟨ok_iload_n dX8_findDealing_244 rfl rfl, mo_iload⟩ (
  And.intro ⟨ok_iload dX8_findDealing_245 rfl, mo_iload⟩ (
  And.intro ⟨ok_nop, mo_nop⟩ (
  And.intro ⟨ok_ishr dX8_findDealing_247 rfl, mo_bin⟩ (
  And.intro ⟨ok_iconst dX8_findDealing_248 rfl ic_1, mo_push⟩ (
  And.intro ⟨ok_iand dX8_findDealing_249 rfl, mo_bin⟩ (
  And.intro ⟨ok_if_ne dX8_findDealing_250 (by decide) rfl, mo_if⟩ (
  And.intro ⟨ok_nop, mo_nop⟩ (
  And.intro ⟨ok_nop, mo_nop⟩ (
  And.intro ⟨ok_aload_n dX8_findDealing_253 rfl rfl, mo_aload⟩ (
  And.intro ⟨ok_iload_n dX8_findDealing_254 rfl rfl, mo_iload⟩ (
  And.intro ⟨ok_iload dX8_findDealing_255 rfl, mo_iload⟩ (
  trivial))))))))))))))))
theorem rX8_findDealing_16 : am_allR (fun pc o => am_ok am_tb0 cX8_findDealing RX8 8 none false pc o ∧ am_mo o) 256 (am_nth [] tX8_findDealing 16) :=
  And.intro ⟨ok_nop, mo_nop⟩ (
  And.intro ⟨ok_cv (z := 147) dX8_findDealing_257 hclX8 (by decide) wd_1158 wd_1160 wp_34 wd_8 wd_1161 rfl (by decide) ⟨rfl, hy_X8_doesMeet⟩ rfl, mo_cv⟩ (
  And.intro ⟨ok_nop, mo_nop⟩ (
  And.intro ⟨ok_nop, mo_nop⟩ (
  And.intro ⟨ok_if_eq dX8_findDealing_260 (by decide) rfl, mo_if⟩ (
  And.intro ⟨ok_nop, mo_nop⟩ (
  And.intro ⟨ok_nop, mo_nop⟩ (
  And.intro ⟨ok_aload_n dX8_findDealing_263 rfl rfl, mo_aload⟩ (
  And.intro ⟨ok_iload_n dX8_findDealing_264 rfl rfl, mo_iload⟩ (
  And.intro ⟨ok_iload_n dX8_findDealing_265 rfl rfl, mo_iload⟩ (
  And.intro ⟨ok_iload dX8_findDealing_266 rfl, mo_iload⟩ (
  And.intro ⟨ok_nop, mo_nop⟩ (
  And.intro ⟨ok_cv (z := 150) dX8_findDealing_268 hclX8 (by decide) wd_1166 wd_1168 wp_36 wd_8 wd_1169 rfl (by decide) ⟨rfl, hy_X8_scoreOf⟩ rfl, mo_cv⟩ (
  And.intro ⟨ok_nop, mo_nop⟩ (
  And.intro ⟨ok_nop, mo_nop⟩ (
  And.intro ⟨ok_aload_n dX8_findDealing_271 rfl rfl, mo_aload⟩ (
  trivial))))))))))))))))
theorem rX8_findDealing_17 : am_allR (fun pc o => am_ok am_tb0 cX8_findDealing RX8 8 none false pc o ∧ am_mo o) 272 (am_nth [] tX8_findDealing 17) :=
  And.intro ⟨ok_getR dX8_findDealing_272 hclX8 inWX8 (by decide) (by decide) wd_897 (fun _ _ _ => rfl) rfl, mo_getR⟩ (
  And.intro ⟨ok_nop, mo_nop⟩ (
  And.intro ⟨ok_nop, mo_nop⟩ (
  And.intro ⟨ok_sipush dX8_findDealing_275 rfl si_1024, mo_push⟩ (
  And.intro ⟨ok_nop, mo_nop⟩ (
  And.intro ⟨ok_nop, mo_nop⟩ (
  And.intro ⟨ok_iload_n dX8_findDealing_278 rfl rfl, mo_iload⟩ (
  And.intro ⟨ok_imul dX8_findDealing_279 rfl, mo_bin⟩ (
  And.intro ⟨ok_iload_n dX8_findDealing_280 rfl rfl, mo_iload⟩ (
  And.intro ⟨ok_iadd dX8_findDealing_281 rfl, mo_bin⟩ (
  And.intro ⟨ok_iald dX8_findDealing_282 rfl, mo_iald⟩ (
  And.intro ⟨ok_icmp_ne dX8_findDealing_283 (by decide) rfl, mo_icmp⟩ (
  And.intro ⟨ok_nop, mo_nop⟩ (
  And.intro ⟨ok_nop, mo_nop⟩ (
  And.intro ⟨ok_iconst dX8_findDealing_286 rfl ic_1, mo_push⟩ (
  And.intro ⟨ok_goto dX8_findDealing_287 (by decide), mo_goto⟩ (
  trivial))))))))))))))))
theorem rX8_findDealing_18 : am_allR (fun pc o => am_ok am_tb0 cX8_findDealing RX8 8 none false pc o ∧ am_mo o) 288 (am_nth [] tX8_findDealing 18) :=
  And.intro ⟨ok_nop, mo_nop⟩ (
  And.intro ⟨ok_nop, mo_nop⟩ (
  And.intro ⟨ok_iconst dX8_findDealing_290 rfl ic_0, mo_push⟩ (
  And.intro ⟨ok_istore dX8_findDealing_291 (by decide) rfl, mo_istore⟩ (
  And.intro ⟨ok_nop, mo_nop⟩ (
  And.intro ⟨ok_aload_n dX8_findDealing_293 rfl rfl, mo_aload⟩ (
  And.intro ⟨ok_getR dX8_findDealing_294 hclX8 inWX8 (by decide) (by decide) wd_898 (fun _ _ _ => rfl) rfl, mo_getR⟩ (
  And.intro ⟨ok_nop, mo_nop⟩ (
  And.intro ⟨ok_nop, mo_nop⟩ (
  And.intro ⟨ok_iload_n dX8_findDealing_297 rfl rfl, mo_iload⟩ (
  And.intro ⟨ok_iload dX8_findDealing_298 rfl, mo_iload⟩ (
  And.intro ⟨ok_nop, mo_nop⟩ (
  And.intro ⟨ok_if_eq dX8_findDealing_300 (by decide) rfl, mo_if⟩ (
  And.intro ⟨ok_nop, mo_nop⟩ (
  And.intro ⟨ok_nop, mo_nop⟩ (
  And.intro ⟨ok_iload dX8_findDealing_303 rfl, mo_iload⟩ (
  trivial))))))))))))))))
theorem rX8_findDealing_19 : am_allR (fun pc o => am_ok am_tb0 cX8_findDealing RX8 8 none false pc o ∧ am_mo o) 304 (am_nth [] tX8_findDealing 19) :=
  And.intro ⟨ok_nop, mo_nop⟩ (
  And.intro ⟨ok_goto dX8_findDealing_305 (by decide), mo_goto⟩ (
  And.intro ⟨ok_nop, mo_nop⟩ (
  And.intro ⟨ok_nop, mo_nop⟩ (
  And.intro ⟨ok_aload_n dX8_findDealing_308 rfl rfl, mo_aload⟩ (
  And.intro ⟨ok_getR dX8_findDealing_309 hclX8 inWX8 (by decide) (by decide) wd_898 (fun _ _ _ => rfl) rfl, mo_getR⟩ (
  And.intro ⟨ok_nop, mo_nop⟩ (
  And.intro ⟨ok_nop, mo_nop⟩ (
  And.intro ⟨ok_iload_n dX8_findDealing_312 rfl rfl, mo_iload⟩ (
  And.intro ⟨ok_iald dX8_findDealing_313 rfl, mo_iald⟩ (
  And.intro ⟨ok_iast dX8_findDealing_314 rfl, mo_iast⟩ (
  And.intro ⟨ok_iinc dX8_findDealing_315 ic_m1 (by decide) rfl, mo_iinc⟩ (
  And.intro ⟨ok_nop, mo_nop⟩ (
  And.intro ⟨ok_nop, mo_nop⟩ (
  And.intro ⟨ok_goto dX8_findDealing_318 (by decide), mo_goto⟩ (
  And.intro ⟨ok_nop, mo_nop⟩ (
  trivial))))))))))))))))
theorem rX8_findDealing_20 : am_allR (fun pc o => am_ok am_tb0 cX8_findDealing RX8 8 none false pc o ∧ am_mo o) 320 (am_nth [] tX8_findDealing 20) :=
  And.intro ⟨ok_nop, mo_nop⟩ (
  And.intro ⟨ok_iload_n dX8_findDealing_321 rfl rfl, mo_iload⟩ (
  And.intro ⟨ok_aload_n dX8_findDealing_322 rfl rfl, mo_aload⟩ (
  And.intro ⟨ok_getR dX8_findDealing_323 hclX8 inWX8 (by decide) (by decide) wd_898 (fun _ _ _ => rfl) rfl, mo_getR⟩ (
  And.intro ⟨ok_nop, mo_nop⟩ (
  And.intro ⟨ok_nop, mo_nop⟩ (
  And.intro ⟨ok_iload_n dX8_findDealing_326 rfl rfl, mo_iload⟩ (
  And.intro ⟨ok_iald dX8_findDealing_327 rfl, mo_iald⟩ (
  And.intro ⟨ok_if_ge dX8_findDealing_328 (by decide) rfl, mo_if⟩ (
  And.intro ⟨ok_nop, mo_nop⟩ (
  And.intro ⟨ok_nop, mo_nop⟩ (
  And.intro ⟨ok_iconst dX8_findDealing_331 rfl ic_0, mo_push⟩ (
  And.intro ⟨ok_goto dX8_findDealing_332 (by decide), mo_goto⟩ (
  And.intro ⟨ok_nop, mo_nop⟩ (
  And.intro ⟨ok_nop, mo_nop⟩ (
  And.intro ⟨ok_iconst dX8_findDealing_335 rfl ic_1, mo_push⟩ (
  trivial))))))))))))))))
theorem rX8_findDealing_21 : am_allR (fun pc o => am_ok am_tb0 cX8_findDealing RX8 8 none false pc o ∧ am_mo o) 336 (am_nth [] tX8_findDealing 21) :=
  And.intro ⟨ok_aload_n dX8_findDealing_336 rfl rfl, mo_aload⟩ (
  And.intro ⟨ok_getR dX8_findDealing_337 hclX8 inWX8 (by decide) (by decide) wd_898 (fun _ _ _ => rfl) rfl, mo_getR⟩ (
  And.intro ⟨ok_nop, mo_nop⟩ (
  And.intro ⟨ok_nop, mo_nop⟩ (
  And.intro ⟨ok_iload_n dX8_findDealing_340 rfl rfl, mo_iload⟩ (
  And.intro ⟨ok_iald dX8_findDealing_341 rfl, mo_iald⟩ (
  And.intro ⟨ok_ishl dX8_findDealing_342 rfl, mo_bin⟩ (
  And.intro ⟨ok_ior dX8_findDealing_343 rfl, mo_bin⟩ (
  And.intro ⟨ok_istore_n dX8_findDealing_344 rfl (by decide) rfl, mo_istore⟩ (
  And.intro ⟨ok_iinc dX8_findDealing_345 ic_1 (by decide) rfl, mo_iinc⟩ (
  And.intro ⟨ok_nop, mo_nop⟩ (
  And.intro ⟨ok_nop, mo_nop⟩ (
  And.intro ⟨ok_goto dX8_findDealing_348 (by decide), mo_goto⟩ (
  And.intro ⟨ok_nop, mo_nop⟩ (
  And.intro ⟨ok_nop, mo_nop⟩ (
  And.intro ⟨ok_ret dX8_findDealing_351 rfl, mo_ret⟩ (
  trivial))))))))))))))))
theorem kX8_findDealing : am_M1 am_tb0 cX8_findDealing RX8 8 none false tX8_findDealing := And.intro rX8_findDealing_0 (And.intro rX8_findDealing_1 (And.intro rX8_findDealing_2 (And.intro rX8_findDealing_3 (And.intro rX8_findDealing_4 (And.intro rX8_findDealing_5 (And.intro rX8_findDealing_6 (And.intro rX8_findDealing_7 (And.intro rX8_findDealing_8 (And.intro rX8_findDealing_9 (And.intro rX8_findDealing_10 (And.intro rX8_findDealing_11 (And.intro rX8_findDealing_12 (And.intro rX8_findDealing_13 (And.intro rX8_findDealing_14 (And.intro rX8_findDealing_15 (And.intro rX8_findDealing_16 (And.intro rX8_findDealing_17 (And.intro rX8_findDealing_18 (And.intro rX8_findDealing_19 (And.intro rX8_findDealing_20 (And.intro rX8_findDealing_21 (trivial))))))))))))))))))))))
def tX8_dealing : List (List am_Op) := [[o_iload 1 1, o_push (.int 0) 2, o_push (.int 1) 3, o_aload 0 4, o_getR 8 38 0 7, am_nop, am_nop, o_push (.int 7) 9, am_nop, o_iald 20 10, o_bin (fun x y => x + y) 11, o_cs 113 3 0 3 14, am_nop, am_nop, o_if (fun x => ¬ x = 0) 20 17, am_nop],
  [am_nop, o_push (.int (-1000000001)) 19, am_nop, o_iret, o_iload 1 21, o_if (fun x => ¬ x = 0) 30 24, am_nop, am_nop, o_aload 0 25, o_push (.int (-1)) 26, o_cv 8 38 149 5 25 1 29, am_nop, am_nop, o_iret, o_aload 0 31, o_cv 8 38 151 8 5 0 34],
  [am_nop, am_nop, o_iload 1 35, o_push (.int 1) 36, o_icmp (fun x y => x ≤ y) 51 39, am_nop, am_nop, o_aload 0 40, o_getR 8 38 7 43, am_nop, am_nop, o_iload 1 44, o_push (.int 2) 45, o_bin (fun x y => x - y) 46, o_iald 20 47, o_cs 116 1 0 1 50],
  [am_nop, am_nop, o_iret, o_push (.int 0) 52, o_istore 2 53, o_push (.int 0) 54, o_istore 3 55, o_iload 3 56, o_aload 0 57, o_getR 8 38 0 60, am_nop, am_nop, o_push (.int 7) 62, am_nop, o_iald 20 63, o_icmp (fun x y => y ≤ x) 109 66],
  [am_nop, am_nop, o_iload 2 67, o_aload 0 68, o_getR 8 38 7 71, am_nop, am_nop, o_iload 3 72, o_iald 20 73, o_if (fun x => 0 ≤ x) 80 76, am_nop, am_nop, o_push (.int 0) 77, o_goto 101, am_nop, am_nop],
  [o_aload 0 81, o_aload 0 82, o_getR 8 38 7 85, am_nop, am_nop, o_iload 3 86, o_iald 20 87, o_aload 0 88, o_getR 8 38 0 91, am_nop, am_nop, o_push (.int 9) 93, am_nop, o_push (.int 2) 94, o_iload 3 95, o_bin (fun x y => x * y) 96],
  [o_bin (fun x y => x + y) 97, o_iald 20 98, o_cv 8 38 140 4 1 2 101, am_nop, am_nop, o_bin (fun x y => x + y) 102, o_istore 2 103, o_iinc 3 1 106, am_nop, am_nop, o_goto 55, am_nop, am_nop, o_iload 2 110, o_iret, am_nop]]
theorem rX8_dealing_0 : am_allR (fun pc o => am_ok am_tb0 cX8_dealing RX8 4 (some .int) false pc o ∧ am_mo o) 0 (am_nth [] tX8_dealing 0) :=
  And.intro ⟨ok_iload_n dX8_dealing_0 rfl rfl, mo_iload⟩ (
  And.intro ⟨ok_iconst dX8_dealing_1 rfl ic_0, mo_push⟩ (
  And.intro ⟨ok_iconst dX8_dealing_2 rfl ic_1, mo_push⟩ (
  And.intro ⟨ok_aload_n dX8_dealing_3 rfl rfl, mo_aload⟩ (
  And.intro ⟨ok_getR dX8_dealing_4 hclX8 inWX8 (by decide) (by decide) wd_891 (fun _ _ _ => rfl) rfl, mo_getR⟩ (
  And.intro ⟨ok_nop, mo_nop⟩ (
  And.intro ⟨ok_nop, mo_nop⟩ (
  And.intro ⟨ok_bipush dX8_dealing_7 rfl bi_7, mo_push⟩ (
  And.intro ⟨ok_nop, mo_nop⟩ (
  And.intro ⟨ok_iald dX8_dealing_9 rfl, mo_iald⟩ (
  And.intro ⟨ok_iadd dX8_dealing_10 rfl, mo_bin⟩ (
  And.intro ⟨ok_cs (z := 113) dX8_dealing_11 wd_1012 wd_1013 wd_8 wd_1014 rfl (by decide) hy_X8_in rfl, mo_cs⟩ (
  And.intro ⟨ok_nop, mo_nop⟩ (
  And.intro ⟨ok_nop, mo_nop⟩ (
  And.intro ⟨ok_if_ne dX8_dealing_14 (by decide) rfl, mo_if⟩ (
  And.intro ⟨ok_nop, mo_nop⟩ (
  trivial))))))))))))))))
theorem rX8_dealing_1 : am_allR (fun pc o => am_ok am_tb0 cX8_dealing RX8 4 (some .int) false pc o ∧ am_mo o) 16 (am_nth [] tX8_dealing 1) :=
  And.intro ⟨ok_nop, mo_nop⟩ (
  And.intro ⟨ok_ldc dX8_dealing_17 rfl wd_1021, mo_push⟩ (
  And.intro ⟨ok_nop, mo_nop⟩ (
  And.intro ⟨ok_iret dX8_dealing_19 rfl, mo_iret⟩ (
  And.intro ⟨ok_iload_n dX8_dealing_20 rfl rfl, mo_iload⟩ (
  And.intro ⟨ok_if_ne dX8_dealing_21 (by decide) rfl, mo_if⟩ (
  And.intro ⟨ok_nop, mo_nop⟩ (
  And.intro ⟨ok_nop, mo_nop⟩ (
  And.intro ⟨ok_aload_n dX8_dealing_24 rfl rfl, mo_aload⟩ (
  And.intro ⟨ok_iconst dX8_dealing_25 rfl ic_m1, mo_push⟩ (
  And.intro ⟨ok_cv (z := 149) dX8_dealing_26 hclX8 (by decide) wd_1150 wd_1152 wp_32 wd_8 wd_1153 rfl (by decide) ⟨rfl, hy_X8_metBut⟩ rfl, mo_cv⟩ (
  And.intro ⟨ok_nop, mo_nop⟩ (
  And.intro ⟨ok_nop, mo_nop⟩ (
  And.intro ⟨ok_iret dX8_dealing_29 rfl, mo_iret⟩ (
  And.intro ⟨ok_aload_n dX8_dealing_30 rfl rfl, mo_aload⟩ (
  And.intro ⟨ok_cv (z := 151) dX8_dealing_31 hclX8 (by decide) wd_1162 wd_1164 wp_35 wd_8 wd_1165 rfl (by decide) ⟨rfl, hy_X8_findDealing⟩ rfl, mo_cv⟩ (
  trivial))))))))))))))))
theorem rX8_dealing_2 : am_allR (fun pc o => am_ok am_tb0 cX8_dealing RX8 4 (some .int) false pc o ∧ am_mo o) 32 (am_nth [] tX8_dealing 2) :=
  And.intro ⟨ok_nop, mo_nop⟩ (
  And.intro ⟨ok_nop, mo_nop⟩ (
  And.intro ⟨ok_iload_n dX8_dealing_34 rfl rfl, mo_iload⟩ (
  And.intro ⟨ok_iconst dX8_dealing_35 rfl ic_1, mo_push⟩ (
  And.intro ⟨ok_icmp_le dX8_dealing_36 (by decide) rfl, mo_icmp⟩ (
  And.intro ⟨ok_nop, mo_nop⟩ (
  And.intro ⟨ok_nop, mo_nop⟩ (
  And.intro ⟨ok_aload_n dX8_dealing_39 rfl rfl, mo_aload⟩ (
  And.intro ⟨ok_getR dX8_dealing_40 hclX8 inWX8 (by decide) (by decide) wd_898 (fun _ _ _ => rfl) rfl, mo_getR⟩ (
  And.intro ⟨ok_nop, mo_nop⟩ (
  And.intro ⟨ok_nop, mo_nop⟩ (
  And.intro ⟨ok_iload_n dX8_dealing_43 rfl rfl, mo_iload⟩ (
  And.intro ⟨ok_iconst dX8_dealing_44 rfl ic_2, mo_push⟩ (
  And.intro ⟨ok_isub dX8_dealing_45 rfl, mo_bin⟩ (
  And.intro ⟨ok_iald dX8_dealing_46 rfl, mo_iald⟩ (
  And.intro ⟨ok_cs (z := 116) dX8_dealing_47 wd_1170 wd_1171 wd_8 wd_1172 rfl (by decide) hy_X8_told0 rfl, mo_cs⟩ (
  trivial))))))))))))))))
theorem rX8_dealing_3 : am_allR (fun pc o => am_ok am_tb0 cX8_dealing RX8 4 (some .int) false pc o ∧ am_mo o) 48 (am_nth [] tX8_dealing 3) :=
  And.intro ⟨ok_nop, mo_nop⟩ (
  And.intro ⟨ok_nop, mo_nop⟩ (
  And.intro ⟨ok_iret dX8_dealing_50 rfl, mo_iret⟩ (
  And.intro ⟨ok_iconst dX8_dealing_51 rfl ic_0, mo_push⟩ (
  And.intro ⟨ok_istore_n dX8_dealing_52 rfl (by decide) rfl, mo_istore⟩ (
  And.intro ⟨ok_iconst dX8_dealing_53 rfl ic_0, mo_push⟩ (
  And.intro ⟨ok_istore_n dX8_dealing_54 rfl (by decide) rfl, mo_istore⟩ (
  And.intro ⟨ok_iload_n dX8_dealing_55 rfl rfl, mo_iload⟩ (
  And.intro ⟨ok_aload_n dX8_dealing_56 rfl rfl, mo_aload⟩ (
  And.intro ⟨ok_getR dX8_dealing_57 hclX8 inWX8 (by decide) (by decide) wd_891 (fun _ _ _ => rfl) rfl, mo_getR⟩ (
  And.intro ⟨ok_nop, mo_nop⟩ (
  And.intro ⟨ok_nop, mo_nop⟩ (
  And.intro ⟨ok_bipush dX8_dealing_60 rfl bi_7, mo_push⟩ (
  And.intro ⟨ok_nop, mo_nop⟩ (
  And.intro ⟨ok_iald dX8_dealing_62 rfl, mo_iald⟩ (
  And.intro ⟨ok_icmp_ge dX8_dealing_63 (by decide) rfl, mo_icmp⟩ (
  trivial))))))))))))))))
theorem rX8_dealing_4 : am_allR (fun pc o => am_ok am_tb0 cX8_dealing RX8 4 (some .int) false pc o ∧ am_mo o) 64 (am_nth [] tX8_dealing 4) :=
  And.intro ⟨ok_nop, mo_nop⟩ (
  And.intro ⟨ok_nop, mo_nop⟩ (
  And.intro ⟨ok_iload_n dX8_dealing_66 rfl rfl, mo_iload⟩ (
  And.intro ⟨ok_aload_n dX8_dealing_67 rfl rfl, mo_aload⟩ (
  And.intro ⟨ok_getR dX8_dealing_68 hclX8 inWX8 (by decide) (by decide) wd_898 (fun _ _ _ => rfl) rfl, mo_getR⟩ (
  And.intro ⟨ok_nop, mo_nop⟩ (
  And.intro ⟨ok_nop, mo_nop⟩ (
  And.intro ⟨ok_iload_n dX8_dealing_71 rfl rfl, mo_iload⟩ (
  And.intro ⟨ok_iald dX8_dealing_72 rfl, mo_iald⟩ (
  And.intro ⟨ok_if_ge dX8_dealing_73 (by decide) rfl, mo_if⟩ (
  And.intro ⟨ok_nop, mo_nop⟩ (
  And.intro ⟨ok_nop, mo_nop⟩ (
  And.intro ⟨ok_iconst dX8_dealing_76 rfl ic_0, mo_push⟩ (
  And.intro ⟨ok_goto dX8_dealing_77 (by decide), mo_goto⟩ (
  And.intro ⟨ok_nop, mo_nop⟩ (
  And.intro ⟨ok_nop, mo_nop⟩ (
  trivial))))))))))))))))
theorem rX8_dealing_5 : am_allR (fun pc o => am_ok am_tb0 cX8_dealing RX8 4 (some .int) false pc o ∧ am_mo o) 80 (am_nth [] tX8_dealing 5) :=
  And.intro ⟨ok_aload_n dX8_dealing_80 rfl rfl, mo_aload⟩ (
  And.intro ⟨ok_aload_n dX8_dealing_81 rfl rfl, mo_aload⟩ (
  And.intro ⟨ok_getR dX8_dealing_82 hclX8 inWX8 (by decide) (by decide) wd_898 (fun _ _ _ => rfl) rfl, mo_getR⟩ (
  And.intro ⟨ok_nop, mo_nop⟩ (
  And.intro ⟨ok_nop, mo_nop⟩ (
  And.intro ⟨ok_iload_n dX8_dealing_85 rfl rfl, mo_iload⟩ (
  And.intro ⟨ok_iald dX8_dealing_86 rfl, mo_iald⟩ (
  And.intro ⟨ok_aload_n dX8_dealing_87 rfl rfl, mo_aload⟩ (
  And.intro ⟨ok_getR dX8_dealing_88 hclX8 inWX8 (by decide) (by decide) wd_891 (fun _ _ _ => rfl) rfl, mo_getR⟩ (
  And.intro ⟨ok_nop, mo_nop⟩ (
  And.intro ⟨ok_nop, mo_nop⟩ (
  And.intro ⟨ok_bipush dX8_dealing_91 rfl bi_9, mo_push⟩ (
  And.intro ⟨ok_nop, mo_nop⟩ (
  And.intro ⟨ok_iconst dX8_dealing_93 rfl ic_2, mo_push⟩ (
  And.intro ⟨ok_iload_n dX8_dealing_94 rfl rfl, mo_iload⟩ (
  And.intro ⟨ok_imul dX8_dealing_95 rfl, mo_bin⟩ (
  trivial))))))))))))))))
theorem rX8_dealing_6 : am_allR (fun pc o => am_ok am_tb0 cX8_dealing RX8 4 (some .int) false pc o ∧ am_mo o) 96 (am_nth [] tX8_dealing 6) :=
  And.intro ⟨ok_iadd dX8_dealing_96 rfl, mo_bin⟩ (
  And.intro ⟨ok_iald dX8_dealing_97 rfl, mo_iald⟩ (
  And.intro ⟨ok_cv (z := 140) dX8_dealing_98 hclX8 (by decide) wd_1125 wd_1127 wp_30 wd_8 wd_1128 rfl (by decide) ⟨rfl, hy_X8_apart⟩ rfl, mo_cv⟩ (
  And.intro ⟨ok_nop, mo_nop⟩ (
  And.intro ⟨ok_nop, mo_nop⟩ (
  And.intro ⟨ok_iadd dX8_dealing_101 rfl, mo_bin⟩ (
  And.intro ⟨ok_istore_n dX8_dealing_102 rfl (by decide) rfl, mo_istore⟩ (
  And.intro ⟨ok_iinc dX8_dealing_103 ic_1 (by decide) rfl, mo_iinc⟩ (
  And.intro ⟨ok_nop, mo_nop⟩ (
  And.intro ⟨ok_nop, mo_nop⟩ (
  And.intro ⟨ok_goto dX8_dealing_106 (by decide), mo_goto⟩ (
  And.intro ⟨ok_nop, mo_nop⟩ (
  And.intro ⟨ok_nop, mo_nop⟩ (
  And.intro ⟨ok_iload_n dX8_dealing_109 rfl rfl, mo_iload⟩ (
  And.intro ⟨ok_iret dX8_dealing_110 rfl, mo_iret⟩ (
  And.intro ⟨ok_nop, mo_nop⟩ (
  trivial))))))))))))))))
theorem kX8_dealing : am_M1 am_tb0 cX8_dealing RX8 4 (some .int) false tX8_dealing := And.intro rX8_dealing_0 (And.intro rX8_dealing_1 (And.intro rX8_dealing_2 (And.intro rX8_dealing_3 (And.intro rX8_dealing_4 (And.intro rX8_dealing_5 (And.intro rX8_dealing_6 (trivial)))))))
def tX8_adds : List (List am_Op) := [[o_aload 0 1, o_iload 1 2, o_cv 8 38 117 2 1 1 5, am_nop, am_nop, o_if (fun x => x = 0) 22 8, am_nop, am_nop, o_aload 0 9, o_push (.int (-1)) 10, o_cv 8 38 149 5 25 1 13, am_nop, am_nop, o_aload 0 14, o_iload 1 15, o_cv 8 38 149 5 25 1 18],
  [am_nop, am_nop, o_bin (fun x y => x - y) 19, o_goto 24, am_nop, am_nop, o_push (.int (-1000000001)) 24, am_nop, o_iret, am_nop, am_nop, am_nop, am_nop, am_nop, am_nop, am_nop]]
theorem rX8_adds_0 : am_allR (fun pc o => am_ok am_tb0 cX8_adds RX8 2 (some .int) false pc o ∧ am_mo o) 0 (am_nth [] tX8_adds 0) :=
  And.intro ⟨ok_aload_n dX8_adds_0 rfl rfl, mo_aload⟩ (
  And.intro ⟨ok_iload_n dX8_adds_1 rfl rfl, mo_iload⟩ (
  And.intro ⟨ok_cv (z := 117) dX8_adds_2 hclX8 (by decide) wd_1039 wd_1041 wp_20 wd_8 wd_1042 rfl (by decide) ⟨rfl, hy_X8_isHole⟩ rfl, mo_cv⟩ (
  And.intro ⟨ok_nop, mo_nop⟩ (
  And.intro ⟨ok_nop, mo_nop⟩ (
  And.intro ⟨ok_if_eq dX8_adds_5 (by decide) rfl, mo_if⟩ (
  And.intro ⟨ok_nop, mo_nop⟩ (
  And.intro ⟨ok_nop, mo_nop⟩ (
  And.intro ⟨ok_aload_n dX8_adds_8 rfl rfl, mo_aload⟩ (
  And.intro ⟨ok_iconst dX8_adds_9 rfl ic_m1, mo_push⟩ (
  And.intro ⟨ok_cv (z := 149) dX8_adds_10 hclX8 (by decide) wd_1150 wd_1152 wp_32 wd_8 wd_1153 rfl (by decide) ⟨rfl, hy_X8_metBut⟩ rfl, mo_cv⟩ (
  And.intro ⟨ok_nop, mo_nop⟩ (
  And.intro ⟨ok_nop, mo_nop⟩ (
  And.intro ⟨ok_aload_n dX8_adds_13 rfl rfl, mo_aload⟩ (
  And.intro ⟨ok_iload_n dX8_adds_14 rfl rfl, mo_iload⟩ (
  And.intro ⟨ok_cv (z := 149) dX8_adds_15 hclX8 (by decide) wd_1150 wd_1152 wp_32 wd_8 wd_1153 rfl (by decide) ⟨rfl, hy_X8_metBut⟩ rfl, mo_cv⟩ (
  trivial))))))))))))))))
theorem rX8_adds_1 : am_allR (fun pc o => am_ok am_tb0 cX8_adds RX8 2 (some .int) false pc o ∧ am_mo o) 16 (am_nth [] tX8_adds 1) :=
  And.intro ⟨ok_nop, mo_nop⟩ (
  And.intro ⟨ok_nop, mo_nop⟩ (
  And.intro ⟨ok_isub dX8_adds_18 rfl, mo_bin⟩ (
  And.intro ⟨ok_goto dX8_adds_19 (by decide), mo_goto⟩ (
  And.intro ⟨ok_nop, mo_nop⟩ (
  And.intro ⟨ok_nop, mo_nop⟩ (
  And.intro ⟨ok_ldc dX8_adds_22 rfl wd_1021, mo_push⟩ (
  And.intro ⟨ok_nop, mo_nop⟩ (
  And.intro ⟨ok_iret dX8_adds_24 rfl, mo_iret⟩ (
  And.intro ⟨ok_nop, mo_nop⟩ (
  And.intro ⟨ok_nop, mo_nop⟩ (
  And.intro ⟨ok_nop, mo_nop⟩ (
  And.intro ⟨ok_nop, mo_nop⟩ (
  And.intro ⟨ok_nop, mo_nop⟩ (
  And.intro ⟨ok_nop, mo_nop⟩ (
  And.intro ⟨ok_nop, mo_nop⟩ (
  trivial))))))))))))))))
theorem kX8_adds : am_M1 am_tb0 cX8_adds RX8 2 (some .int) false tX8_adds := And.intro rX8_adds_0 (And.intro rX8_adds_1 (trivial))
def tX8_frees : List (List am_Op) := [[o_iload 1 1, o_cs 118 1 1 1 4, am_nop, am_nop, o_if (fun x => ¬ x = 0) 10 7, am_nop, am_nop, o_push (.int (-1000000001)) 9, am_nop, o_iret, o_aload 0 11, o_push (.int (-1)) 12, o_cv 8 38 149 5 25 1 15, am_nop, am_nop, o_istore 2 16],
  [o_push (.int (-1000000005)) 18, am_nop, o_istore 3 19, o_push (.int 99) 21, am_nop, o_istore 4 23, am_nop, o_iload 4 25, am_nop, o_if (fun x => x ≤ 0) 71 28, am_nop, am_nop, o_aload 0 29, o_push (.int 0) 30, o_iload 1 31, o_iload 4 33],
  [am_nop, o_push (.int 0) 34, o_cv 8 38 125 5 2 4 37, am_nop, am_nop, o_istore 5 39, am_nop, o_aload 0 40, o_push (.int (-1)) 41, o_cv 8 38 149 5 25 1 44, am_nop, am_nop, o_iload 2 45, o_icmp (fun x y => x ≤ y) 53 48, am_nop, am_nop],
  [o_iload 4 50, am_nop, o_goto 54, am_nop, am_nop, o_iload 3 54, o_istore 3 55, o_aload 0 56, o_getR 8 38 0 59, am_nop, am_nop, o_push (.int 1) 60, o_dup2 61, o_iald 20 62, o_push (.int 1) 63, o_bin (fun x y => x - y) 64],
  [o_iast 65, o_iinc 4 (-1) 68, am_nop, am_nop, o_goto 23, am_nop, am_nop, o_iload 3 72, o_iret, am_nop, am_nop, am_nop, am_nop, am_nop, am_nop, am_nop]]
theorem rX8_frees_0 : am_allR (fun pc o => am_ok am_tb0 cX8_frees RX8 6 (some .int) false pc o ∧ am_mo o) 0 (am_nth [] tX8_frees 0) :=
  And.intro ⟨ok_iload_n dX8_frees_0 rfl rfl, mo_iload⟩ (
  And.intro ⟨ok_cs (z := 118) dX8_frees_1 wd_1015 wd_1016 wd_8 wd_1017 rfl (by decide) hy_X8_isPlace rfl, mo_cs⟩ (
  And.intro ⟨ok_nop, mo_nop⟩ (
  And.intro ⟨ok_nop, mo_nop⟩ (
  And.intro ⟨ok_if_ne dX8_frees_4 (by decide) rfl, mo_if⟩ (
  And.intro ⟨ok_nop, mo_nop⟩ (
  And.intro ⟨ok_nop, mo_nop⟩ (
  And.intro ⟨ok_ldc dX8_frees_7 rfl wd_1021, mo_push⟩ (
  And.intro ⟨ok_nop, mo_nop⟩ (
  And.intro ⟨ok_iret dX8_frees_9 rfl, mo_iret⟩ (
  And.intro ⟨ok_aload_n dX8_frees_10 rfl rfl, mo_aload⟩ (
  And.intro ⟨ok_iconst dX8_frees_11 rfl ic_m1, mo_push⟩ (
  And.intro ⟨ok_cv (z := 149) dX8_frees_12 hclX8 (by decide) wd_1150 wd_1152 wp_32 wd_8 wd_1153 rfl (by decide) ⟨rfl, hy_X8_metBut⟩ rfl, mo_cv⟩ (
  And.intro ⟨ok_nop, mo_nop⟩ (
  And.intro ⟨ok_nop, mo_nop⟩ (
  And.intro ⟨ok_istore_n dX8_frees_15 rfl (by decide) rfl, mo_istore⟩ (
  trivial))))))))))))))))
theorem rX8_frees_1 : am_allR (fun pc o => am_ok am_tb0 cX8_frees RX8 6 (some .int) false pc o ∧ am_mo o) 16 (am_nth [] tX8_frees 1) :=
  And.intro ⟨ok_ldc dX8_frees_16 rfl wd_1173, mo_push⟩ (
  And.intro ⟨ok_nop, mo_nop⟩ (
  And.intro ⟨ok_istore_n dX8_frees_18 rfl (by decide) rfl, mo_istore⟩ (
  And.intro ⟨ok_bipush dX8_frees_19 rfl bi_99, mo_push⟩ (
  And.intro ⟨ok_nop, mo_nop⟩ (
  And.intro ⟨ok_istore dX8_frees_21 (by decide) rfl, mo_istore⟩ (
  And.intro ⟨ok_nop, mo_nop⟩ (
  And.intro ⟨ok_iload dX8_frees_23 rfl, mo_iload⟩ (
  And.intro ⟨ok_nop, mo_nop⟩ (
  And.intro ⟨ok_if_le dX8_frees_25 (by decide) rfl, mo_if⟩ (
  And.intro ⟨ok_nop, mo_nop⟩ (
  And.intro ⟨ok_nop, mo_nop⟩ (
  And.intro ⟨ok_aload_n dX8_frees_28 rfl rfl, mo_aload⟩ (
  And.intro ⟨ok_iconst dX8_frees_29 rfl ic_0, mo_push⟩ (
  And.intro ⟨ok_iload_n dX8_frees_30 rfl rfl, mo_iload⟩ (
  And.intro ⟨ok_iload dX8_frees_31 rfl, mo_iload⟩ (
  trivial))))))))))))))))
theorem rX8_frees_2 : am_allR (fun pc o => am_ok am_tb0 cX8_frees RX8 6 (some .int) false pc o ∧ am_mo o) 32 (am_nth [] tX8_frees 2) :=
  And.intro ⟨ok_nop, mo_nop⟩ (
  And.intro ⟨ok_iconst dX8_frees_33 rfl ic_0, mo_push⟩ (
  And.intro ⟨ok_cv (z := 125) dX8_frees_34 hclX8 (by decide) wd_1023 wd_1025 wp_17 wd_8 wd_1026 rfl (by decide) ⟨rfl, hy_X8_comes⟩ rfl, mo_cv⟩ (
  And.intro ⟨ok_nop, mo_nop⟩ (
  And.intro ⟨ok_nop, mo_nop⟩ (
  And.intro ⟨ok_istore dX8_frees_37 (by decide) rfl, mo_istore⟩ (
  And.intro ⟨ok_nop, mo_nop⟩ (
  And.intro ⟨ok_aload_n dX8_frees_39 rfl rfl, mo_aload⟩ (
  And.intro ⟨ok_iconst dX8_frees_40 rfl ic_m1, mo_push⟩ (
  And.intro ⟨ok_cv (z := 149) dX8_frees_41 hclX8 (by decide) wd_1150 wd_1152 wp_32 wd_8 wd_1153 rfl (by decide) ⟨rfl, hy_X8_metBut⟩ rfl, mo_cv⟩ (
  And.intro ⟨ok_nop, mo_nop⟩ (
  And.intro ⟨ok_nop, mo_nop⟩ (
  And.intro ⟨ok_iload_n dX8_frees_44 rfl rfl, mo_iload⟩ (
  And.intro ⟨ok_icmp_le dX8_frees_45 (by decide) rfl, mo_icmp⟩ (
  And.intro ⟨ok_nop, mo_nop⟩ (
  And.intro ⟨ok_nop, mo_nop⟩ (
  trivial))))))))))))))))
theorem rX8_frees_3 : am_allR (fun pc o => am_ok am_tb0 cX8_frees RX8 6 (some .int) false pc o ∧ am_mo o) 48 (am_nth [] tX8_frees 3) :=
  And.intro ⟨ok_iload dX8_frees_48 rfl, mo_iload⟩ (
  And.intro ⟨ok_nop, mo_nop⟩ (
  And.intro ⟨ok_goto dX8_frees_50 (by decide), mo_goto⟩ (
  And.intro ⟨ok_nop, mo_nop⟩ (
  And.intro ⟨ok_nop, mo_nop⟩ (
  And.intro ⟨ok_iload_n dX8_frees_53 rfl rfl, mo_iload⟩ (
  And.intro ⟨ok_istore_n dX8_frees_54 rfl (by decide) rfl, mo_istore⟩ (
  And.intro ⟨ok_aload_n dX8_frees_55 rfl rfl, mo_aload⟩ (
  And.intro ⟨ok_getR dX8_frees_56 hclX8 inWX8 (by decide) (by decide) wd_891 (fun _ _ _ => rfl) rfl, mo_getR⟩ (
  And.intro ⟨ok_nop, mo_nop⟩ (
  And.intro ⟨ok_nop, mo_nop⟩ (
  And.intro ⟨ok_iconst dX8_frees_59 rfl ic_1, mo_push⟩ (
  And.intro ⟨ok_dup2 dX8_frees_60 rfl, mo_dup2⟩ (
  And.intro ⟨ok_iald dX8_frees_61 rfl, mo_iald⟩ (
  And.intro ⟨ok_iconst dX8_frees_62 rfl ic_1, mo_push⟩ (
  And.intro ⟨ok_isub dX8_frees_63 rfl, mo_bin⟩ (
  trivial))))))))))))))))
theorem rX8_frees_4 : am_allR (fun pc o => am_ok am_tb0 cX8_frees RX8 6 (some .int) false pc o ∧ am_mo o) 64 (am_nth [] tX8_frees 4) :=
  And.intro ⟨ok_iast dX8_frees_64 rfl, mo_iast⟩ (
  And.intro ⟨ok_iinc dX8_frees_65 ic_m1 (by decide) rfl, mo_iinc⟩ (
  And.intro ⟨ok_nop, mo_nop⟩ (
  And.intro ⟨ok_nop, mo_nop⟩ (
  And.intro ⟨ok_goto dX8_frees_68 (by decide), mo_goto⟩ (
  And.intro ⟨ok_nop, mo_nop⟩ (
  And.intro ⟨ok_nop, mo_nop⟩ (
  And.intro ⟨ok_iload_n dX8_frees_71 rfl rfl, mo_iload⟩ (
  And.intro ⟨ok_iret dX8_frees_72 rfl, mo_iret⟩ (
  And.intro ⟨ok_nop, mo_nop⟩ (
  And.intro ⟨ok_nop, mo_nop⟩ (
  And.intro ⟨ok_nop, mo_nop⟩ (
  And.intro ⟨ok_nop, mo_nop⟩ (
  And.intro ⟨ok_nop, mo_nop⟩ (
  And.intro ⟨ok_nop, mo_nop⟩ (
  And.intro ⟨ok_nop, mo_nop⟩ (
  trivial))))))))))))))))
theorem kX8_frees : am_M1 am_tb0 cX8_frees RX8 6 (some .int) false tX8_frees := And.intro rX8_frees_0 (And.intro rX8_frees_1 (And.intro rX8_frees_2 (And.intro rX8_frees_3 (And.intro rX8_frees_4 (trivial)))))
def tX8_filled : List (List am_Op) := [[o_push (.int 0) 1, o_istore 1 2, o_push (.int 0) 3, o_istore 2 4, o_iload 2 5, o_aload 0 6, o_getR 8 38 0 9, am_nop, am_nop, o_push (.int 1) 10, o_iald 20 11, o_icmp (fun x y => y ≤ x) 37 14, am_nop, am_nop, o_iload 1 15, o_aload 0 16],
  [o_iload 2 17, o_push (.int 2) 18, o_cv 8 38 121 3 0 2 21, am_nop, am_nop, o_if (fun x => ¬ x = 0) 28 24, am_nop, am_nop, o_push (.int 1) 25, o_goto 29, am_nop, am_nop, o_push (.int 0) 29, o_bin (fun x y => x + y) 30, o_istore 1 31, o_iinc 2 1 34],
  [am_nop, am_nop, o_goto 4, am_nop, am_nop, o_iload 1 38, o_iret, am_nop, am_nop, am_nop, am_nop, am_nop, am_nop, am_nop, am_nop, am_nop]]
theorem rX8_filled_0 : am_allR (fun pc o => am_ok am_tb0 cX8_filled RX8 3 (some .int) false pc o ∧ am_mo o) 0 (am_nth [] tX8_filled 0) :=
  And.intro ⟨ok_iconst dX8_filled_0 rfl ic_0, mo_push⟩ (
  And.intro ⟨ok_istore_n dX8_filled_1 rfl (by decide) rfl, mo_istore⟩ (
  And.intro ⟨ok_iconst dX8_filled_2 rfl ic_0, mo_push⟩ (
  And.intro ⟨ok_istore_n dX8_filled_3 rfl (by decide) rfl, mo_istore⟩ (
  And.intro ⟨ok_iload_n dX8_filled_4 rfl rfl, mo_iload⟩ (
  And.intro ⟨ok_aload_n dX8_filled_5 rfl rfl, mo_aload⟩ (
  And.intro ⟨ok_getR dX8_filled_6 hclX8 inWX8 (by decide) (by decide) wd_891 (fun _ _ _ => rfl) rfl, mo_getR⟩ (
  And.intro ⟨ok_nop, mo_nop⟩ (
  And.intro ⟨ok_nop, mo_nop⟩ (
  And.intro ⟨ok_iconst dX8_filled_9 rfl ic_1, mo_push⟩ (
  And.intro ⟨ok_iald dX8_filled_10 rfl, mo_iald⟩ (
  And.intro ⟨ok_icmp_ge dX8_filled_11 (by decide) rfl, mo_icmp⟩ (
  And.intro ⟨ok_nop, mo_nop⟩ (
  And.intro ⟨ok_nop, mo_nop⟩ (
  And.intro ⟨ok_iload_n dX8_filled_14 rfl rfl, mo_iload⟩ (
  And.intro ⟨ok_aload_n dX8_filled_15 rfl rfl, mo_aload⟩ (
  trivial))))))))))))))))
theorem rX8_filled_1 : am_allR (fun pc o => am_ok am_tb0 cX8_filled RX8 3 (some .int) false pc o ∧ am_mo o) 16 (am_nth [] tX8_filled 1) :=
  And.intro ⟨ok_iload_n dX8_filled_16 rfl rfl, mo_iload⟩ (
  And.intro ⟨ok_iconst dX8_filled_17 rfl ic_2, mo_push⟩ (
  And.intro ⟨ok_cv (z := 121) dX8_filled_18 hclX8 (by decide) wd_1043 wd_1045 wp_21 wd_8 wd_1046 rfl (by decide) ⟨rfl, hy_X8_of⟩ rfl, mo_cv⟩ (
  And.intro ⟨ok_nop, mo_nop⟩ (
  And.intro ⟨ok_nop, mo_nop⟩ (
  And.intro ⟨ok_if_ne dX8_filled_21 (by decide) rfl, mo_if⟩ (
  And.intro ⟨ok_nop, mo_nop⟩ (
  And.intro ⟨ok_nop, mo_nop⟩ (
  And.intro ⟨ok_iconst dX8_filled_24 rfl ic_1, mo_push⟩ (
  And.intro ⟨ok_goto dX8_filled_25 (by decide), mo_goto⟩ (
  And.intro ⟨ok_nop, mo_nop⟩ (
  And.intro ⟨ok_nop, mo_nop⟩ (
  And.intro ⟨ok_iconst dX8_filled_28 rfl ic_0, mo_push⟩ (
  And.intro ⟨ok_iadd dX8_filled_29 rfl, mo_bin⟩ (
  And.intro ⟨ok_istore_n dX8_filled_30 rfl (by decide) rfl, mo_istore⟩ (
  And.intro ⟨ok_iinc dX8_filled_31 ic_1 (by decide) rfl, mo_iinc⟩ (
  trivial))))))))))))))))
theorem rX8_filled_2 : am_allR (fun pc o => am_ok am_tb0 cX8_filled RX8 3 (some .int) false pc o ∧ am_mo o) 32 (am_nth [] tX8_filled 2) :=
  And.intro ⟨ok_nop, mo_nop⟩ (
  And.intro ⟨ok_nop, mo_nop⟩ (
  And.intro ⟨ok_goto dX8_filled_34 (by decide), mo_goto⟩ (
  And.intro ⟨ok_nop, mo_nop⟩ (
  And.intro ⟨ok_nop, mo_nop⟩ (
  And.intro ⟨ok_iload_n dX8_filled_37 rfl rfl, mo_iload⟩ (
  And.intro ⟨ok_iret dX8_filled_38 rfl, mo_iret⟩ (
  And.intro ⟨ok_nop, mo_nop⟩ (
  And.intro ⟨ok_nop, mo_nop⟩ (
  And.intro ⟨ok_nop, mo_nop⟩ (
  And.intro ⟨ok_nop, mo_nop⟩ (
  And.intro ⟨ok_nop, mo_nop⟩ (
  And.intro ⟨ok_nop, mo_nop⟩ (
  And.intro ⟨ok_nop, mo_nop⟩ (
  And.intro ⟨ok_nop, mo_nop⟩ (
  And.intro ⟨ok_nop, mo_nop⟩ (
  trivial))))))))))))))))
theorem kX8_filled : am_M1 am_tb0 cX8_filled RX8 3 (some .int) false tX8_filled := And.intro rX8_filled_0 (And.intro rX8_filled_1 (And.intro rX8_filled_2 (trivial)))
def tX8_depthAll : List (List am_Op) := [[o_push (.int 0) 1, o_istore 1 2, o_push (.int 0) 3, o_istore 2 4, o_iload 2 5, o_aload 0 6, o_getR 8 38 0 9, am_nop, am_nop, o_push (.int 1) 10, o_iald 20 11, o_icmp (fun x y => y ≤ x) 29 14, am_nop, am_nop, o_iload 1 15, o_aload 0 16],
  [o_iload 2 17, o_push (.int 2) 18, o_cv 8 38 121 3 0 2 21, am_nop, am_nop, o_bin (fun x y => x + y) 22, o_istore 1 23, o_iinc 2 1 26, am_nop, am_nop, o_goto 4, am_nop, am_nop, o_iload 1 30, o_iret, am_nop]]
theorem rX8_depthAll_0 : am_allR (fun pc o => am_ok am_tb0 cX8_depthAll RX8 3 (some .int) false pc o ∧ am_mo o) 0 (am_nth [] tX8_depthAll 0) :=
  And.intro ⟨ok_iconst dX8_depthAll_0 rfl ic_0, mo_push⟩ (
  And.intro ⟨ok_istore_n dX8_depthAll_1 rfl (by decide) rfl, mo_istore⟩ (
  And.intro ⟨ok_iconst dX8_depthAll_2 rfl ic_0, mo_push⟩ (
  And.intro ⟨ok_istore_n dX8_depthAll_3 rfl (by decide) rfl, mo_istore⟩ (
  And.intro ⟨ok_iload_n dX8_depthAll_4 rfl rfl, mo_iload⟩ (
  And.intro ⟨ok_aload_n dX8_depthAll_5 rfl rfl, mo_aload⟩ (
  And.intro ⟨ok_getR dX8_depthAll_6 hclX8 inWX8 (by decide) (by decide) wd_891 (fun _ _ _ => rfl) rfl, mo_getR⟩ (
  And.intro ⟨ok_nop, mo_nop⟩ (
  And.intro ⟨ok_nop, mo_nop⟩ (
  And.intro ⟨ok_iconst dX8_depthAll_9 rfl ic_1, mo_push⟩ (
  And.intro ⟨ok_iald dX8_depthAll_10 rfl, mo_iald⟩ (
  And.intro ⟨ok_icmp_ge dX8_depthAll_11 (by decide) rfl, mo_icmp⟩ (
  And.intro ⟨ok_nop, mo_nop⟩ (
  And.intro ⟨ok_nop, mo_nop⟩ (
  And.intro ⟨ok_iload_n dX8_depthAll_14 rfl rfl, mo_iload⟩ (
  And.intro ⟨ok_aload_n dX8_depthAll_15 rfl rfl, mo_aload⟩ (
  trivial))))))))))))))))
theorem rX8_depthAll_1 : am_allR (fun pc o => am_ok am_tb0 cX8_depthAll RX8 3 (some .int) false pc o ∧ am_mo o) 16 (am_nth [] tX8_depthAll 1) :=
  And.intro ⟨ok_iload_n dX8_depthAll_16 rfl rfl, mo_iload⟩ (
  And.intro ⟨ok_iconst dX8_depthAll_17 rfl ic_2, mo_push⟩ (
  And.intro ⟨ok_cv (z := 121) dX8_depthAll_18 hclX8 (by decide) wd_1043 wd_1045 wp_21 wd_8 wd_1046 rfl (by decide) ⟨rfl, hy_X8_of⟩ rfl, mo_cv⟩ (
  And.intro ⟨ok_nop, mo_nop⟩ (
  And.intro ⟨ok_nop, mo_nop⟩ (
  And.intro ⟨ok_iadd dX8_depthAll_21 rfl, mo_bin⟩ (
  And.intro ⟨ok_istore_n dX8_depthAll_22 rfl (by decide) rfl, mo_istore⟩ (
  And.intro ⟨ok_iinc dX8_depthAll_23 ic_1 (by decide) rfl, mo_iinc⟩ (
  And.intro ⟨ok_nop, mo_nop⟩ (
  And.intro ⟨ok_nop, mo_nop⟩ (
  And.intro ⟨ok_goto dX8_depthAll_26 (by decide), mo_goto⟩ (
  And.intro ⟨ok_nop, mo_nop⟩ (
  And.intro ⟨ok_nop, mo_nop⟩ (
  And.intro ⟨ok_iload_n dX8_depthAll_29 rfl rfl, mo_iload⟩ (
  And.intro ⟨ok_iret dX8_depthAll_30 rfl, mo_iret⟩ (
  And.intro ⟨ok_nop, mo_nop⟩ (
  trivial))))))))))))))))
theorem kX8_depthAll : am_M1 am_tb0 cX8_depthAll RX8 3 (some .int) false tX8_depthAll := And.intro rX8_depthAll_0 (And.intro rX8_depthAll_1 (trivial))
def tX8_day : List (List am_Op) := [[o_push (.int 0) 1, o_istore 1 2, o_iload 1 3, o_aload 0 4, o_getR 8 38 0 7, am_nop, am_nop, o_push (.int 1) 8, o_iald 20 9, o_icmp (fun x y => y ≤ x) 96 12, am_nop, am_nop, o_aload 0 13, o_iload 1 14, o_push (.int 2) 15, o_cv 8 38 121 3 0 2 18],
  [am_nop, am_nop, o_if (fun x => x ≤ 0) 90 21, am_nop, am_nop, o_aload 0 22, o_iload 1 23, o_aload 0 24, o_cv 8 38 136 1 0 0 27, am_nop, am_nop, o_push (.int 10) 29, am_nop, o_binS (fun x y => x - x / y * y) 30, o_cv 8 38 133 6 2 2 33, am_nop],
  [am_nop, o_push (.int 0) 34, o_aload 0 35, o_iload 1 36, o_push (.int 2) 37, o_cv 8 38 121 3 0 2 40, am_nop, am_nop, o_cs 114 3 0 3 43, am_nop, am_nop, o_istore 2 44, o_aload 0 45, o_iload 1 46, o_push (.int 2) 47, o_aload 0 48],
  [o_iload 1 49, o_push (.int 2) 50, o_cv 8 38 121 3 0 2 53, am_nop, am_nop, o_iload 2 54, o_bin (fun x y => x - y) 55, o_cv 8 38 122 4 0 3 58, am_nop, am_nop, o_aload 0 59, o_getR 8 38 0 62, am_nop, am_nop, o_push (.int 6) 64, am_nop],
  [o_dup2 65, o_iald 20 66, o_iload 2 67, o_bin (fun x y => x + y) 68, o_iast 69, o_aload 0 70, o_iload 1 71, o_push (.int 4) 72, o_aload 0 73, o_iload 1 74, o_push (.int 4) 75, o_cv 8 38 121 3 0 2 78, am_nop, am_nop, o_push (.int 1) 79, o_bin (fun x y => x + y) 80],
  [o_push (.int 0) 81, o_push (.int 999) 84, am_nop, am_nop, o_cs 114 3 0 3 87, am_nop, am_nop, o_cv 8 38 122 4 0 3 90, am_nop, am_nop, o_iinc 1 1 93, am_nop, am_nop, o_goto 2, am_nop, am_nop],
  [o_aload 0 97, o_getR 8 38 0 100, am_nop, am_nop, o_push (.int 2) 101, o_dup2 102, o_iald 20 103, o_push (.int 1) 104, o_bin (fun x y => x + y) 105, o_iast 106, o_ret, am_nop, am_nop, am_nop, am_nop, am_nop]]
theorem rX8_day_0 : am_allR (fun pc o => am_ok am_tb0 cX8_day RX8 3 none false pc o ∧ am_mo o) 0 (am_nth [] tX8_day 0) :=
  And.intro ⟨ok_iconst dX8_day_0 rfl ic_0, mo_push⟩ (
  And.intro ⟨ok_istore_n dX8_day_1 rfl (by decide) rfl, mo_istore⟩ (
  And.intro ⟨ok_iload_n dX8_day_2 rfl rfl, mo_iload⟩ (
  And.intro ⟨ok_aload_n dX8_day_3 rfl rfl, mo_aload⟩ (
  And.intro ⟨ok_getR dX8_day_4 hclX8 inWX8 (by decide) (by decide) wd_891 (fun _ _ _ => rfl) rfl, mo_getR⟩ (
  And.intro ⟨ok_nop, mo_nop⟩ (
  And.intro ⟨ok_nop, mo_nop⟩ (
  And.intro ⟨ok_iconst dX8_day_7 rfl ic_1, mo_push⟩ (
  And.intro ⟨ok_iald dX8_day_8 rfl, mo_iald⟩ (
  And.intro ⟨ok_icmp_ge dX8_day_9 (by decide) rfl, mo_icmp⟩ (
  And.intro ⟨ok_nop, mo_nop⟩ (
  And.intro ⟨ok_nop, mo_nop⟩ (
  And.intro ⟨ok_aload_n dX8_day_12 rfl rfl, mo_aload⟩ (
  And.intro ⟨ok_iload_n dX8_day_13 rfl rfl, mo_iload⟩ (
  And.intro ⟨ok_iconst dX8_day_14 rfl ic_2, mo_push⟩ (
  And.intro ⟨ok_cv (z := 121) dX8_day_15 hclX8 (by decide) wd_1043 wd_1045 wp_21 wd_8 wd_1046 rfl (by decide) ⟨rfl, hy_X8_of⟩ rfl, mo_cv⟩ (
  trivial))))))))))))))))
theorem rX8_day_1 : am_allR (fun pc o => am_ok am_tb0 cX8_day RX8 3 none false pc o ∧ am_mo o) 16 (am_nth [] tX8_day 1) :=
  And.intro ⟨ok_nop, mo_nop⟩ (
  And.intro ⟨ok_nop, mo_nop⟩ (
  And.intro ⟨ok_if_le dX8_day_18 (by decide) rfl, mo_if⟩ (
  And.intro ⟨ok_nop, mo_nop⟩ (
  And.intro ⟨ok_nop, mo_nop⟩ (
  And.intro ⟨ok_aload_n dX8_day_21 rfl rfl, mo_aload⟩ (
  And.intro ⟨ok_iload_n dX8_day_22 rfl rfl, mo_iload⟩ (
  And.intro ⟨ok_aload_n dX8_day_23 rfl rfl, mo_aload⟩ (
  And.intro ⟨ok_cv (z := 136) dX8_day_24 hclX8 (by decide) wd_1101 wd_1103 wp_27 wd_8 wd_1104 rfl (by decide) ⟨rfl, hy_X8_draw⟩ rfl, mo_cv⟩ (
  And.intro ⟨ok_nop, mo_nop⟩ (
  And.intro ⟨ok_nop, mo_nop⟩ (
  And.intro ⟨ok_bipush dX8_day_27 rfl bi_10, mo_push⟩ (
  And.intro ⟨ok_nop, mo_nop⟩ (
  And.intro ⟨ok_irem dX8_day_29 rfl, mo_binS⟩ (
  And.intro ⟨ok_cv (z := 133) dX8_day_30 hclX8 (by decide) wd_1075 wd_1077 wp_24 wd_8 wd_1078 rfl (by decide) ⟨rfl, hy_X8_settlesBy⟩ rfl, mo_cv⟩ (
  And.intro ⟨ok_nop, mo_nop⟩ (
  trivial))))))))))))))))
theorem rX8_day_2 : am_allR (fun pc o => am_ok am_tb0 cX8_day RX8 3 none false pc o ∧ am_mo o) 32 (am_nth [] tX8_day 2) :=
  And.intro ⟨ok_nop, mo_nop⟩ (
  And.intro ⟨ok_iconst dX8_day_33 rfl ic_0, mo_push⟩ (
  And.intro ⟨ok_aload_n dX8_day_34 rfl rfl, mo_aload⟩ (
  And.intro ⟨ok_iload_n dX8_day_35 rfl rfl, mo_iload⟩ (
  And.intro ⟨ok_iconst dX8_day_36 rfl ic_2, mo_push⟩ (
  And.intro ⟨ok_cv (z := 121) dX8_day_37 hclX8 (by decide) wd_1043 wd_1045 wp_21 wd_8 wd_1046 rfl (by decide) ⟨rfl, hy_X8_of⟩ rfl, mo_cv⟩ (
  And.intro ⟨ok_nop, mo_nop⟩ (
  And.intro ⟨ok_nop, mo_nop⟩ (
  And.intro ⟨ok_cs (z := 114) dX8_day_40 wd_1090 wd_1091 wd_8 wd_1092 rfl (by decide) hy_X8_within rfl, mo_cs⟩ (
  And.intro ⟨ok_nop, mo_nop⟩ (
  And.intro ⟨ok_nop, mo_nop⟩ (
  And.intro ⟨ok_istore_n dX8_day_43 rfl (by decide) rfl, mo_istore⟩ (
  And.intro ⟨ok_aload_n dX8_day_44 rfl rfl, mo_aload⟩ (
  And.intro ⟨ok_iload_n dX8_day_45 rfl rfl, mo_iload⟩ (
  And.intro ⟨ok_iconst dX8_day_46 rfl ic_2, mo_push⟩ (
  And.intro ⟨ok_aload_n dX8_day_47 rfl rfl, mo_aload⟩ (
  trivial))))))))))))))))
theorem rX8_day_3 : am_allR (fun pc o => am_ok am_tb0 cX8_day RX8 3 none false pc o ∧ am_mo o) 48 (am_nth [] tX8_day 3) :=
  And.intro ⟨ok_iload_n dX8_day_48 rfl rfl, mo_iload⟩ (
  And.intro ⟨ok_iconst dX8_day_49 rfl ic_2, mo_push⟩ (
  And.intro ⟨ok_cv (z := 121) dX8_day_50 hclX8 (by decide) wd_1043 wd_1045 wp_21 wd_8 wd_1046 rfl (by decide) ⟨rfl, hy_X8_of⟩ rfl, mo_cv⟩ (
  And.intro ⟨ok_nop, mo_nop⟩ (
  And.intro ⟨ok_nop, mo_nop⟩ (
  And.intro ⟨ok_iload_n dX8_day_53 rfl rfl, mo_iload⟩ (
  And.intro ⟨ok_isub dX8_day_54 rfl, mo_bin⟩ (
  And.intro ⟨ok_cv (z := 122) dX8_day_55 hclX8 (by decide) wd_1031 wd_1033 wp_19 wd_8 wd_1034 rfl (by decide) ⟨rfl, hy_X8_put⟩ rfl, mo_cv⟩ (
  And.intro ⟨ok_nop, mo_nop⟩ (
  And.intro ⟨ok_nop, mo_nop⟩ (
  And.intro ⟨ok_aload_n dX8_day_58 rfl rfl, mo_aload⟩ (
  And.intro ⟨ok_getR dX8_day_59 hclX8 inWX8 (by decide) (by decide) wd_891 (fun _ _ _ => rfl) rfl, mo_getR⟩ (
  And.intro ⟨ok_nop, mo_nop⟩ (
  And.intro ⟨ok_nop, mo_nop⟩ (
  And.intro ⟨ok_bipush dX8_day_62 rfl bi_6, mo_push⟩ (
  And.intro ⟨ok_nop, mo_nop⟩ (
  trivial))))))))))))))))
theorem rX8_day_4 : am_allR (fun pc o => am_ok am_tb0 cX8_day RX8 3 none false pc o ∧ am_mo o) 64 (am_nth [] tX8_day 4) :=
  And.intro ⟨ok_dup2 dX8_day_64 rfl, mo_dup2⟩ (
  And.intro ⟨ok_iald dX8_day_65 rfl, mo_iald⟩ (
  And.intro ⟨ok_iload_n dX8_day_66 rfl rfl, mo_iload⟩ (
  And.intro ⟨ok_iadd dX8_day_67 rfl, mo_bin⟩ (
  And.intro ⟨ok_iast dX8_day_68 rfl, mo_iast⟩ (
  And.intro ⟨ok_aload_n dX8_day_69 rfl rfl, mo_aload⟩ (
  And.intro ⟨ok_iload_n dX8_day_70 rfl rfl, mo_iload⟩ (
  And.intro ⟨ok_iconst dX8_day_71 rfl ic_4, mo_push⟩ (
  And.intro ⟨ok_aload_n dX8_day_72 rfl rfl, mo_aload⟩ (
  And.intro ⟨ok_iload_n dX8_day_73 rfl rfl, mo_iload⟩ (
  And.intro ⟨ok_iconst dX8_day_74 rfl ic_4, mo_push⟩ (
  And.intro ⟨ok_cv (z := 121) dX8_day_75 hclX8 (by decide) wd_1043 wd_1045 wp_21 wd_8 wd_1046 rfl (by decide) ⟨rfl, hy_X8_of⟩ rfl, mo_cv⟩ (
  And.intro ⟨ok_nop, mo_nop⟩ (
  And.intro ⟨ok_nop, mo_nop⟩ (
  And.intro ⟨ok_iconst dX8_day_78 rfl ic_1, mo_push⟩ (
  And.intro ⟨ok_iadd dX8_day_79 rfl, mo_bin⟩ (
  trivial))))))))))))))))
theorem rX8_day_5 : am_allR (fun pc o => am_ok am_tb0 cX8_day RX8 3 none false pc o ∧ am_mo o) 80 (am_nth [] tX8_day 5) :=
  And.intro ⟨ok_iconst dX8_day_80 rfl ic_0, mo_push⟩ (
  And.intro ⟨ok_sipush dX8_day_81 rfl si_999, mo_push⟩ (
  And.intro ⟨ok_nop, mo_nop⟩ (
  And.intro ⟨ok_nop, mo_nop⟩ (
  And.intro ⟨ok_cs (z := 114) dX8_day_84 wd_1090 wd_1091 wd_8 wd_1092 rfl (by decide) hy_X8_within rfl, mo_cs⟩ (
  And.intro ⟨ok_nop, mo_nop⟩ (
  And.intro ⟨ok_nop, mo_nop⟩ (
  And.intro ⟨ok_cv (z := 122) dX8_day_87 hclX8 (by decide) wd_1031 wd_1033 wp_19 wd_8 wd_1034 rfl (by decide) ⟨rfl, hy_X8_put⟩ rfl, mo_cv⟩ (
  And.intro ⟨ok_nop, mo_nop⟩ (
  And.intro ⟨ok_nop, mo_nop⟩ (
  And.intro ⟨ok_iinc dX8_day_90 ic_1 (by decide) rfl, mo_iinc⟩ (
  And.intro ⟨ok_nop, mo_nop⟩ (
  And.intro ⟨ok_nop, mo_nop⟩ (
  And.intro ⟨ok_goto dX8_day_93 (by decide), mo_goto⟩ (
  And.intro ⟨ok_nop, mo_nop⟩ (
  And.intro ⟨ok_nop, mo_nop⟩ (
  trivial))))))))))))))))
theorem rX8_day_6 : am_allR (fun pc o => am_ok am_tb0 cX8_day RX8 3 none false pc o ∧ am_mo o) 96 (am_nth [] tX8_day 6) :=
  And.intro ⟨ok_aload_n dX8_day_96 rfl rfl, mo_aload⟩ (
  And.intro ⟨ok_getR dX8_day_97 hclX8 inWX8 (by decide) (by decide) wd_891 (fun _ _ _ => rfl) rfl, mo_getR⟩ (
  And.intro ⟨ok_nop, mo_nop⟩ (
  And.intro ⟨ok_nop, mo_nop⟩ (
  And.intro ⟨ok_iconst dX8_day_100 rfl ic_2, mo_push⟩ (
  And.intro ⟨ok_dup2 dX8_day_101 rfl, mo_dup2⟩ (
  And.intro ⟨ok_iald dX8_day_102 rfl, mo_iald⟩ (
  And.intro ⟨ok_iconst dX8_day_103 rfl ic_1, mo_push⟩ (
  And.intro ⟨ok_iadd dX8_day_104 rfl, mo_bin⟩ (
  And.intro ⟨ok_iast dX8_day_105 rfl, mo_iast⟩ (
  And.intro ⟨ok_ret dX8_day_106 rfl, mo_ret⟩ (
  And.intro ⟨ok_nop, mo_nop⟩ (
  And.intro ⟨ok_nop, mo_nop⟩ (
  And.intro ⟨ok_nop, mo_nop⟩ (
  And.intro ⟨ok_nop, mo_nop⟩ (
  And.intro ⟨ok_nop, mo_nop⟩ (
  trivial))))))))))))))))
theorem kX8_day : am_M1 am_tb0 cX8_day RX8 3 none false tX8_day := And.intro rX8_day_0 (And.intro rX8_day_1 (And.intro rX8_day_2 (And.intro rX8_day_3 (And.intro rX8_day_4 (And.intro rX8_day_5 (And.intro rX8_day_6 (trivial)))))))
def tX8_goesOn : List (List am_Op) := [[o_push (.int 0) 1, o_istore 2 2, o_iload 2 3, o_iload 1 4, o_icmp (fun x y => y ≤ x) 17 7, am_nop, am_nop, o_aload 0 8, o_cv 8 38 157 3 3 0 11, am_nop, am_nop, o_iinc 2 1 14, am_nop, am_nop, o_goto 2, am_nop],
  [am_nop, o_ret, am_nop, am_nop, am_nop, am_nop, am_nop, am_nop, am_nop, am_nop, am_nop, am_nop, am_nop, am_nop, am_nop, am_nop]]
theorem rX8_goesOn_0 : am_allR (fun pc o => am_ok am_tb0 cX8_goesOn RX8 3 none false pc o ∧ am_mo o) 0 (am_nth [] tX8_goesOn 0) :=
  And.intro ⟨ok_iconst dX8_goesOn_0 rfl ic_0, mo_push⟩ (
  And.intro ⟨ok_istore_n dX8_goesOn_1 rfl (by decide) rfl, mo_istore⟩ (
  And.intro ⟨ok_iload_n dX8_goesOn_2 rfl rfl, mo_iload⟩ (
  And.intro ⟨ok_iload_n dX8_goesOn_3 rfl rfl, mo_iload⟩ (
  And.intro ⟨ok_icmp_ge dX8_goesOn_4 (by decide) rfl, mo_icmp⟩ (
  And.intro ⟨ok_nop, mo_nop⟩ (
  And.intro ⟨ok_nop, mo_nop⟩ (
  And.intro ⟨ok_aload_n dX8_goesOn_7 rfl rfl, mo_aload⟩ (
  And.intro ⟨ok_cv (z := 157) dX8_goesOn_8 hclX8 (by decide) wd_1190 wd_1192 wp_38 wd_8 wd_1193 rfl (by decide) ⟨rfl, hy_X8_day⟩ rfl, mo_cv⟩ (
  And.intro ⟨ok_nop, mo_nop⟩ (
  And.intro ⟨ok_nop, mo_nop⟩ (
  And.intro ⟨ok_iinc dX8_goesOn_11 ic_1 (by decide) rfl, mo_iinc⟩ (
  And.intro ⟨ok_nop, mo_nop⟩ (
  And.intro ⟨ok_nop, mo_nop⟩ (
  And.intro ⟨ok_goto dX8_goesOn_14 (by decide), mo_goto⟩ (
  And.intro ⟨ok_nop, mo_nop⟩ (
  trivial))))))))))))))))
theorem rX8_goesOn_1 : am_allR (fun pc o => am_ok am_tb0 cX8_goesOn RX8 3 none false pc o ∧ am_mo o) 16 (am_nth [] tX8_goesOn 1) :=
  And.intro ⟨ok_nop, mo_nop⟩ (
  And.intro ⟨ok_ret dX8_goesOn_17 rfl, mo_ret⟩ (
  And.intro ⟨ok_nop, mo_nop⟩ (
  And.intro ⟨ok_nop, mo_nop⟩ (
  And.intro ⟨ok_nop, mo_nop⟩ (
  And.intro ⟨ok_nop, mo_nop⟩ (
  And.intro ⟨ok_nop, mo_nop⟩ (
  And.intro ⟨ok_nop, mo_nop⟩ (
  And.intro ⟨ok_nop, mo_nop⟩ (
  And.intro ⟨ok_nop, mo_nop⟩ (
  And.intro ⟨ok_nop, mo_nop⟩ (
  And.intro ⟨ok_nop, mo_nop⟩ (
  And.intro ⟨ok_nop, mo_nop⟩ (
  And.intro ⟨ok_nop, mo_nop⟩ (
  And.intro ⟨ok_nop, mo_nop⟩ (
  And.intro ⟨ok_nop, mo_nop⟩ (
  trivial))))))))))))))))
theorem kX8_goesOn : am_M1 am_tb0 cX8_goesOn RX8 3 none false tX8_goesOn := And.intro rX8_goesOn_0 (And.intro rX8_goesOn_1 (trivial))
def tX8_days : List (List am_Op) := [[o_iload 1 1, o_push (.int 1) 2, o_push (.int 100) 4, am_nop, o_cs 113 3 0 3 7, am_nop, am_nop, o_if (fun x => ¬ x = 0) 13 10, am_nop, am_nop, o_push (.int (-1000000001)) 12, am_nop, o_iret, o_aload 0 14, o_push (.int 9999) 17, am_nop],
  [am_nop, o_aload 0 18, o_getR 8 38 0 21, am_nop, am_nop, o_push (.int 2) 22, o_iald 20 23, o_bin (fun x y => x - y) 24, o_push (.int 0) 25, o_iload 1 26, o_cs 114 3 0 3 29, am_nop, am_nop, o_cv 8 38 158 3 4 1 32, am_nop, am_nop],
  [o_aload 0 33, o_cv 8 38 155 3 1 0 36, am_nop, am_nop, o_iret, am_nop, am_nop, am_nop, am_nop, am_nop, am_nop, am_nop, am_nop, am_nop, am_nop, am_nop]]
theorem rX8_days_0 : am_allR (fun pc o => am_ok am_tb0 cX8_days RX8 2 (some .int) false pc o ∧ am_mo o) 0 (am_nth [] tX8_days 0) :=
  And.intro ⟨ok_iload_n dX8_days_0 rfl rfl, mo_iload⟩ (
  And.intro ⟨ok_iconst dX8_days_1 rfl ic_1, mo_push⟩ (
  And.intro ⟨ok_bipush dX8_days_2 rfl bi_100, mo_push⟩ (
  And.intro ⟨ok_nop, mo_nop⟩ (
  And.intro ⟨ok_cs (z := 113) dX8_days_4 wd_1012 wd_1013 wd_8 wd_1014 rfl (by decide) hy_X8_in rfl, mo_cs⟩ (
  And.intro ⟨ok_nop, mo_nop⟩ (
  And.intro ⟨ok_nop, mo_nop⟩ (
  And.intro ⟨ok_if_ne dX8_days_7 (by decide) rfl, mo_if⟩ (
  And.intro ⟨ok_nop, mo_nop⟩ (
  And.intro ⟨ok_nop, mo_nop⟩ (
  And.intro ⟨ok_ldc dX8_days_10 rfl wd_1021, mo_push⟩ (
  And.intro ⟨ok_nop, mo_nop⟩ (
  And.intro ⟨ok_iret dX8_days_12 rfl, mo_iret⟩ (
  And.intro ⟨ok_aload_n dX8_days_13 rfl rfl, mo_aload⟩ (
  And.intro ⟨ok_sipush dX8_days_14 rfl si_9999, mo_push⟩ (
  And.intro ⟨ok_nop, mo_nop⟩ (
  trivial))))))))))))))))
theorem rX8_days_1 : am_allR (fun pc o => am_ok am_tb0 cX8_days RX8 2 (some .int) false pc o ∧ am_mo o) 16 (am_nth [] tX8_days 1) :=
  And.intro ⟨ok_nop, mo_nop⟩ (
  And.intro ⟨ok_aload_n dX8_days_17 rfl rfl, mo_aload⟩ (
  And.intro ⟨ok_getR dX8_days_18 hclX8 inWX8 (by decide) (by decide) wd_891 (fun _ _ _ => rfl) rfl, mo_getR⟩ (
  And.intro ⟨ok_nop, mo_nop⟩ (
  And.intro ⟨ok_nop, mo_nop⟩ (
  And.intro ⟨ok_iconst dX8_days_21 rfl ic_2, mo_push⟩ (
  And.intro ⟨ok_iald dX8_days_22 rfl, mo_iald⟩ (
  And.intro ⟨ok_isub dX8_days_23 rfl, mo_bin⟩ (
  And.intro ⟨ok_iconst dX8_days_24 rfl ic_0, mo_push⟩ (
  And.intro ⟨ok_iload_n dX8_days_25 rfl rfl, mo_iload⟩ (
  And.intro ⟨ok_cs (z := 114) dX8_days_26 wd_1090 wd_1091 wd_8 wd_1092 rfl (by decide) hy_X8_within rfl, mo_cs⟩ (
  And.intro ⟨ok_nop, mo_nop⟩ (
  And.intro ⟨ok_nop, mo_nop⟩ (
  And.intro ⟨ok_cv (z := 158) dX8_days_29 hclX8 (by decide) wd_1186 wd_1188 wp_37 wd_8 wd_1189 rfl (by decide) ⟨rfl, hy_X8_goesOn⟩ rfl, mo_cv⟩ (
  And.intro ⟨ok_nop, mo_nop⟩ (
  And.intro ⟨ok_nop, mo_nop⟩ (
  trivial))))))))))))))))
theorem rX8_days_2 : am_allR (fun pc o => am_ok am_tb0 cX8_days RX8 2 (some .int) false pc o ∧ am_mo o) 32 (am_nth [] tX8_days 2) :=
  And.intro ⟨ok_aload_n dX8_days_32 rfl rfl, mo_aload⟩ (
  And.intro ⟨ok_cv (z := 155) dX8_days_33 hclX8 (by decide) wd_1194 wd_1196 wp_39 wd_8 wd_1197 rfl (by decide) ⟨rfl, hy_X8_filled⟩ rfl, mo_cv⟩ (
  And.intro ⟨ok_nop, mo_nop⟩ (
  And.intro ⟨ok_nop, mo_nop⟩ (
  And.intro ⟨ok_iret dX8_days_36 rfl, mo_iret⟩ (
  And.intro ⟨ok_nop, mo_nop⟩ (
  And.intro ⟨ok_nop, mo_nop⟩ (
  And.intro ⟨ok_nop, mo_nop⟩ (
  And.intro ⟨ok_nop, mo_nop⟩ (
  And.intro ⟨ok_nop, mo_nop⟩ (
  And.intro ⟨ok_nop, mo_nop⟩ (
  And.intro ⟨ok_nop, mo_nop⟩ (
  And.intro ⟨ok_nop, mo_nop⟩ (
  And.intro ⟨ok_nop, mo_nop⟩ (
  And.intro ⟨ok_nop, mo_nop⟩ (
  And.intro ⟨ok_nop, mo_nop⟩ (
  trivial))))))))))))))))
theorem kX8_days : am_M1 am_tb0 cX8_days RX8 2 (some .int) false tX8_days := And.intro rX8_days_0 (And.intro rX8_days_1 (And.intro rX8_days_2 (trivial)))
def tX8_thinks : List (List am_Op) := [[o_push (.int 0) 1, o_istore 1 2, o_iload 1 3, o_push (.int 76) 5, am_nop, o_icmp (fun x y => y ≤ x) 26 8, am_nop, am_nop, o_aload 0 9, o_getR 8 38 8 12, am_nop, am_nop, o_iload 1 13, o_aload 0 14, o_getR 8 38 0 17, am_nop],
  [am_nop, o_iload 1 18, o_iald 20 19, o_iast 20, o_iinc 1 1 23, am_nop, am_nop, o_goto 2, am_nop, am_nop, o_ret, am_nop, am_nop, am_nop, am_nop, am_nop]]
theorem rX8_thinks_0 : am_allR (fun pc o => am_ok am_tb0 cX8_thinks RX8 2 none false pc o ∧ am_mo o) 0 (am_nth [] tX8_thinks 0) :=
  And.intro ⟨ok_iconst dX8_thinks_0 rfl ic_0, mo_push⟩ (
  And.intro ⟨ok_istore_n dX8_thinks_1 rfl (by decide) rfl, mo_istore⟩ (
  And.intro ⟨ok_iload_n dX8_thinks_2 rfl rfl, mo_iload⟩ (
  And.intro ⟨ok_bipush dX8_thinks_3 rfl bi_76, mo_push⟩ (
  And.intro ⟨ok_nop, mo_nop⟩ (
  And.intro ⟨ok_icmp_ge dX8_thinks_5 (by decide) rfl, mo_icmp⟩ (
  And.intro ⟨ok_nop, mo_nop⟩ (
  And.intro ⟨ok_nop, mo_nop⟩ (
  And.intro ⟨ok_aload_n dX8_thinks_8 rfl rfl, mo_aload⟩ (
  And.intro ⟨ok_getR dX8_thinks_9 hclX8 inWX8 (by decide) (by decide) wd_899 (fun _ _ _ => rfl) rfl, mo_getR⟩ (
  And.intro ⟨ok_nop, mo_nop⟩ (
  And.intro ⟨ok_nop, mo_nop⟩ (
  And.intro ⟨ok_iload_n dX8_thinks_12 rfl rfl, mo_iload⟩ (
  And.intro ⟨ok_aload_n dX8_thinks_13 rfl rfl, mo_aload⟩ (
  And.intro ⟨ok_getR dX8_thinks_14 hclX8 inWX8 (by decide) (by decide) wd_891 (fun _ _ _ => rfl) rfl, mo_getR⟩ (
  And.intro ⟨ok_nop, mo_nop⟩ (
  trivial))))))))))))))))
theorem rX8_thinks_1 : am_allR (fun pc o => am_ok am_tb0 cX8_thinks RX8 2 none false pc o ∧ am_mo o) 16 (am_nth [] tX8_thinks 1) :=
  And.intro ⟨ok_nop, mo_nop⟩ (
  And.intro ⟨ok_iload_n dX8_thinks_17 rfl rfl, mo_iload⟩ (
  And.intro ⟨ok_iald dX8_thinks_18 rfl, mo_iald⟩ (
  And.intro ⟨ok_iast dX8_thinks_19 rfl, mo_iast⟩ (
  And.intro ⟨ok_iinc dX8_thinks_20 ic_1 (by decide) rfl, mo_iinc⟩ (
  And.intro ⟨ok_nop, mo_nop⟩ (
  And.intro ⟨ok_nop, mo_nop⟩ (
  And.intro ⟨ok_goto dX8_thinks_23 (by decide), mo_goto⟩ (
  And.intro ⟨ok_nop, mo_nop⟩ (
  And.intro ⟨ok_nop, mo_nop⟩ (
  And.intro ⟨ok_ret dX8_thinks_26 rfl, mo_ret⟩ (
  And.intro ⟨ok_nop, mo_nop⟩ (
  And.intro ⟨ok_nop, mo_nop⟩ (
  And.intro ⟨ok_nop, mo_nop⟩ (
  And.intro ⟨ok_nop, mo_nop⟩ (
  And.intro ⟨ok_nop, mo_nop⟩ (
  trivial))))))))))))))))
theorem kX8_thinks : am_M1 am_tb0 cX8_thinks RX8 2 none false tX8_thinks := And.intro rX8_thinks_0 (And.intro rX8_thinks_1 (trivial))
def tX8_putsBack : List (List am_Op) := [[o_push (.int 0) 1, o_istore 1 2, o_iload 1 3, o_push (.int 76) 5, am_nop, o_icmp (fun x y => y ≤ x) 26 8, am_nop, am_nop, o_aload 0 9, o_getR 8 38 0 12, am_nop, am_nop, o_iload 1 13, o_aload 0 14, o_getR 8 38 8 17, am_nop],
  [am_nop, o_iload 1 18, o_iald 20 19, o_iast 20, o_iinc 1 1 23, am_nop, am_nop, o_goto 2, am_nop, am_nop, o_ret, am_nop, am_nop, am_nop, am_nop, am_nop]]
theorem rX8_putsBack_0 : am_allR (fun pc o => am_ok am_tb0 cX8_putsBack RX8 2 none false pc o ∧ am_mo o) 0 (am_nth [] tX8_putsBack 0) :=
  And.intro ⟨ok_iconst dX8_putsBack_0 rfl ic_0, mo_push⟩ (
  And.intro ⟨ok_istore_n dX8_putsBack_1 rfl (by decide) rfl, mo_istore⟩ (
  And.intro ⟨ok_iload_n dX8_putsBack_2 rfl rfl, mo_iload⟩ (
  And.intro ⟨ok_bipush dX8_putsBack_3 rfl bi_76, mo_push⟩ (
  And.intro ⟨ok_nop, mo_nop⟩ (
  And.intro ⟨ok_icmp_ge dX8_putsBack_5 (by decide) rfl, mo_icmp⟩ (
  And.intro ⟨ok_nop, mo_nop⟩ (
  And.intro ⟨ok_nop, mo_nop⟩ (
  And.intro ⟨ok_aload_n dX8_putsBack_8 rfl rfl, mo_aload⟩ (
  And.intro ⟨ok_getR dX8_putsBack_9 hclX8 inWX8 (by decide) (by decide) wd_891 (fun _ _ _ => rfl) rfl, mo_getR⟩ (
  And.intro ⟨ok_nop, mo_nop⟩ (
  And.intro ⟨ok_nop, mo_nop⟩ (
  And.intro ⟨ok_iload_n dX8_putsBack_12 rfl rfl, mo_iload⟩ (
  And.intro ⟨ok_aload_n dX8_putsBack_13 rfl rfl, mo_aload⟩ (
  And.intro ⟨ok_getR dX8_putsBack_14 hclX8 inWX8 (by decide) (by decide) wd_899 (fun _ _ _ => rfl) rfl, mo_getR⟩ (
  And.intro ⟨ok_nop, mo_nop⟩ (
  trivial))))))))))))))))
theorem rX8_putsBack_1 : am_allR (fun pc o => am_ok am_tb0 cX8_putsBack RX8 2 none false pc o ∧ am_mo o) 16 (am_nth [] tX8_putsBack 1) :=
  And.intro ⟨ok_nop, mo_nop⟩ (
  And.intro ⟨ok_iload_n dX8_putsBack_17 rfl rfl, mo_iload⟩ (
  And.intro ⟨ok_iald dX8_putsBack_18 rfl, mo_iald⟩ (
  And.intro ⟨ok_iast dX8_putsBack_19 rfl, mo_iast⟩ (
  And.intro ⟨ok_iinc dX8_putsBack_20 ic_1 (by decide) rfl, mo_iinc⟩ (
  And.intro ⟨ok_nop, mo_nop⟩ (
  And.intro ⟨ok_nop, mo_nop⟩ (
  And.intro ⟨ok_goto dX8_putsBack_23 (by decide), mo_goto⟩ (
  And.intro ⟨ok_nop, mo_nop⟩ (
  And.intro ⟨ok_nop, mo_nop⟩ (
  And.intro ⟨ok_ret dX8_putsBack_26 rfl, mo_ret⟩ (
  And.intro ⟨ok_nop, mo_nop⟩ (
  And.intro ⟨ok_nop, mo_nop⟩ (
  And.intro ⟨ok_nop, mo_nop⟩ (
  And.intro ⟨ok_nop, mo_nop⟩ (
  And.intro ⟨ok_nop, mo_nop⟩ (
  trivial))))))))))))))))
theorem kX8_putsBack : am_M1 am_tb0 cX8_putsBack RX8 2 none false tX8_putsBack := And.intro rX8_putsBack_0 (And.intro rX8_putsBack_1 (trivial))
def tX8_behind : List (List am_Op) := [[o_iload 1 1, o_push (.int 0) 2, o_push (.int 100) 4, am_nop, o_cs 113 3 0 3 7, am_nop, am_nop, o_if (fun x => x = 0) 19 10, am_nop, am_nop, o_iload 2 11, o_push (.int 0) 12, o_push (.int 2) 13, o_cs 113 3 0 3 16, am_nop, am_nop],
  [o_if (fun x => ¬ x = 0) 22 19, am_nop, am_nop, o_push (.int (-1000000001)) 21, am_nop, o_iret, o_aload 0 23, o_cv 8 38 160 2 0 0 26, am_nop, am_nop, o_aload 0 27, o_iload 1 28, o_cv 8 38 158 3 4 1 31, am_nop, am_nop, o_iload 2 32],
  [o_if (fun x => ¬ x = 0) 43 35, am_nop, am_nop, o_aload 0 36, o_push (.int (-1)) 37, o_cv 8 38 149 5 25 1 40, am_nop, am_nop, o_goto 59, am_nop, am_nop, o_iload 2 44, o_push (.int 1) 45, o_icmp (fun x y => ¬ x = y) 55 48, am_nop, am_nop],
  [o_aload 0 49, o_cv 8 38 156 3 1 0 52, am_nop, am_nop, o_goto 59, am_nop, am_nop, o_aload 0 56, o_cv 8 38 155 3 1 0 59, am_nop, am_nop, o_istore 3 60, o_aload 0 61, o_cv 8 38 161 2 0 0 64, am_nop, am_nop],
  [o_iload 3 65, o_iret, am_nop, am_nop, am_nop, am_nop, am_nop, am_nop, am_nop, am_nop, am_nop, am_nop, am_nop, am_nop, am_nop, am_nop]]
theorem rX8_behind_0 : am_allR (fun pc o => am_ok am_tb0 cX8_behind RX8 4 (some .int) false pc o ∧ am_mo o) 0 (am_nth [] tX8_behind 0) :=
  And.intro ⟨ok_iload_n dX8_behind_0 rfl rfl, mo_iload⟩ (
  And.intro ⟨ok_iconst dX8_behind_1 rfl ic_0, mo_push⟩ (
  And.intro ⟨ok_bipush dX8_behind_2 rfl bi_100, mo_push⟩ (
  And.intro ⟨ok_nop, mo_nop⟩ (
  And.intro ⟨ok_cs (z := 113) dX8_behind_4 wd_1012 wd_1013 wd_8 wd_1014 rfl (by decide) hy_X8_in rfl, mo_cs⟩ (
  And.intro ⟨ok_nop, mo_nop⟩ (
  And.intro ⟨ok_nop, mo_nop⟩ (
  And.intro ⟨ok_if_eq dX8_behind_7 (by decide) rfl, mo_if⟩ (
  And.intro ⟨ok_nop, mo_nop⟩ (
  And.intro ⟨ok_nop, mo_nop⟩ (
  And.intro ⟨ok_iload_n dX8_behind_10 rfl rfl, mo_iload⟩ (
  And.intro ⟨ok_iconst dX8_behind_11 rfl ic_0, mo_push⟩ (
  And.intro ⟨ok_iconst dX8_behind_12 rfl ic_2, mo_push⟩ (
  And.intro ⟨ok_cs (z := 113) dX8_behind_13 wd_1012 wd_1013 wd_8 wd_1014 rfl (by decide) hy_X8_in rfl, mo_cs⟩ (
  And.intro ⟨ok_nop, mo_nop⟩ (
  And.intro ⟨ok_nop, mo_nop⟩ (
  trivial))))))))))))))))
theorem rX8_behind_1 : am_allR (fun pc o => am_ok am_tb0 cX8_behind RX8 4 (some .int) false pc o ∧ am_mo o) 16 (am_nth [] tX8_behind 1) :=
  And.intro ⟨ok_if_ne dX8_behind_16 (by decide) rfl, mo_if⟩ (
  And.intro ⟨ok_nop, mo_nop⟩ (
  And.intro ⟨ok_nop, mo_nop⟩ (
  And.intro ⟨ok_ldc dX8_behind_19 rfl wd_1021, mo_push⟩ (
  And.intro ⟨ok_nop, mo_nop⟩ (
  And.intro ⟨ok_iret dX8_behind_21 rfl, mo_iret⟩ (
  And.intro ⟨ok_aload_n dX8_behind_22 rfl rfl, mo_aload⟩ (
  And.intro ⟨ok_cv (z := 160) dX8_behind_23 hclX8 (by decide) wd_1202 wd_1204 wp_40 wd_8 wd_1205 rfl (by decide) ⟨rfl, hy_X8_thinks⟩ rfl, mo_cv⟩ (
  And.intro ⟨ok_nop, mo_nop⟩ (
  And.intro ⟨ok_nop, mo_nop⟩ (
  And.intro ⟨ok_aload_n dX8_behind_26 rfl rfl, mo_aload⟩ (
  And.intro ⟨ok_iload_n dX8_behind_27 rfl rfl, mo_iload⟩ (
  And.intro ⟨ok_cv (z := 158) dX8_behind_28 hclX8 (by decide) wd_1186 wd_1188 wp_37 wd_8 wd_1189 rfl (by decide) ⟨rfl, hy_X8_goesOn⟩ rfl, mo_cv⟩ (
  And.intro ⟨ok_nop, mo_nop⟩ (
  And.intro ⟨ok_nop, mo_nop⟩ (
  And.intro ⟨ok_iload_n dX8_behind_31 rfl rfl, mo_iload⟩ (
  trivial))))))))))))))))
theorem rX8_behind_2 : am_allR (fun pc o => am_ok am_tb0 cX8_behind RX8 4 (some .int) false pc o ∧ am_mo o) 32 (am_nth [] tX8_behind 2) :=
  And.intro ⟨ok_if_ne dX8_behind_32 (by decide) rfl, mo_if⟩ (
  And.intro ⟨ok_nop, mo_nop⟩ (
  And.intro ⟨ok_nop, mo_nop⟩ (
  And.intro ⟨ok_aload_n dX8_behind_35 rfl rfl, mo_aload⟩ (
  And.intro ⟨ok_iconst dX8_behind_36 rfl ic_m1, mo_push⟩ (
  And.intro ⟨ok_cv (z := 149) dX8_behind_37 hclX8 (by decide) wd_1150 wd_1152 wp_32 wd_8 wd_1153 rfl (by decide) ⟨rfl, hy_X8_metBut⟩ rfl, mo_cv⟩ (
  And.intro ⟨ok_nop, mo_nop⟩ (
  And.intro ⟨ok_nop, mo_nop⟩ (
  And.intro ⟨ok_goto dX8_behind_40 (by decide), mo_goto⟩ (
  And.intro ⟨ok_nop, mo_nop⟩ (
  And.intro ⟨ok_nop, mo_nop⟩ (
  And.intro ⟨ok_iload_n dX8_behind_43 rfl rfl, mo_iload⟩ (
  And.intro ⟨ok_iconst dX8_behind_44 rfl ic_1, mo_push⟩ (
  And.intro ⟨ok_icmp_ne dX8_behind_45 (by decide) rfl, mo_icmp⟩ (
  And.intro ⟨ok_nop, mo_nop⟩ (
  And.intro ⟨ok_nop, mo_nop⟩ (
  trivial))))))))))))))))
theorem rX8_behind_3 : am_allR (fun pc o => am_ok am_tb0 cX8_behind RX8 4 (some .int) false pc o ∧ am_mo o) 48 (am_nth [] tX8_behind 3) :=
  And.intro ⟨ok_aload_n dX8_behind_48 rfl rfl, mo_aload⟩ (
  And.intro ⟨ok_cv (z := 156) dX8_behind_49 hclX8 (by decide) wd_1206 wd_1208 wp_41 wd_8 wd_1209 rfl (by decide) ⟨rfl, hy_X8_depthAll⟩ rfl, mo_cv⟩ (
  And.intro ⟨ok_nop, mo_nop⟩ (
  And.intro ⟨ok_nop, mo_nop⟩ (
  And.intro ⟨ok_goto dX8_behind_52 (by decide), mo_goto⟩ (
  And.intro ⟨ok_nop, mo_nop⟩ (
  And.intro ⟨ok_nop, mo_nop⟩ (
  And.intro ⟨ok_aload_n dX8_behind_55 rfl rfl, mo_aload⟩ (
  And.intro ⟨ok_cv (z := 155) dX8_behind_56 hclX8 (by decide) wd_1194 wd_1196 wp_39 wd_8 wd_1197 rfl (by decide) ⟨rfl, hy_X8_filled⟩ rfl, mo_cv⟩ (
  And.intro ⟨ok_nop, mo_nop⟩ (
  And.intro ⟨ok_nop, mo_nop⟩ (
  And.intro ⟨ok_istore_n dX8_behind_59 rfl (by decide) rfl, mo_istore⟩ (
  And.intro ⟨ok_aload_n dX8_behind_60 rfl rfl, mo_aload⟩ (
  And.intro ⟨ok_cv (z := 161) dX8_behind_61 hclX8 (by decide) wd_1210 wd_1212 wp_42 wd_8 wd_1213 rfl (by decide) ⟨rfl, hy_X8_putsBack⟩ rfl, mo_cv⟩ (
  And.intro ⟨ok_nop, mo_nop⟩ (
  And.intro ⟨ok_nop, mo_nop⟩ (
  trivial))))))))))))))))
theorem rX8_behind_4 : am_allR (fun pc o => am_ok am_tb0 cX8_behind RX8 4 (some .int) false pc o ∧ am_mo o) 64 (am_nth [] tX8_behind 4) :=
  And.intro ⟨ok_iload_n dX8_behind_64 rfl rfl, mo_iload⟩ (
  And.intro ⟨ok_iret dX8_behind_65 rfl, mo_iret⟩ (
  And.intro ⟨ok_nop, mo_nop⟩ (
  And.intro ⟨ok_nop, mo_nop⟩ (
  And.intro ⟨ok_nop, mo_nop⟩ (
  And.intro ⟨ok_nop, mo_nop⟩ (
  And.intro ⟨ok_nop, mo_nop⟩ (
  And.intro ⟨ok_nop, mo_nop⟩ (
  And.intro ⟨ok_nop, mo_nop⟩ (
  And.intro ⟨ok_nop, mo_nop⟩ (
  And.intro ⟨ok_nop, mo_nop⟩ (
  And.intro ⟨ok_nop, mo_nop⟩ (
  And.intro ⟨ok_nop, mo_nop⟩ (
  And.intro ⟨ok_nop, mo_nop⟩ (
  And.intro ⟨ok_nop, mo_nop⟩ (
  And.intro ⟨ok_nop, mo_nop⟩ (
  trivial))))))))))))))))
theorem kX8_behind : am_M1 am_tb0 cX8_behind RX8 4 (some .int) false tX8_behind := And.intro rX8_behind_0 (And.intro rX8_behind_1 (And.intro rX8_behind_2 (And.intro rX8_behind_3 (And.intro rX8_behind_4 (trivial)))))
def tX8_paid : List (List am_Op) := [[o_aload 0 1, o_cv 8 38 160 2 0 0 4, am_nop, am_nop, o_push (.int 0) 5, o_istore 1 6, o_iload 1 7, o_push (.int 300) 10, am_nop, am_nop, o_icmp (fun x y => y < x) 36 13, am_nop, am_nop, o_aload 0 14, o_cv 8 38 155 3 1 0 17, am_nop],
  [am_nop, o_aload 0 18, o_getR 8 38 0 21, am_nop, am_nop, o_push (.int 1) 22, o_iald 20 23, o_icmp (fun x y => y ≤ x) 36 26, am_nop, am_nop, o_aload 0 27, o_cv 8 38 157 3 3 0 30, am_nop, am_nop, o_iinc 1 1 33, am_nop],
  [am_nop, o_goto 6, am_nop, am_nop, o_aload 0 37, o_cv 8 38 161 2 0 0 40, am_nop, am_nop, o_iload 1 41, o_push (.int 300) 44, am_nop, am_nop, o_icmp (fun x y => y < x) 51 47, am_nop, am_nop, o_iload 1 48],
  [o_goto 53, am_nop, am_nop, o_push (.int (-1000000005)) 53, am_nop, o_iret, am_nop, am_nop, am_nop, am_nop, am_nop, am_nop, am_nop, am_nop, am_nop, am_nop]]
theorem rX8_paid_0 : am_allR (fun pc o => am_ok am_tb0 cX8_paid RX8 2 (some .int) false pc o ∧ am_mo o) 0 (am_nth [] tX8_paid 0) :=
  And.intro ⟨ok_aload_n dX8_paid_0 rfl rfl, mo_aload⟩ (
  And.intro ⟨ok_cv (z := 160) dX8_paid_1 hclX8 (by decide) wd_1202 wd_1204 wp_40 wd_8 wd_1205 rfl (by decide) ⟨rfl, hy_X8_thinks⟩ rfl, mo_cv⟩ (
  And.intro ⟨ok_nop, mo_nop⟩ (
  And.intro ⟨ok_nop, mo_nop⟩ (
  And.intro ⟨ok_iconst dX8_paid_4 rfl ic_0, mo_push⟩ (
  And.intro ⟨ok_istore_n dX8_paid_5 rfl (by decide) rfl, mo_istore⟩ (
  And.intro ⟨ok_iload_n dX8_paid_6 rfl rfl, mo_iload⟩ (
  And.intro ⟨ok_sipush dX8_paid_7 rfl si_300, mo_push⟩ (
  And.intro ⟨ok_nop, mo_nop⟩ (
  And.intro ⟨ok_nop, mo_nop⟩ (
  And.intro ⟨ok_icmp_gt dX8_paid_10 (by decide) rfl, mo_icmp⟩ (
  And.intro ⟨ok_nop, mo_nop⟩ (
  And.intro ⟨ok_nop, mo_nop⟩ (
  And.intro ⟨ok_aload_n dX8_paid_13 rfl rfl, mo_aload⟩ (
  And.intro ⟨ok_cv (z := 155) dX8_paid_14 hclX8 (by decide) wd_1194 wd_1196 wp_39 wd_8 wd_1197 rfl (by decide) ⟨rfl, hy_X8_filled⟩ rfl, mo_cv⟩ (
  And.intro ⟨ok_nop, mo_nop⟩ (
  trivial))))))))))))))))
theorem rX8_paid_1 : am_allR (fun pc o => am_ok am_tb0 cX8_paid RX8 2 (some .int) false pc o ∧ am_mo o) 16 (am_nth [] tX8_paid 1) :=
  And.intro ⟨ok_nop, mo_nop⟩ (
  And.intro ⟨ok_aload_n dX8_paid_17 rfl rfl, mo_aload⟩ (
  And.intro ⟨ok_getR dX8_paid_18 hclX8 inWX8 (by decide) (by decide) wd_891 (fun _ _ _ => rfl) rfl, mo_getR⟩ (
  And.intro ⟨ok_nop, mo_nop⟩ (
  And.intro ⟨ok_nop, mo_nop⟩ (
  And.intro ⟨ok_iconst dX8_paid_21 rfl ic_1, mo_push⟩ (
  And.intro ⟨ok_iald dX8_paid_22 rfl, mo_iald⟩ (
  And.intro ⟨ok_icmp_ge dX8_paid_23 (by decide) rfl, mo_icmp⟩ (
  And.intro ⟨ok_nop, mo_nop⟩ (
  And.intro ⟨ok_nop, mo_nop⟩ (
  And.intro ⟨ok_aload_n dX8_paid_26 rfl rfl, mo_aload⟩ (
  And.intro ⟨ok_cv (z := 157) dX8_paid_27 hclX8 (by decide) wd_1190 wd_1192 wp_38 wd_8 wd_1193 rfl (by decide) ⟨rfl, hy_X8_day⟩ rfl, mo_cv⟩ (
  And.intro ⟨ok_nop, mo_nop⟩ (
  And.intro ⟨ok_nop, mo_nop⟩ (
  And.intro ⟨ok_iinc dX8_paid_30 ic_1 (by decide) rfl, mo_iinc⟩ (
  And.intro ⟨ok_nop, mo_nop⟩ (
  trivial))))))))))))))))
theorem rX8_paid_2 : am_allR (fun pc o => am_ok am_tb0 cX8_paid RX8 2 (some .int) false pc o ∧ am_mo o) 32 (am_nth [] tX8_paid 2) :=
  And.intro ⟨ok_nop, mo_nop⟩ (
  And.intro ⟨ok_goto dX8_paid_33 (by decide), mo_goto⟩ (
  And.intro ⟨ok_nop, mo_nop⟩ (
  And.intro ⟨ok_nop, mo_nop⟩ (
  And.intro ⟨ok_aload_n dX8_paid_36 rfl rfl, mo_aload⟩ (
  And.intro ⟨ok_cv (z := 161) dX8_paid_37 hclX8 (by decide) wd_1210 wd_1212 wp_42 wd_8 wd_1213 rfl (by decide) ⟨rfl, hy_X8_putsBack⟩ rfl, mo_cv⟩ (
  And.intro ⟨ok_nop, mo_nop⟩ (
  And.intro ⟨ok_nop, mo_nop⟩ (
  And.intro ⟨ok_iload_n dX8_paid_40 rfl rfl, mo_iload⟩ (
  And.intro ⟨ok_sipush dX8_paid_41 rfl si_300, mo_push⟩ (
  And.intro ⟨ok_nop, mo_nop⟩ (
  And.intro ⟨ok_nop, mo_nop⟩ (
  And.intro ⟨ok_icmp_gt dX8_paid_44 (by decide) rfl, mo_icmp⟩ (
  And.intro ⟨ok_nop, mo_nop⟩ (
  And.intro ⟨ok_nop, mo_nop⟩ (
  And.intro ⟨ok_iload_n dX8_paid_47 rfl rfl, mo_iload⟩ (
  trivial))))))))))))))))
theorem rX8_paid_3 : am_allR (fun pc o => am_ok am_tb0 cX8_paid RX8 2 (some .int) false pc o ∧ am_mo o) 48 (am_nth [] tX8_paid 3) :=
  And.intro ⟨ok_goto dX8_paid_48 (by decide), mo_goto⟩ (
  And.intro ⟨ok_nop, mo_nop⟩ (
  And.intro ⟨ok_nop, mo_nop⟩ (
  And.intro ⟨ok_ldc dX8_paid_51 rfl wd_1173, mo_push⟩ (
  And.intro ⟨ok_nop, mo_nop⟩ (
  And.intro ⟨ok_iret dX8_paid_53 rfl, mo_iret⟩ (
  And.intro ⟨ok_nop, mo_nop⟩ (
  And.intro ⟨ok_nop, mo_nop⟩ (
  And.intro ⟨ok_nop, mo_nop⟩ (
  And.intro ⟨ok_nop, mo_nop⟩ (
  And.intro ⟨ok_nop, mo_nop⟩ (
  And.intro ⟨ok_nop, mo_nop⟩ (
  And.intro ⟨ok_nop, mo_nop⟩ (
  And.intro ⟨ok_nop, mo_nop⟩ (
  And.intro ⟨ok_nop, mo_nop⟩ (
  And.intro ⟨ok_nop, mo_nop⟩ (
  trivial))))))))))))))))
theorem kX8_paid : am_M1 am_tb0 cX8_paid RX8 2 (some .int) false tX8_paid := And.intro rX8_paid_0 (And.intro rX8_paid_1 (And.intro rX8_paid_2 (And.intro rX8_paid_3 (trivial))))
def tX8_best : List (List am_Op) := [[o_iload 1 1, o_push (.int 0) 2, o_push (.int 30) 4, am_nop, o_cs 113 3 0 3 7, am_nop, am_nop, o_if (fun x => x = 0) 19 10, am_nop, am_nop, o_iload 2 11, o_push (.int 0) 12, o_push (.int 1) 13, o_cs 113 3 0 3 16, am_nop, am_nop],
  [o_if (fun x => ¬ x = 0) 22 19, am_nop, am_nop, o_push (.int (-1000000001)) 21, am_nop, o_iret, o_aload 0 23, o_cv 8 38 160 2 0 0 26, am_nop, am_nop, o_push (.int 0) 27, o_istore 3 28, o_aload 0 29, o_push (.int (-1)) 30, o_cv 8 38 149 5 25 1 33, am_nop],
  [am_nop, o_istore 4 35, am_nop, o_push (.int 1) 36, o_istore 5 38, am_nop, o_iload 5 40, am_nop, o_iload 1 41, o_icmp (fun x y => y < x) 91 44, am_nop, am_nop, o_aload 0 45, o_cv 8 38 157 3 3 0 48, am_nop, am_nop],
  [o_aload 0 49, o_push (.int (-1)) 50, o_cv 8 38 149 5 25 1 53, am_nop, am_nop, o_istore 6 55, am_nop, o_iload 6 57, am_nop, o_iload 4 59, am_nop, o_icmp (fun x y => x ≤ y) 67 62, am_nop, am_nop, o_iload 5 64, am_nop],
  [o_goto 68, am_nop, am_nop, o_iload 3 68, o_istore 3 69, o_iload 6 71, am_nop, o_iload 4 73, am_nop, o_icmp (fun x y => x ≤ y) 81 76, am_nop, am_nop, o_iload 6 78, am_nop, o_goto 83, am_nop],
  [am_nop, o_iload 4 83, am_nop, o_istore 4 85, am_nop, o_iinc 5 1 88, am_nop, am_nop, o_goto 38, am_nop, am_nop, o_aload 0 92, o_cv 8 38 161 2 0 0 95, am_nop, am_nop, o_iload 2 96],
  [o_if (fun x => ¬ x = 0) 103 99, am_nop, am_nop, o_iload 3 100, o_goto 105, am_nop, am_nop, o_iload 4 105, am_nop, o_iret, am_nop, am_nop, am_nop, am_nop, am_nop, am_nop]]
theorem rX8_best_0 : am_allR (fun pc o => am_ok am_tb0 cX8_best RX8 7 (some .int) false pc o ∧ am_mo o) 0 (am_nth [] tX8_best 0) :=
  And.intro ⟨ok_iload_n dX8_best_0 rfl rfl, mo_iload⟩ (
  And.intro ⟨ok_iconst dX8_best_1 rfl ic_0, mo_push⟩ (
  And.intro ⟨ok_bipush dX8_best_2 rfl bi_30, mo_push⟩ (
  And.intro ⟨ok_nop, mo_nop⟩ (
  And.intro ⟨ok_cs (z := 113) dX8_best_4 wd_1012 wd_1013 wd_8 wd_1014 rfl (by decide) hy_X8_in rfl, mo_cs⟩ (
  And.intro ⟨ok_nop, mo_nop⟩ (
  And.intro ⟨ok_nop, mo_nop⟩ (
  And.intro ⟨ok_if_eq dX8_best_7 (by decide) rfl, mo_if⟩ (
  And.intro ⟨ok_nop, mo_nop⟩ (
  And.intro ⟨ok_nop, mo_nop⟩ (
  And.intro ⟨ok_iload_n dX8_best_10 rfl rfl, mo_iload⟩ (
  And.intro ⟨ok_iconst dX8_best_11 rfl ic_0, mo_push⟩ (
  And.intro ⟨ok_iconst dX8_best_12 rfl ic_1, mo_push⟩ (
  And.intro ⟨ok_cs (z := 113) dX8_best_13 wd_1012 wd_1013 wd_8 wd_1014 rfl (by decide) hy_X8_in rfl, mo_cs⟩ (
  And.intro ⟨ok_nop, mo_nop⟩ (
  And.intro ⟨ok_nop, mo_nop⟩ (
  trivial))))))))))))))))
theorem rX8_best_1 : am_allR (fun pc o => am_ok am_tb0 cX8_best RX8 7 (some .int) false pc o ∧ am_mo o) 16 (am_nth [] tX8_best 1) :=
  And.intro ⟨ok_if_ne dX8_best_16 (by decide) rfl, mo_if⟩ (
  And.intro ⟨ok_nop, mo_nop⟩ (
  And.intro ⟨ok_nop, mo_nop⟩ (
  And.intro ⟨ok_ldc dX8_best_19 rfl wd_1021, mo_push⟩ (
  And.intro ⟨ok_nop, mo_nop⟩ (
  And.intro ⟨ok_iret dX8_best_21 rfl, mo_iret⟩ (
  And.intro ⟨ok_aload_n dX8_best_22 rfl rfl, mo_aload⟩ (
  And.intro ⟨ok_cv (z := 160) dX8_best_23 hclX8 (by decide) wd_1202 wd_1204 wp_40 wd_8 wd_1205 rfl (by decide) ⟨rfl, hy_X8_thinks⟩ rfl, mo_cv⟩ (
  And.intro ⟨ok_nop, mo_nop⟩ (
  And.intro ⟨ok_nop, mo_nop⟩ (
  And.intro ⟨ok_iconst dX8_best_26 rfl ic_0, mo_push⟩ (
  And.intro ⟨ok_istore_n dX8_best_27 rfl (by decide) rfl, mo_istore⟩ (
  And.intro ⟨ok_aload_n dX8_best_28 rfl rfl, mo_aload⟩ (
  And.intro ⟨ok_iconst dX8_best_29 rfl ic_m1, mo_push⟩ (
  And.intro ⟨ok_cv (z := 149) dX8_best_30 hclX8 (by decide) wd_1150 wd_1152 wp_32 wd_8 wd_1153 rfl (by decide) ⟨rfl, hy_X8_metBut⟩ rfl, mo_cv⟩ (
  And.intro ⟨ok_nop, mo_nop⟩ (
  trivial))))))))))))))))
theorem rX8_best_2 : am_allR (fun pc o => am_ok am_tb0 cX8_best RX8 7 (some .int) false pc o ∧ am_mo o) 32 (am_nth [] tX8_best 2) :=
  And.intro ⟨ok_nop, mo_nop⟩ (
  And.intro ⟨ok_istore dX8_best_33 (by decide) rfl, mo_istore⟩ (
  And.intro ⟨ok_nop, mo_nop⟩ (
  And.intro ⟨ok_iconst dX8_best_35 rfl ic_1, mo_push⟩ (
  And.intro ⟨ok_istore dX8_best_36 (by decide) rfl, mo_istore⟩ (
  And.intro ⟨ok_nop, mo_nop⟩ (
  And.intro ⟨ok_iload dX8_best_38 rfl, mo_iload⟩ (
  And.intro ⟨ok_nop, mo_nop⟩ (
  And.intro ⟨ok_iload_n dX8_best_40 rfl rfl, mo_iload⟩ (
  And.intro ⟨ok_icmp_gt dX8_best_41 (by decide) rfl, mo_icmp⟩ (
  And.intro ⟨ok_nop, mo_nop⟩ (
  And.intro ⟨ok_nop, mo_nop⟩ (
  And.intro ⟨ok_aload_n dX8_best_44 rfl rfl, mo_aload⟩ (
  And.intro ⟨ok_cv (z := 157) dX8_best_45 hclX8 (by decide) wd_1190 wd_1192 wp_38 wd_8 wd_1193 rfl (by decide) ⟨rfl, hy_X8_day⟩ rfl, mo_cv⟩ (
  And.intro ⟨ok_nop, mo_nop⟩ (
  And.intro ⟨ok_nop, mo_nop⟩ (
  trivial))))))))))))))))
theorem rX8_best_3 : am_allR (fun pc o => am_ok am_tb0 cX8_best RX8 7 (some .int) false pc o ∧ am_mo o) 48 (am_nth [] tX8_best 3) :=
  And.intro ⟨ok_aload_n dX8_best_48 rfl rfl, mo_aload⟩ (
  And.intro ⟨ok_iconst dX8_best_49 rfl ic_m1, mo_push⟩ (
  And.intro ⟨ok_cv (z := 149) dX8_best_50 hclX8 (by decide) wd_1150 wd_1152 wp_32 wd_8 wd_1153 rfl (by decide) ⟨rfl, hy_X8_metBut⟩ rfl, mo_cv⟩ (
  And.intro ⟨ok_nop, mo_nop⟩ (
  And.intro ⟨ok_nop, mo_nop⟩ (
  And.intro ⟨ok_istore dX8_best_53 (by decide) rfl, mo_istore⟩ (
  And.intro ⟨ok_nop, mo_nop⟩ (
  And.intro ⟨ok_iload dX8_best_55 rfl, mo_iload⟩ (
  And.intro ⟨ok_nop, mo_nop⟩ (
  And.intro ⟨ok_iload dX8_best_57 rfl, mo_iload⟩ (
  And.intro ⟨ok_nop, mo_nop⟩ (
  And.intro ⟨ok_icmp_le dX8_best_59 (by decide) rfl, mo_icmp⟩ (
  And.intro ⟨ok_nop, mo_nop⟩ (
  And.intro ⟨ok_nop, mo_nop⟩ (
  And.intro ⟨ok_iload dX8_best_62 rfl, mo_iload⟩ (
  And.intro ⟨ok_nop, mo_nop⟩ (
  trivial))))))))))))))))
theorem rX8_best_4 : am_allR (fun pc o => am_ok am_tb0 cX8_best RX8 7 (some .int) false pc o ∧ am_mo o) 64 (am_nth [] tX8_best 4) :=
  And.intro ⟨ok_goto dX8_best_64 (by decide), mo_goto⟩ (
  And.intro ⟨ok_nop, mo_nop⟩ (
  And.intro ⟨ok_nop, mo_nop⟩ (
  And.intro ⟨ok_iload_n dX8_best_67 rfl rfl, mo_iload⟩ (
  And.intro ⟨ok_istore_n dX8_best_68 rfl (by decide) rfl, mo_istore⟩ (
  And.intro ⟨ok_iload dX8_best_69 rfl, mo_iload⟩ (
  And.intro ⟨ok_nop, mo_nop⟩ (
  And.intro ⟨ok_iload dX8_best_71 rfl, mo_iload⟩ (
  And.intro ⟨ok_nop, mo_nop⟩ (
  And.intro ⟨ok_icmp_le dX8_best_73 (by decide) rfl, mo_icmp⟩ (
  And.intro ⟨ok_nop, mo_nop⟩ (
  And.intro ⟨ok_nop, mo_nop⟩ (
  And.intro ⟨ok_iload dX8_best_76 rfl, mo_iload⟩ (
  And.intro ⟨ok_nop, mo_nop⟩ (
  And.intro ⟨ok_goto dX8_best_78 (by decide), mo_goto⟩ (
  And.intro ⟨ok_nop, mo_nop⟩ (
  trivial))))))))))))))))
theorem rX8_best_5 : am_allR (fun pc o => am_ok am_tb0 cX8_best RX8 7 (some .int) false pc o ∧ am_mo o) 80 (am_nth [] tX8_best 5) :=
  And.intro ⟨ok_nop, mo_nop⟩ (
  And.intro ⟨ok_iload dX8_best_81 rfl, mo_iload⟩ (
  And.intro ⟨ok_nop, mo_nop⟩ (
  And.intro ⟨ok_istore dX8_best_83 (by decide) rfl, mo_istore⟩ (
  And.intro ⟨ok_nop, mo_nop⟩ (
  And.intro ⟨ok_iinc dX8_best_85 ic_1 (by decide) rfl, mo_iinc⟩ (
  And.intro ⟨ok_nop, mo_nop⟩ (
  And.intro ⟨ok_nop, mo_nop⟩ (
  And.intro ⟨ok_goto dX8_best_88 (by decide), mo_goto⟩ (
  And.intro ⟨ok_nop, mo_nop⟩ (
  And.intro ⟨ok_nop, mo_nop⟩ (
  And.intro ⟨ok_aload_n dX8_best_91 rfl rfl, mo_aload⟩ (
  And.intro ⟨ok_cv (z := 161) dX8_best_92 hclX8 (by decide) wd_1210 wd_1212 wp_42 wd_8 wd_1213 rfl (by decide) ⟨rfl, hy_X8_putsBack⟩ rfl, mo_cv⟩ (
  And.intro ⟨ok_nop, mo_nop⟩ (
  And.intro ⟨ok_nop, mo_nop⟩ (
  And.intro ⟨ok_iload_n dX8_best_95 rfl rfl, mo_iload⟩ (
  trivial))))))))))))))))
theorem rX8_best_6 : am_allR (fun pc o => am_ok am_tb0 cX8_best RX8 7 (some .int) false pc o ∧ am_mo o) 96 (am_nth [] tX8_best 6) :=
  And.intro ⟨ok_if_ne dX8_best_96 (by decide) rfl, mo_if⟩ (
  And.intro ⟨ok_nop, mo_nop⟩ (
  And.intro ⟨ok_nop, mo_nop⟩ (
  And.intro ⟨ok_iload_n dX8_best_99 rfl rfl, mo_iload⟩ (
  And.intro ⟨ok_goto dX8_best_100 (by decide), mo_goto⟩ (
  And.intro ⟨ok_nop, mo_nop⟩ (
  And.intro ⟨ok_nop, mo_nop⟩ (
  And.intro ⟨ok_iload dX8_best_103 rfl, mo_iload⟩ (
  And.intro ⟨ok_nop, mo_nop⟩ (
  And.intro ⟨ok_iret dX8_best_105 rfl, mo_iret⟩ (
  And.intro ⟨ok_nop, mo_nop⟩ (
  And.intro ⟨ok_nop, mo_nop⟩ (
  And.intro ⟨ok_nop, mo_nop⟩ (
  And.intro ⟨ok_nop, mo_nop⟩ (
  And.intro ⟨ok_nop, mo_nop⟩ (
  And.intro ⟨ok_nop, mo_nop⟩ (
  trivial))))))))))))))))
theorem kX8_best : am_M1 am_tb0 cX8_best RX8 7 (some .int) false tX8_best := And.intro rX8_best_0 (And.intro rX8_best_1 (And.intro rX8_best_2 (And.intro rX8_best_3 (And.intro rX8_best_4 (And.intro rX8_best_5 (And.intro rX8_best_6 (trivial)))))))
def tX8_owedBy : List (List am_Op) := [[o_push (.int 0) 1, o_istore 2 2, o_push (.int 0) 3, o_istore 3 4, o_iload 3 5, o_aload 0 6, o_getR 8 38 0 9, am_nop, am_nop, o_push (.int 1) 10, o_iald 20 11, o_icmp (fun x y => y ≤ x) 43 14, am_nop, am_nop, o_iload 2 15, o_aload 0 16],
  [o_iload 3 17, o_push (.int 3) 18, o_cv 8 38 121 3 0 2 21, am_nop, am_nop, o_iload 1 22, o_icmp (fun x y => ¬ x = y) 34 25, am_nop, am_nop, o_aload 0 26, o_iload 3 27, o_push (.int 2) 28, o_cv 8 38 121 3 0 2 31, am_nop, am_nop, o_goto 35],
  [am_nop, am_nop, o_push (.int 0) 35, o_bin (fun x y => x + y) 36, o_istore 2 37, o_iinc 3 1 40, am_nop, am_nop, o_goto 4, am_nop, am_nop, o_iload 2 44, o_iret, am_nop, am_nop, am_nop]]
theorem rX8_owedBy_0 : am_allR (fun pc o => am_ok am_tb0 cX8_owedBy RX8 4 (some .int) false pc o ∧ am_mo o) 0 (am_nth [] tX8_owedBy 0) :=
  And.intro ⟨ok_iconst dX8_owedBy_0 rfl ic_0, mo_push⟩ (
  And.intro ⟨ok_istore_n dX8_owedBy_1 rfl (by decide) rfl, mo_istore⟩ (
  And.intro ⟨ok_iconst dX8_owedBy_2 rfl ic_0, mo_push⟩ (
  And.intro ⟨ok_istore_n dX8_owedBy_3 rfl (by decide) rfl, mo_istore⟩ (
  And.intro ⟨ok_iload_n dX8_owedBy_4 rfl rfl, mo_iload⟩ (
  And.intro ⟨ok_aload_n dX8_owedBy_5 rfl rfl, mo_aload⟩ (
  And.intro ⟨ok_getR dX8_owedBy_6 hclX8 inWX8 (by decide) (by decide) wd_891 (fun _ _ _ => rfl) rfl, mo_getR⟩ (
  And.intro ⟨ok_nop, mo_nop⟩ (
  And.intro ⟨ok_nop, mo_nop⟩ (
  And.intro ⟨ok_iconst dX8_owedBy_9 rfl ic_1, mo_push⟩ (
  And.intro ⟨ok_iald dX8_owedBy_10 rfl, mo_iald⟩ (
  And.intro ⟨ok_icmp_ge dX8_owedBy_11 (by decide) rfl, mo_icmp⟩ (
  And.intro ⟨ok_nop, mo_nop⟩ (
  And.intro ⟨ok_nop, mo_nop⟩ (
  And.intro ⟨ok_iload_n dX8_owedBy_14 rfl rfl, mo_iload⟩ (
  And.intro ⟨ok_aload_n dX8_owedBy_15 rfl rfl, mo_aload⟩ (
  trivial))))))))))))))))
theorem rX8_owedBy_1 : am_allR (fun pc o => am_ok am_tb0 cX8_owedBy RX8 4 (some .int) false pc o ∧ am_mo o) 16 (am_nth [] tX8_owedBy 1) :=
  And.intro ⟨ok_iload_n dX8_owedBy_16 rfl rfl, mo_iload⟩ (
  And.intro ⟨ok_iconst dX8_owedBy_17 rfl ic_3, mo_push⟩ (
  And.intro ⟨ok_cv (z := 121) dX8_owedBy_18 hclX8 (by decide) wd_1043 wd_1045 wp_21 wd_8 wd_1046 rfl (by decide) ⟨rfl, hy_X8_of⟩ rfl, mo_cv⟩ (
  And.intro ⟨ok_nop, mo_nop⟩ (
  And.intro ⟨ok_nop, mo_nop⟩ (
  And.intro ⟨ok_iload_n dX8_owedBy_21 rfl rfl, mo_iload⟩ (
  And.intro ⟨ok_icmp_ne dX8_owedBy_22 (by decide) rfl, mo_icmp⟩ (
  And.intro ⟨ok_nop, mo_nop⟩ (
  And.intro ⟨ok_nop, mo_nop⟩ (
  And.intro ⟨ok_aload_n dX8_owedBy_25 rfl rfl, mo_aload⟩ (
  And.intro ⟨ok_iload_n dX8_owedBy_26 rfl rfl, mo_iload⟩ (
  And.intro ⟨ok_iconst dX8_owedBy_27 rfl ic_2, mo_push⟩ (
  And.intro ⟨ok_cv (z := 121) dX8_owedBy_28 hclX8 (by decide) wd_1043 wd_1045 wp_21 wd_8 wd_1046 rfl (by decide) ⟨rfl, hy_X8_of⟩ rfl, mo_cv⟩ (
  And.intro ⟨ok_nop, mo_nop⟩ (
  And.intro ⟨ok_nop, mo_nop⟩ (
  And.intro ⟨ok_goto dX8_owedBy_31 (by decide), mo_goto⟩ (
  trivial))))))))))))))))
theorem rX8_owedBy_2 : am_allR (fun pc o => am_ok am_tb0 cX8_owedBy RX8 4 (some .int) false pc o ∧ am_mo o) 32 (am_nth [] tX8_owedBy 2) :=
  And.intro ⟨ok_nop, mo_nop⟩ (
  And.intro ⟨ok_nop, mo_nop⟩ (
  And.intro ⟨ok_iconst dX8_owedBy_34 rfl ic_0, mo_push⟩ (
  And.intro ⟨ok_iadd dX8_owedBy_35 rfl, mo_bin⟩ (
  And.intro ⟨ok_istore_n dX8_owedBy_36 rfl (by decide) rfl, mo_istore⟩ (
  And.intro ⟨ok_iinc dX8_owedBy_37 ic_1 (by decide) rfl, mo_iinc⟩ (
  And.intro ⟨ok_nop, mo_nop⟩ (
  And.intro ⟨ok_nop, mo_nop⟩ (
  And.intro ⟨ok_goto dX8_owedBy_40 (by decide), mo_goto⟩ (
  And.intro ⟨ok_nop, mo_nop⟩ (
  And.intro ⟨ok_nop, mo_nop⟩ (
  And.intro ⟨ok_iload_n dX8_owedBy_43 rfl rfl, mo_iload⟩ (
  And.intro ⟨ok_iret dX8_owedBy_44 rfl, mo_iret⟩ (
  And.intro ⟨ok_nop, mo_nop⟩ (
  And.intro ⟨ok_nop, mo_nop⟩ (
  And.intro ⟨ok_nop, mo_nop⟩ (
  trivial))))))))))))))))
theorem kX8_owedBy : am_M1 am_tb0 cX8_owedBy RX8 4 (some .int) false tX8_owedBy := And.intro rX8_owedBy_0 (And.intro rX8_owedBy_1 (And.intro rX8_owedBy_2 (trivial)))
def tX8_owes : List (List am_Op) := [[o_iload 1 1, o_cs 119 1 1 1 4, am_nop, am_nop, o_if (fun x => x = 0) 15 7, am_nop, am_nop, o_aload 0 8, o_iload 1 9, o_cv 8 38 165 4 1 1 12, am_nop, am_nop, o_goto 17, am_nop, am_nop, o_push (.int (-1000000001)) 17],
  [am_nop, o_iret, am_nop, am_nop, am_nop, am_nop, am_nop, am_nop, am_nop, am_nop, am_nop, am_nop, am_nop, am_nop, am_nop, am_nop]]
theorem rX8_owes_0 : am_allR (fun pc o => am_ok am_tb0 cX8_owes RX8 2 (some .int) false pc o ∧ am_mo o) 0 (am_nth [] tX8_owes 0) :=
  And.intro ⟨ok_iload_n dX8_owes_0 rfl rfl, mo_iload⟩ (
  And.intro ⟨ok_cs (z := 119) dX8_owes_1 wd_1018 wd_1019 wd_8 wd_1020 rfl (by decide) hy_X8_isOwner rfl, mo_cs⟩ (
  And.intro ⟨ok_nop, mo_nop⟩ (
  And.intro ⟨ok_nop, mo_nop⟩ (
  And.intro ⟨ok_if_eq dX8_owes_4 (by decide) rfl, mo_if⟩ (
  And.intro ⟨ok_nop, mo_nop⟩ (
  And.intro ⟨ok_nop, mo_nop⟩ (
  And.intro ⟨ok_aload_n dX8_owes_7 rfl rfl, mo_aload⟩ (
  And.intro ⟨ok_iload_n dX8_owes_8 rfl rfl, mo_iload⟩ (
  And.intro ⟨ok_cv (z := 165) dX8_owes_9 hclX8 (by decide) wd_1226 wd_1228 wp_43 wd_8 wd_1229 rfl (by decide) ⟨rfl, hy_X8_owedBy⟩ rfl, mo_cv⟩ (
  And.intro ⟨ok_nop, mo_nop⟩ (
  And.intro ⟨ok_nop, mo_nop⟩ (
  And.intro ⟨ok_goto dX8_owes_12 (by decide), mo_goto⟩ (
  And.intro ⟨ok_nop, mo_nop⟩ (
  And.intro ⟨ok_nop, mo_nop⟩ (
  And.intro ⟨ok_ldc dX8_owes_15 rfl wd_1021, mo_push⟩ (
  trivial))))))))))))))))
theorem rX8_owes_1 : am_allR (fun pc o => am_ok am_tb0 cX8_owes RX8 2 (some .int) false pc o ∧ am_mo o) 16 (am_nth [] tX8_owes 1) :=
  And.intro ⟨ok_nop, mo_nop⟩ (
  And.intro ⟨ok_iret dX8_owes_17 rfl, mo_iret⟩ (
  And.intro ⟨ok_nop, mo_nop⟩ (
  And.intro ⟨ok_nop, mo_nop⟩ (
  And.intro ⟨ok_nop, mo_nop⟩ (
  And.intro ⟨ok_nop, mo_nop⟩ (
  And.intro ⟨ok_nop, mo_nop⟩ (
  And.intro ⟨ok_nop, mo_nop⟩ (
  And.intro ⟨ok_nop, mo_nop⟩ (
  And.intro ⟨ok_nop, mo_nop⟩ (
  And.intro ⟨ok_nop, mo_nop⟩ (
  And.intro ⟨ok_nop, mo_nop⟩ (
  And.intro ⟨ok_nop, mo_nop⟩ (
  And.intro ⟨ok_nop, mo_nop⟩ (
  And.intro ⟨ok_nop, mo_nop⟩ (
  And.intro ⟨ok_nop, mo_nop⟩ (
  trivial))))))))))))))))
theorem kX8_owes : am_M1 am_tb0 cX8_owes RX8 2 (some .int) false tX8_owes := And.intro rX8_owes_0 (And.intro rX8_owes_1 (trivial))
def tX8_debtor : List (List am_Op) := [[o_push (.int 0) 1, o_istore 1 2, o_push (.int 1) 3, o_istore 2 4, o_iload 2 5, o_push (.int 8) 7, am_nop, o_icmp (fun x y => y ≤ x) 35 10, am_nop, am_nop, o_aload 0 11, o_iload 2 12, o_cv 8 38 165 4 1 1 15, am_nop, am_nop, o_aload 0 16],
  [o_iload 1 17, o_cv 8 38 165 4 1 1 20, am_nop, am_nop, o_icmp (fun x y => x ≤ y) 27 23, am_nop, am_nop, o_iload 2 24, o_goto 28, am_nop, am_nop, o_iload 1 28, o_istore 1 29, o_iinc 2 1 32, am_nop, am_nop],
  [o_goto 4, am_nop, am_nop, o_iload 1 36, o_iret, am_nop, am_nop, am_nop, am_nop, am_nop, am_nop, am_nop, am_nop, am_nop, am_nop, am_nop]]
theorem rX8_debtor_0 : am_allR (fun pc o => am_ok am_tb0 cX8_debtor RX8 3 (some .int) false pc o ∧ am_mo o) 0 (am_nth [] tX8_debtor 0) :=
  And.intro ⟨ok_iconst dX8_debtor_0 rfl ic_0, mo_push⟩ (
  And.intro ⟨ok_istore_n dX8_debtor_1 rfl (by decide) rfl, mo_istore⟩ (
  And.intro ⟨ok_iconst dX8_debtor_2 rfl ic_1, mo_push⟩ (
  And.intro ⟨ok_istore_n dX8_debtor_3 rfl (by decide) rfl, mo_istore⟩ (
  And.intro ⟨ok_iload_n dX8_debtor_4 rfl rfl, mo_iload⟩ (
  And.intro ⟨ok_bipush dX8_debtor_5 rfl bi_8, mo_push⟩ (
  And.intro ⟨ok_nop, mo_nop⟩ (
  And.intro ⟨ok_icmp_ge dX8_debtor_7 (by decide) rfl, mo_icmp⟩ (
  And.intro ⟨ok_nop, mo_nop⟩ (
  And.intro ⟨ok_nop, mo_nop⟩ (
  And.intro ⟨ok_aload_n dX8_debtor_10 rfl rfl, mo_aload⟩ (
  And.intro ⟨ok_iload_n dX8_debtor_11 rfl rfl, mo_iload⟩ (
  And.intro ⟨ok_cv (z := 165) dX8_debtor_12 hclX8 (by decide) wd_1226 wd_1228 wp_43 wd_8 wd_1229 rfl (by decide) ⟨rfl, hy_X8_owedBy⟩ rfl, mo_cv⟩ (
  And.intro ⟨ok_nop, mo_nop⟩ (
  And.intro ⟨ok_nop, mo_nop⟩ (
  And.intro ⟨ok_aload_n dX8_debtor_15 rfl rfl, mo_aload⟩ (
  trivial))))))))))))))))
theorem rX8_debtor_1 : am_allR (fun pc o => am_ok am_tb0 cX8_debtor RX8 3 (some .int) false pc o ∧ am_mo o) 16 (am_nth [] tX8_debtor 1) :=
  And.intro ⟨ok_iload_n dX8_debtor_16 rfl rfl, mo_iload⟩ (
  And.intro ⟨ok_cv (z := 165) dX8_debtor_17 hclX8 (by decide) wd_1226 wd_1228 wp_43 wd_8 wd_1229 rfl (by decide) ⟨rfl, hy_X8_owedBy⟩ rfl, mo_cv⟩ (
  And.intro ⟨ok_nop, mo_nop⟩ (
  And.intro ⟨ok_nop, mo_nop⟩ (
  And.intro ⟨ok_icmp_le dX8_debtor_20 (by decide) rfl, mo_icmp⟩ (
  And.intro ⟨ok_nop, mo_nop⟩ (
  And.intro ⟨ok_nop, mo_nop⟩ (
  And.intro ⟨ok_iload_n dX8_debtor_23 rfl rfl, mo_iload⟩ (
  And.intro ⟨ok_goto dX8_debtor_24 (by decide), mo_goto⟩ (
  And.intro ⟨ok_nop, mo_nop⟩ (
  And.intro ⟨ok_nop, mo_nop⟩ (
  And.intro ⟨ok_iload_n dX8_debtor_27 rfl rfl, mo_iload⟩ (
  And.intro ⟨ok_istore_n dX8_debtor_28 rfl (by decide) rfl, mo_istore⟩ (
  And.intro ⟨ok_iinc dX8_debtor_29 ic_1 (by decide) rfl, mo_iinc⟩ (
  And.intro ⟨ok_nop, mo_nop⟩ (
  And.intro ⟨ok_nop, mo_nop⟩ (
  trivial))))))))))))))))
theorem rX8_debtor_2 : am_allR (fun pc o => am_ok am_tb0 cX8_debtor RX8 3 (some .int) false pc o ∧ am_mo o) 32 (am_nth [] tX8_debtor 2) :=
  And.intro ⟨ok_goto dX8_debtor_32 (by decide), mo_goto⟩ (
  And.intro ⟨ok_nop, mo_nop⟩ (
  And.intro ⟨ok_nop, mo_nop⟩ (
  And.intro ⟨ok_iload_n dX8_debtor_35 rfl rfl, mo_iload⟩ (
  And.intro ⟨ok_iret dX8_debtor_36 rfl, mo_iret⟩ (
  And.intro ⟨ok_nop, mo_nop⟩ (
  And.intro ⟨ok_nop, mo_nop⟩ (
  And.intro ⟨ok_nop, mo_nop⟩ (
  And.intro ⟨ok_nop, mo_nop⟩ (
  And.intro ⟨ok_nop, mo_nop⟩ (
  And.intro ⟨ok_nop, mo_nop⟩ (
  And.intro ⟨ok_nop, mo_nop⟩ (
  And.intro ⟨ok_nop, mo_nop⟩ (
  And.intro ⟨ok_nop, mo_nop⟩ (
  And.intro ⟨ok_nop, mo_nop⟩ (
  And.intro ⟨ok_nop, mo_nop⟩ (
  trivial))))))))))))))))
theorem kX8_debtor : am_M1 am_tb0 cX8_debtor RX8 3 (some .int) false tX8_debtor := And.intro rX8_debtor_0 (And.intro rX8_debtor_1 (And.intro rX8_debtor_2 (trivial)))
def tX8_dug : List (List am_Op) := [[o_iload 1 1, o_cs 189 1 1 1 4, am_nop, am_nop, o_if (fun x => x = 0) 16 7, am_nop, am_nop, o_iload 2 8, o_push (.int 0) 9, o_push (.int 1) 10, o_cs 113 3 0 3 13, am_nop, am_nop, o_if (fun x => ¬ x = 0) 19 16, am_nop, am_nop],
  [o_push (.int (-1000000001)) 18, am_nop, o_iret, o_aload 0 20, o_getR 8 38 28 23, am_nop, am_nop, o_iload 1 24, o_iald 20 25, o_if (fun x => 0 ≤ x) 31 28, am_nop, am_nop, o_push (.int (-1000000011)) 30, am_nop, o_iret, o_push (.int 0) 32],
  [o_istore 3 33, o_iload 3 34, o_push (.int 10) 36, am_nop, o_icmp (fun x y => y ≤ x) 52 39, am_nop, am_nop, o_aload 0 40, o_getR 8 38 9 43, am_nop, am_nop, o_iload 3 44, o_push (.long 0) 45, o_last 46, o_iinc 3 1 49, am_nop],
  [am_nop, o_goto 33, am_nop, am_nop, o_aload 0 53, o_cv 8 38 160 2 0 0 56, am_nop, am_nop, o_push (.int 0) 57, o_istore 3 58, o_iload 3 59, o_aload 0 60, o_getR 8 38 29 63, am_nop, am_nop, o_iload 1 64],
  [o_iald 20 65, o_icmp (fun x y => y ≤ x) 157 68, am_nop, am_nop, o_aload 0 69, o_getR 8 38 30 72, am_nop, am_nop, o_push (.int 24) 74, am_nop, o_iload 1 75, o_bin (fun x y => x * y) 76, o_iload 3 77, o_bin (fun x y => x + y) 78, o_iald 20 79, o_istore 4 81],
  [am_nop, o_push (.int 0) 82, o_istore 5 84, am_nop, o_iload 5 86, am_nop, o_aload 0 87, o_getR 8 38 0 90, am_nop, am_nop, o_push (.int 1) 91, o_iald 20 92, o_icmp (fun x y => y ≤ x) 147 95, am_nop, am_nop, o_iload 4 97],
  [am_nop, o_push (.int (-1000000005)) 99, am_nop, o_icmp (fun x y => x = y) 147 102, am_nop, am_nop, o_iload 4 104, am_nop, o_i2l 105, o_aload 0 106, o_iload 5 108, am_nop, o_push (.int 2) 109, o_cv 8 38 121 3 0 2 112, am_nop, am_nop],
  [o_i2l 113, o_lbin (fun x y => x - y) 114, o_lstore 6 116, am_nop, o_aload 0 117, o_getR 8 38 9 120, am_nop, am_nop, o_iload 5 122, am_nop, o_dup2 123, o_lald 24 124, o_lload 6 126, am_nop, o_push (.long 0) 127, o_lcmp 128],
  [o_if (fun x => 0 ≤ x) 137 131, am_nop, am_nop, o_lload 6 133, am_nop, o_lneg 134, o_goto 139, am_nop, am_nop, o_lload 6 139, am_nop, o_lbin (fun x y => x + y) 140, o_last 141, o_iinc 5 1 144, am_nop, am_nop],
  [o_goto 84, am_nop, am_nop, o_aload 0 148, o_cv 8 38 157 3 3 0 151, am_nop, am_nop, o_iinc 3 1 154, am_nop, am_nop, o_goto 58, am_nop, am_nop, o_aload 0 158, o_cv 8 38 161 2 0 0 161, am_nop],
  [am_nop, o_push (.int (-1)) 162, o_istore 3 163, o_push (.int 0) 164, o_istore 4 166, am_nop, o_iload 4 168, am_nop, o_aload 0 169, o_getR 8 38 0 172, am_nop, am_nop, o_push (.int 1) 173, o_iald 20 174, o_icmp (fun x y => y ≤ x) 211 177, am_nop],
  [am_nop, o_iload 3 178, o_if (fun x => x < 0) 198 181, am_nop, am_nop, o_aload 0 182, o_getR 8 38 9 185, am_nop, am_nop, o_iload 4 187, am_nop, o_lald 24 188, o_aload 0 189, o_getR 8 38 9 192, am_nop, am_nop],
  [o_iload 3 193, o_lald 24 194, o_lcmp 195, o_if (fun x => 0 ≤ x) 203 198, am_nop, am_nop, o_iload 4 200, am_nop, o_goto 204, am_nop, am_nop, o_iload 3 204, o_istore 3 205, o_iinc 4 1 208, am_nop, am_nop],
  [o_goto 166, am_nop, am_nop, o_iload 3 212, o_if (fun x => 0 ≤ x) 220 215, am_nop, am_nop, o_push (.int (-1000000005)) 217, am_nop, o_goto 235, am_nop, am_nop, o_iload 2 221, o_if (fun x => ¬ x = 0) 228 224, am_nop, am_nop],
  [o_iload 3 225, o_goto 235, am_nop, am_nop, o_aload 0 229, o_getR 8 38 9 232, am_nop, am_nop, o_iload 3 233, o_lald 24 234, o_l2i 235, o_iret, am_nop, am_nop, am_nop, am_nop]]
theorem rX8_dug_0 : am_allR (fun pc o => am_ok am_tb0 cX8_dug RX8 8 (some .int) false pc o ∧ am_mo o) 0 (am_nth [] tX8_dug 0) :=
  And.intro ⟨ok_iload_n dX8_dug_0 rfl rfl, mo_iload⟩ (
  And.intro ⟨ok_cs (z := 189) dX8_dug_1 wd_1238 wd_1239 wd_8 wd_1240 rfl (by decide) hy_X8_isSheet rfl, mo_cs⟩ (
  And.intro ⟨ok_nop, mo_nop⟩ (
  And.intro ⟨ok_nop, mo_nop⟩ (
  And.intro ⟨ok_if_eq dX8_dug_4 (by decide) rfl, mo_if⟩ (
  And.intro ⟨ok_nop, mo_nop⟩ (
  And.intro ⟨ok_nop, mo_nop⟩ (
  And.intro ⟨ok_iload_n dX8_dug_7 rfl rfl, mo_iload⟩ (
  And.intro ⟨ok_iconst dX8_dug_8 rfl ic_0, mo_push⟩ (
  And.intro ⟨ok_iconst dX8_dug_9 rfl ic_1, mo_push⟩ (
  And.intro ⟨ok_cs (z := 113) dX8_dug_10 wd_1012 wd_1013 wd_8 wd_1014 rfl (by decide) hy_X8_in rfl, mo_cs⟩ (
  And.intro ⟨ok_nop, mo_nop⟩ (
  And.intro ⟨ok_nop, mo_nop⟩ (
  And.intro ⟨ok_if_ne dX8_dug_13 (by decide) rfl, mo_if⟩ (
  And.intro ⟨ok_nop, mo_nop⟩ (
  And.intro ⟨ok_nop, mo_nop⟩ (
  trivial))))))))))))))))
theorem rX8_dug_1 : am_allR (fun pc o => am_ok am_tb0 cX8_dug RX8 8 (some .int) false pc o ∧ am_mo o) 16 (am_nth [] tX8_dug 1) :=
  And.intro ⟨ok_ldc dX8_dug_16 rfl wd_1021, mo_push⟩ (
  And.intro ⟨ok_nop, mo_nop⟩ (
  And.intro ⟨ok_iret dX8_dug_18 rfl, mo_iret⟩ (
  And.intro ⟨ok_aload_n dX8_dug_19 rfl rfl, mo_aload⟩ (
  And.intro ⟨ok_getR dX8_dug_20 hclX8 inWX8 (by decide) (by decide) wd_919 (fun _ _ _ => rfl) rfl, mo_getR⟩ (
  And.intro ⟨ok_nop, mo_nop⟩ (
  And.intro ⟨ok_nop, mo_nop⟩ (
  And.intro ⟨ok_iload_n dX8_dug_23 rfl rfl, mo_iload⟩ (
  And.intro ⟨ok_iald dX8_dug_24 rfl, mo_iald⟩ (
  And.intro ⟨ok_if_ge dX8_dug_25 (by decide) rfl, mo_if⟩ (
  And.intro ⟨ok_nop, mo_nop⟩ (
  And.intro ⟨ok_nop, mo_nop⟩ (
  And.intro ⟨ok_ldc dX8_dug_28 rfl wd_1241, mo_push⟩ (
  And.intro ⟨ok_nop, mo_nop⟩ (
  And.intro ⟨ok_iret dX8_dug_30 rfl, mo_iret⟩ (
  And.intro ⟨ok_iconst dX8_dug_31 rfl ic_0, mo_push⟩ (
  trivial))))))))))))))))
theorem rX8_dug_2 : am_allR (fun pc o => am_ok am_tb0 cX8_dug RX8 8 (some .int) false pc o ∧ am_mo o) 32 (am_nth [] tX8_dug 2) :=
  And.intro ⟨ok_istore_n dX8_dug_32 rfl (by decide) rfl, mo_istore⟩ (
  And.intro ⟨ok_iload_n dX8_dug_33 rfl rfl, mo_iload⟩ (
  And.intro ⟨ok_bipush dX8_dug_34 rfl bi_10, mo_push⟩ (
  And.intro ⟨ok_nop, mo_nop⟩ (
  And.intro ⟨ok_icmp_ge dX8_dug_36 (by decide) rfl, mo_icmp⟩ (
  And.intro ⟨ok_nop, mo_nop⟩ (
  And.intro ⟨ok_nop, mo_nop⟩ (
  And.intro ⟨ok_aload_n dX8_dug_39 rfl rfl, mo_aload⟩ (
  And.intro ⟨ok_getR dX8_dug_40 hclX8 inWX8 (by decide) (by decide) wd_900 (fun _ _ _ => rfl) rfl, mo_getR⟩ (
  And.intro ⟨ok_nop, mo_nop⟩ (
  And.intro ⟨ok_nop, mo_nop⟩ (
  And.intro ⟨ok_iload_n dX8_dug_43 rfl rfl, mo_iload⟩ (
  And.intro ⟨ok_lconst dX8_dug_44 rfl lc_0, mo_push⟩ (
  And.intro ⟨ok_last dX8_dug_45 rfl, mo_last⟩ (
  And.intro ⟨ok_iinc dX8_dug_46 ic_1 (by decide) rfl, mo_iinc⟩ (
  And.intro ⟨ok_nop, mo_nop⟩ (
  trivial))))))))))))))))
theorem rX8_dug_3 : am_allR (fun pc o => am_ok am_tb0 cX8_dug RX8 8 (some .int) false pc o ∧ am_mo o) 48 (am_nth [] tX8_dug 3) :=
  And.intro ⟨ok_nop, mo_nop⟩ (
  And.intro ⟨ok_goto dX8_dug_49 (by decide), mo_goto⟩ (
  And.intro ⟨ok_nop, mo_nop⟩ (
  And.intro ⟨ok_nop, mo_nop⟩ (
  And.intro ⟨ok_aload_n dX8_dug_52 rfl rfl, mo_aload⟩ (
  And.intro ⟨ok_cv (z := 160) dX8_dug_53 hclX8 (by decide) wd_1202 wd_1204 wp_40 wd_8 wd_1205 rfl (by decide) ⟨rfl, hy_X8_thinks⟩ rfl, mo_cv⟩ (
  And.intro ⟨ok_nop, mo_nop⟩ (
  And.intro ⟨ok_nop, mo_nop⟩ (
  And.intro ⟨ok_iconst dX8_dug_56 rfl ic_0, mo_push⟩ (
  And.intro ⟨ok_istore_n dX8_dug_57 rfl (by decide) rfl, mo_istore⟩ (
  And.intro ⟨ok_iload_n dX8_dug_58 rfl rfl, mo_iload⟩ (
  And.intro ⟨ok_aload_n dX8_dug_59 rfl rfl, mo_aload⟩ (
  And.intro ⟨ok_getR dX8_dug_60 hclX8 inWX8 (by decide) (by decide) wd_920 (fun _ _ _ => rfl) rfl, mo_getR⟩ (
  And.intro ⟨ok_nop, mo_nop⟩ (
  And.intro ⟨ok_nop, mo_nop⟩ (
  And.intro ⟨ok_iload_n dX8_dug_63 rfl rfl, mo_iload⟩ (
  trivial))))))))))))))))
theorem rX8_dug_4 : am_allR (fun pc o => am_ok am_tb0 cX8_dug RX8 8 (some .int) false pc o ∧ am_mo o) 64 (am_nth [] tX8_dug 4) :=
  And.intro ⟨ok_iald dX8_dug_64 rfl, mo_iald⟩ (
  And.intro ⟨ok_icmp_ge dX8_dug_65 (by decide) rfl, mo_icmp⟩ (
  And.intro ⟨ok_nop, mo_nop⟩ (
  And.intro ⟨ok_nop, mo_nop⟩ (
  And.intro ⟨ok_aload_n dX8_dug_68 rfl rfl, mo_aload⟩ (
  And.intro ⟨ok_getR dX8_dug_69 hclX8 inWX8 (by decide) (by decide) wd_921 (fun _ _ _ => rfl) rfl, mo_getR⟩ (
  And.intro ⟨ok_nop, mo_nop⟩ (
  And.intro ⟨ok_nop, mo_nop⟩ (
  And.intro ⟨ok_bipush dX8_dug_72 rfl bi_24, mo_push⟩ (
  And.intro ⟨ok_nop, mo_nop⟩ (
  And.intro ⟨ok_iload_n dX8_dug_74 rfl rfl, mo_iload⟩ (
  And.intro ⟨ok_imul dX8_dug_75 rfl, mo_bin⟩ (
  And.intro ⟨ok_iload_n dX8_dug_76 rfl rfl, mo_iload⟩ (
  And.intro ⟨ok_iadd dX8_dug_77 rfl, mo_bin⟩ (
  And.intro ⟨ok_iald dX8_dug_78 rfl, mo_iald⟩ (
  And.intro ⟨ok_istore dX8_dug_79 (by decide) rfl, mo_istore⟩ (
  trivial))))))))))))))))
theorem rX8_dug_5 : am_allR (fun pc o => am_ok am_tb0 cX8_dug RX8 8 (some .int) false pc o ∧ am_mo o) 80 (am_nth [] tX8_dug 5) :=
  And.intro ⟨ok_nop, mo_nop⟩ (
  And.intro ⟨ok_iconst dX8_dug_81 rfl ic_0, mo_push⟩ (
  And.intro ⟨ok_istore dX8_dug_82 (by decide) rfl, mo_istore⟩ (
  And.intro ⟨ok_nop, mo_nop⟩ (
  And.intro ⟨ok_iload dX8_dug_84 rfl, mo_iload⟩ (
  And.intro ⟨ok_nop, mo_nop⟩ (
  And.intro ⟨ok_aload_n dX8_dug_86 rfl rfl, mo_aload⟩ (
  And.intro ⟨ok_getR dX8_dug_87 hclX8 inWX8 (by decide) (by decide) wd_891 (fun _ _ _ => rfl) rfl, mo_getR⟩ (
  And.intro ⟨ok_nop, mo_nop⟩ (
  And.intro ⟨ok_nop, mo_nop⟩ (
  And.intro ⟨ok_iconst dX8_dug_90 rfl ic_1, mo_push⟩ (
  And.intro ⟨ok_iald dX8_dug_91 rfl, mo_iald⟩ (
  And.intro ⟨ok_icmp_ge dX8_dug_92 (by decide) rfl, mo_icmp⟩ (
  And.intro ⟨ok_nop, mo_nop⟩ (
  And.intro ⟨ok_nop, mo_nop⟩ (
  And.intro ⟨ok_iload dX8_dug_95 rfl, mo_iload⟩ (
  trivial))))))))))))))))
theorem rX8_dug_6 : am_allR (fun pc o => am_ok am_tb0 cX8_dug RX8 8 (some .int) false pc o ∧ am_mo o) 96 (am_nth [] tX8_dug 6) :=
  And.intro ⟨ok_nop, mo_nop⟩ (
  And.intro ⟨ok_ldc dX8_dug_97 rfl wd_1173, mo_push⟩ (
  And.intro ⟨ok_nop, mo_nop⟩ (
  And.intro ⟨ok_icmp_eq dX8_dug_99 (by decide) rfl, mo_icmp⟩ (
  And.intro ⟨ok_nop, mo_nop⟩ (
  And.intro ⟨ok_nop, mo_nop⟩ (
  And.intro ⟨ok_iload dX8_dug_102 rfl, mo_iload⟩ (
  And.intro ⟨ok_nop, mo_nop⟩ (
  And.intro ⟨ok_i2l dX8_dug_104 rfl, mo_i2l⟩ (
  And.intro ⟨ok_aload_n dX8_dug_105 rfl rfl, mo_aload⟩ (
  And.intro ⟨ok_iload dX8_dug_106 rfl, mo_iload⟩ (
  And.intro ⟨ok_nop, mo_nop⟩ (
  And.intro ⟨ok_iconst dX8_dug_108 rfl ic_2, mo_push⟩ (
  And.intro ⟨ok_cv (z := 121) dX8_dug_109 hclX8 (by decide) wd_1043 wd_1045 wp_21 wd_8 wd_1046 rfl (by decide) ⟨rfl, hy_X8_of⟩ rfl, mo_cv⟩ (
  And.intro ⟨ok_nop, mo_nop⟩ (
  And.intro ⟨ok_nop, mo_nop⟩ (
  trivial))))))))))))))))
theorem rX8_dug_7 : am_allR (fun pc o => am_ok am_tb0 cX8_dug RX8 8 (some .int) false pc o ∧ am_mo o) 112 (am_nth [] tX8_dug 7) :=
  And.intro ⟨ok_i2l dX8_dug_112 rfl, mo_i2l⟩ (
  And.intro ⟨ok_lsub dX8_dug_113 rfl, mo_lbin⟩ (
  And.intro ⟨ok_lstore dX8_dug_114 (by decide) rfl, mo_lstore⟩ (
  And.intro ⟨ok_nop, mo_nop⟩ (
  And.intro ⟨ok_aload_n dX8_dug_116 rfl rfl, mo_aload⟩ (
  And.intro ⟨ok_getR dX8_dug_117 hclX8 inWX8 (by decide) (by decide) wd_900 (fun _ _ _ => rfl) rfl, mo_getR⟩ (
  And.intro ⟨ok_nop, mo_nop⟩ (
  And.intro ⟨ok_nop, mo_nop⟩ (
  And.intro ⟨ok_iload dX8_dug_120 rfl, mo_iload⟩ (
  And.intro ⟨ok_nop, mo_nop⟩ (
  And.intro ⟨ok_dup2 dX8_dug_122 rfl, mo_dup2⟩ (
  And.intro ⟨ok_lald dX8_dug_123 rfl, mo_lald⟩ (
  And.intro ⟨ok_lload dX8_dug_124 rfl, mo_lload⟩ (
  And.intro ⟨ok_nop, mo_nop⟩ (
  And.intro ⟨ok_lconst dX8_dug_126 rfl lc_0, mo_push⟩ (
  And.intro ⟨ok_lcmp dX8_dug_127 rfl, mo_lcmp⟩ (
  trivial))))))))))))))))
theorem rX8_dug_8 : am_allR (fun pc o => am_ok am_tb0 cX8_dug RX8 8 (some .int) false pc o ∧ am_mo o) 128 (am_nth [] tX8_dug 8) :=
  And.intro ⟨ok_if_ge dX8_dug_128 (by decide) rfl, mo_if⟩ (
  And.intro ⟨ok_nop, mo_nop⟩ (
  And.intro ⟨ok_nop, mo_nop⟩ (
  And.intro ⟨ok_lload dX8_dug_131 rfl, mo_lload⟩ (
  And.intro ⟨ok_nop, mo_nop⟩ (
  And.intro ⟨ok_lneg dX8_dug_133 rfl, mo_lneg⟩ (
  And.intro ⟨ok_goto dX8_dug_134 (by decide), mo_goto⟩ (
  And.intro ⟨ok_nop, mo_nop⟩ (
  And.intro ⟨ok_nop, mo_nop⟩ (
  And.intro ⟨ok_lload dX8_dug_137 rfl, mo_lload⟩ (
  And.intro ⟨ok_nop, mo_nop⟩ (
  And.intro ⟨ok_ladd dX8_dug_139 rfl, mo_lbin⟩ (
  And.intro ⟨ok_last dX8_dug_140 rfl, mo_last⟩ (
  And.intro ⟨ok_iinc dX8_dug_141 ic_1 (by decide) rfl, mo_iinc⟩ (
  And.intro ⟨ok_nop, mo_nop⟩ (
  And.intro ⟨ok_nop, mo_nop⟩ (
  trivial))))))))))))))))
theorem rX8_dug_9 : am_allR (fun pc o => am_ok am_tb0 cX8_dug RX8 8 (some .int) false pc o ∧ am_mo o) 144 (am_nth [] tX8_dug 9) :=
  And.intro ⟨ok_goto dX8_dug_144 (by decide), mo_goto⟩ (
  And.intro ⟨ok_nop, mo_nop⟩ (
  And.intro ⟨ok_nop, mo_nop⟩ (
  And.intro ⟨ok_aload_n dX8_dug_147 rfl rfl, mo_aload⟩ (
  And.intro ⟨ok_cv (z := 157) dX8_dug_148 hclX8 (by decide) wd_1190 wd_1192 wp_38 wd_8 wd_1193 rfl (by decide) ⟨rfl, hy_X8_day⟩ rfl, mo_cv⟩ (
  And.intro ⟨ok_nop, mo_nop⟩ (
  And.intro ⟨ok_nop, mo_nop⟩ (
  And.intro ⟨ok_iinc dX8_dug_151 ic_1 (by decide) rfl, mo_iinc⟩ (
  And.intro ⟨ok_nop, mo_nop⟩ (
  And.intro ⟨ok_nop, mo_nop⟩ (
  And.intro ⟨ok_goto dX8_dug_154 (by decide), mo_goto⟩ (
  And.intro ⟨ok_nop, mo_nop⟩ (
  And.intro ⟨ok_nop, mo_nop⟩ (
  And.intro ⟨ok_aload_n dX8_dug_157 rfl rfl, mo_aload⟩ (
  And.intro ⟨ok_cv (z := 161) dX8_dug_158 hclX8 (by decide) wd_1210 wd_1212 wp_42 wd_8 wd_1213 rfl (by decide) ⟨rfl, hy_X8_putsBack⟩ rfl, mo_cv⟩ (
  And.intro ⟨ok_nop, mo_nop⟩ (
  trivial))))))))))))))))
theorem rX8_dug_10 : am_allR (fun pc o => am_ok am_tb0 cX8_dug RX8 8 (some .int) false pc o ∧ am_mo o) 160 (am_nth [] tX8_dug 10) :=
  And.intro ⟨ok_nop, mo_nop⟩ (
  And.intro ⟨ok_iconst dX8_dug_161 rfl ic_m1, mo_push⟩ (
  And.intro ⟨ok_istore_n dX8_dug_162 rfl (by decide) rfl, mo_istore⟩ (
  And.intro ⟨ok_iconst dX8_dug_163 rfl ic_0, mo_push⟩ (
  And.intro ⟨ok_istore dX8_dug_164 (by decide) rfl, mo_istore⟩ (
  And.intro ⟨ok_nop, mo_nop⟩ (
  And.intro ⟨ok_iload dX8_dug_166 rfl, mo_iload⟩ (
  And.intro ⟨ok_nop, mo_nop⟩ (
  And.intro ⟨ok_aload_n dX8_dug_168 rfl rfl, mo_aload⟩ (
  And.intro ⟨ok_getR dX8_dug_169 hclX8 inWX8 (by decide) (by decide) wd_891 (fun _ _ _ => rfl) rfl, mo_getR⟩ (
  And.intro ⟨ok_nop, mo_nop⟩ (
  And.intro ⟨ok_nop, mo_nop⟩ (
  And.intro ⟨ok_iconst dX8_dug_172 rfl ic_1, mo_push⟩ (
  And.intro ⟨ok_iald dX8_dug_173 rfl, mo_iald⟩ (
  And.intro ⟨ok_icmp_ge dX8_dug_174 (by decide) rfl, mo_icmp⟩ (
  And.intro ⟨ok_nop, mo_nop⟩ (
  trivial))))))))))))))))
theorem rX8_dug_11 : am_allR (fun pc o => am_ok am_tb0 cX8_dug RX8 8 (some .int) false pc o ∧ am_mo o) 176 (am_nth [] tX8_dug 11) :=
  And.intro ⟨ok_nop, mo_nop⟩ (
  And.intro ⟨ok_iload_n dX8_dug_177 rfl rfl, mo_iload⟩ (
  And.intro ⟨ok_if_lt dX8_dug_178 (by decide) rfl, mo_if⟩ (
  And.intro ⟨ok_nop, mo_nop⟩ (
  And.intro ⟨ok_nop, mo_nop⟩ (
  And.intro ⟨ok_aload_n dX8_dug_181 rfl rfl, mo_aload⟩ (
  And.intro ⟨ok_getR dX8_dug_182 hclX8 inWX8 (by decide) (by decide) wd_900 (fun _ _ _ => rfl) rfl, mo_getR⟩ (
  And.intro ⟨ok_nop, mo_nop⟩ (
  And.intro ⟨ok_nop, mo_nop⟩ (
  And.intro ⟨ok_iload dX8_dug_185 rfl, mo_iload⟩ (
  And.intro ⟨ok_nop, mo_nop⟩ (
  And.intro ⟨ok_lald dX8_dug_187 rfl, mo_lald⟩ (
  And.intro ⟨ok_aload_n dX8_dug_188 rfl rfl, mo_aload⟩ (
  And.intro ⟨ok_getR dX8_dug_189 hclX8 inWX8 (by decide) (by decide) wd_900 (fun _ _ _ => rfl) rfl, mo_getR⟩ (
  And.intro ⟨ok_nop, mo_nop⟩ (
  And.intro ⟨ok_nop, mo_nop⟩ (
  trivial))))))))))))))))
theorem rX8_dug_12 : am_allR (fun pc o => am_ok am_tb0 cX8_dug RX8 8 (some .int) false pc o ∧ am_mo o) 192 (am_nth [] tX8_dug 12) :=
  And.intro ⟨ok_iload_n dX8_dug_192 rfl rfl, mo_iload⟩ (
  And.intro ⟨ok_lald dX8_dug_193 rfl, mo_lald⟩ (
  And.intro ⟨ok_lcmp dX8_dug_194 rfl, mo_lcmp⟩ (
  And.intro ⟨ok_if_ge dX8_dug_195 (by decide) rfl, mo_if⟩ (
  And.intro ⟨ok_nop, mo_nop⟩ (
  And.intro ⟨ok_nop, mo_nop⟩ (
  And.intro ⟨ok_iload dX8_dug_198 rfl, mo_iload⟩ (
  And.intro ⟨ok_nop, mo_nop⟩ (
  And.intro ⟨ok_goto dX8_dug_200 (by decide), mo_goto⟩ (
  And.intro ⟨ok_nop, mo_nop⟩ (
  And.intro ⟨ok_nop, mo_nop⟩ (
  And.intro ⟨ok_iload_n dX8_dug_203 rfl rfl, mo_iload⟩ (
  And.intro ⟨ok_istore_n dX8_dug_204 rfl (by decide) rfl, mo_istore⟩ (
  And.intro ⟨ok_iinc dX8_dug_205 ic_1 (by decide) rfl, mo_iinc⟩ (
  And.intro ⟨ok_nop, mo_nop⟩ (
  And.intro ⟨ok_nop, mo_nop⟩ (
  trivial))))))))))))))))
theorem rX8_dug_13 : am_allR (fun pc o => am_ok am_tb0 cX8_dug RX8 8 (some .int) false pc o ∧ am_mo o) 208 (am_nth [] tX8_dug 13) :=
  And.intro ⟨ok_goto dX8_dug_208 (by decide), mo_goto⟩ (
  And.intro ⟨ok_nop, mo_nop⟩ (
  And.intro ⟨ok_nop, mo_nop⟩ (
  And.intro ⟨ok_iload_n dX8_dug_211 rfl rfl, mo_iload⟩ (
  And.intro ⟨ok_if_ge dX8_dug_212 (by decide) rfl, mo_if⟩ (
  And.intro ⟨ok_nop, mo_nop⟩ (
  And.intro ⟨ok_nop, mo_nop⟩ (
  And.intro ⟨ok_ldc dX8_dug_215 rfl wd_1173, mo_push⟩ (
  And.intro ⟨ok_nop, mo_nop⟩ (
  And.intro ⟨ok_goto dX8_dug_217 (by decide), mo_goto⟩ (
  And.intro ⟨ok_nop, mo_nop⟩ (
  And.intro ⟨ok_nop, mo_nop⟩ (
  And.intro ⟨ok_iload_n dX8_dug_220 rfl rfl, mo_iload⟩ (
  And.intro ⟨ok_if_ne dX8_dug_221 (by decide) rfl, mo_if⟩ (
  And.intro ⟨ok_nop, mo_nop⟩ (
  And.intro ⟨ok_nop, mo_nop⟩ (
  trivial))))))))))))))))
theorem rX8_dug_14 : am_allR (fun pc o => am_ok am_tb0 cX8_dug RX8 8 (some .int) false pc o ∧ am_mo o) 224 (am_nth [] tX8_dug 14) :=
  And.intro ⟨ok_iload_n dX8_dug_224 rfl rfl, mo_iload⟩ (
  And.intro ⟨ok_goto dX8_dug_225 (by decide), mo_goto⟩ (
  And.intro ⟨ok_nop, mo_nop⟩ (
  And.intro ⟨ok_nop, mo_nop⟩ (
  And.intro ⟨ok_aload_n dX8_dug_228 rfl rfl, mo_aload⟩ (
  And.intro ⟨ok_getR dX8_dug_229 hclX8 inWX8 (by decide) (by decide) wd_900 (fun _ _ _ => rfl) rfl, mo_getR⟩ (
  And.intro ⟨ok_nop, mo_nop⟩ (
  And.intro ⟨ok_nop, mo_nop⟩ (
  And.intro ⟨ok_iload_n dX8_dug_232 rfl rfl, mo_iload⟩ (
  And.intro ⟨ok_lald dX8_dug_233 rfl, mo_lald⟩ (
  And.intro ⟨ok_l2i dX8_dug_234 rfl, mo_l2i⟩ (
  And.intro ⟨ok_iret dX8_dug_235 rfl, mo_iret⟩ (
  And.intro ⟨ok_nop, mo_nop⟩ (
  And.intro ⟨ok_nop, mo_nop⟩ (
  And.intro ⟨ok_nop, mo_nop⟩ (
  And.intro ⟨ok_nop, mo_nop⟩ (
  trivial))))))))))))))))
theorem kX8_dug : am_M1 am_tb0 cX8_dug RX8 8 (some .int) false tX8_dug := And.intro rX8_dug_0 (And.intro rX8_dug_1 (And.intro rX8_dug_2 (And.intro rX8_dug_3 (And.intro rX8_dug_4 (And.intro rX8_dug_5 (And.intro rX8_dug_6 (And.intro rX8_dug_7 (And.intro rX8_dug_8 (And.intro rX8_dug_9 (And.intro rX8_dug_10 (And.intro rX8_dug_11 (And.intro rX8_dug_12 (And.intro rX8_dug_13 (And.intro rX8_dug_14 (trivial)))))))))))))))
def tX8_fine : List (List am_Op) := [[o_iload 1 1, o_cs 119 1 1 1 4, am_nop, am_nop, o_if (fun x => ¬ x = 0) 10 7, am_nop, am_nop, o_push (.int (-1000000001)) 9, am_nop, o_iret, o_aload 0 11, o_push (.int 2) 12, o_cv 8 38 185 3 0 1 15, am_nop, am_nop, o_istore 2 16],
  [o_aload 0 17, o_getR 8 38 27 20, am_nop, am_nop, o_push (.int 0) 21, o_aload 0 22, o_iload 1 23, o_cv 8 38 165 4 1 1 26, am_nop, am_nop, o_iast 27, o_aload 0 28, o_getR 8 38 27 31, am_nop, am_nop, o_push (.int 1) 32],
  [o_aload 0 33, o_getR 8 38 0 36, am_nop, am_nop, o_push (.int 5) 37, o_iald 20 38, o_iast 39, o_iload 2 40, o_if (fun x => 0 ≤ x) 51 43, am_nop, am_nop, o_aload 0 44, o_iload 1 45, o_cv 8 38 165 4 1 1 48, am_nop, am_nop],
  [o_goto 56, am_nop, am_nop, o_aload 0 52, o_iload 2 53, o_cv 8 38 188 6 1 1 56, am_nop, am_nop, o_iret, am_nop, am_nop, am_nop, am_nop, am_nop, am_nop, am_nop]]
theorem rX8_fine_0 : am_allR (fun pc o => am_ok am_tb0 cX8_fine RX8 3 (some .int) false pc o ∧ am_mo o) 0 (am_nth [] tX8_fine 0) :=
  And.intro ⟨ok_iload_n dX8_fine_0 rfl rfl, mo_iload⟩ (
  And.intro ⟨ok_cs (z := 119) dX8_fine_1 wd_1018 wd_1019 wd_8 wd_1020 rfl (by decide) hy_X8_isOwner rfl, mo_cs⟩ (
  And.intro ⟨ok_nop, mo_nop⟩ (
  And.intro ⟨ok_nop, mo_nop⟩ (
  And.intro ⟨ok_if_ne dX8_fine_4 (by decide) rfl, mo_if⟩ (
  And.intro ⟨ok_nop, mo_nop⟩ (
  And.intro ⟨ok_nop, mo_nop⟩ (
  And.intro ⟨ok_ldc dX8_fine_7 rfl wd_1021, mo_push⟩ (
  And.intro ⟨ok_nop, mo_nop⟩ (
  And.intro ⟨ok_iret dX8_fine_9 rfl, mo_iret⟩ (
  And.intro ⟨ok_aload_n dX8_fine_10 rfl rfl, mo_aload⟩ (
  And.intro ⟨ok_iconst dX8_fine_11 rfl ic_2, mo_push⟩ (
  And.intro ⟨ok_cv (z := 185) dX8_fine_12 hclX8 (by decide) wd_1079 wd_1081 wp_25 wd_8 wd_1082 rfl (by decide) ⟨rfl, hy_X8_counts⟩ rfl, mo_cv⟩ (
  And.intro ⟨ok_nop, mo_nop⟩ (
  And.intro ⟨ok_nop, mo_nop⟩ (
  And.intro ⟨ok_istore_n dX8_fine_15 rfl (by decide) rfl, mo_istore⟩ (
  trivial))))))))))))))))
theorem rX8_fine_1 : am_allR (fun pc o => am_ok am_tb0 cX8_fine RX8 3 (some .int) false pc o ∧ am_mo o) 16 (am_nth [] tX8_fine 1) :=
  And.intro ⟨ok_aload_n dX8_fine_16 rfl rfl, mo_aload⟩ (
  And.intro ⟨ok_getR dX8_fine_17 hclX8 inWX8 (by decide) (by decide) wd_918 (fun _ _ _ => rfl) rfl, mo_getR⟩ (
  And.intro ⟨ok_nop, mo_nop⟩ (
  And.intro ⟨ok_nop, mo_nop⟩ (
  And.intro ⟨ok_iconst dX8_fine_20 rfl ic_0, mo_push⟩ (
  And.intro ⟨ok_aload_n dX8_fine_21 rfl rfl, mo_aload⟩ (
  And.intro ⟨ok_iload_n dX8_fine_22 rfl rfl, mo_iload⟩ (
  And.intro ⟨ok_cv (z := 165) dX8_fine_23 hclX8 (by decide) wd_1226 wd_1228 wp_43 wd_8 wd_1229 rfl (by decide) ⟨rfl, hy_X8_owedBy⟩ rfl, mo_cv⟩ (
  And.intro ⟨ok_nop, mo_nop⟩ (
  And.intro ⟨ok_nop, mo_nop⟩ (
  And.intro ⟨ok_iast dX8_fine_26 rfl, mo_iast⟩ (
  And.intro ⟨ok_aload_n dX8_fine_27 rfl rfl, mo_aload⟩ (
  And.intro ⟨ok_getR dX8_fine_28 hclX8 inWX8 (by decide) (by decide) wd_918 (fun _ _ _ => rfl) rfl, mo_getR⟩ (
  And.intro ⟨ok_nop, mo_nop⟩ (
  And.intro ⟨ok_nop, mo_nop⟩ (
  And.intro ⟨ok_iconst dX8_fine_31 rfl ic_1, mo_push⟩ (
  trivial))))))))))))))))
theorem rX8_fine_2 : am_allR (fun pc o => am_ok am_tb0 cX8_fine RX8 3 (some .int) false pc o ∧ am_mo o) 32 (am_nth [] tX8_fine 2) :=
  And.intro ⟨ok_aload_n dX8_fine_32 rfl rfl, mo_aload⟩ (
  And.intro ⟨ok_getR dX8_fine_33 hclX8 inWX8 (by decide) (by decide) wd_891 (fun _ _ _ => rfl) rfl, mo_getR⟩ (
  And.intro ⟨ok_nop, mo_nop⟩ (
  And.intro ⟨ok_nop, mo_nop⟩ (
  And.intro ⟨ok_iconst dX8_fine_36 rfl ic_5, mo_push⟩ (
  And.intro ⟨ok_iald dX8_fine_37 rfl, mo_iald⟩ (
  And.intro ⟨ok_iast dX8_fine_38 rfl, mo_iast⟩ (
  And.intro ⟨ok_iload_n dX8_fine_39 rfl rfl, mo_iload⟩ (
  And.intro ⟨ok_if_ge dX8_fine_40 (by decide) rfl, mo_if⟩ (
  And.intro ⟨ok_nop, mo_nop⟩ (
  And.intro ⟨ok_nop, mo_nop⟩ (
  And.intro ⟨ok_aload_n dX8_fine_43 rfl rfl, mo_aload⟩ (
  And.intro ⟨ok_iload_n dX8_fine_44 rfl rfl, mo_iload⟩ (
  And.intro ⟨ok_cv (z := 165) dX8_fine_45 hclX8 (by decide) wd_1226 wd_1228 wp_43 wd_8 wd_1229 rfl (by decide) ⟨rfl, hy_X8_owedBy⟩ rfl, mo_cv⟩ (
  And.intro ⟨ok_nop, mo_nop⟩ (
  And.intro ⟨ok_nop, mo_nop⟩ (
  trivial))))))))))))))))
theorem rX8_fine_3 : am_allR (fun pc o => am_ok am_tb0 cX8_fine RX8 3 (some .int) false pc o ∧ am_mo o) 48 (am_nth [] tX8_fine 3) :=
  And.intro ⟨ok_goto dX8_fine_48 (by decide), mo_goto⟩ (
  And.intro ⟨ok_nop, mo_nop⟩ (
  And.intro ⟨ok_nop, mo_nop⟩ (
  And.intro ⟨ok_aload_n dX8_fine_51 rfl rfl, mo_aload⟩ (
  And.intro ⟨ok_iload_n dX8_fine_52 rfl rfl, mo_iload⟩ (
  And.intro ⟨ok_cv (z := 188) dX8_fine_53 hclX8 (by decide) wd_1083 wd_1085 wp_26 wd_8 wd_1086 rfl (by decide) ⟨rfl, hy_X8_worksOut⟩ rfl, mo_cv⟩ (
  And.intro ⟨ok_nop, mo_nop⟩ (
  And.intro ⟨ok_nop, mo_nop⟩ (
  And.intro ⟨ok_iret dX8_fine_56 rfl, mo_iret⟩ (
  And.intro ⟨ok_nop, mo_nop⟩ (
  And.intro ⟨ok_nop, mo_nop⟩ (
  And.intro ⟨ok_nop, mo_nop⟩ (
  And.intro ⟨ok_nop, mo_nop⟩ (
  And.intro ⟨ok_nop, mo_nop⟩ (
  And.intro ⟨ok_nop, mo_nop⟩ (
  And.intro ⟨ok_nop, mo_nop⟩ (
  trivial))))))))))))))))
theorem kX8_fine : am_M1 am_tb0 cX8_fine RX8 3 (some .int) false tX8_fine := And.intro rX8_fine_0 (And.intro rX8_fine_1 (And.intro rX8_fine_2 (And.intro rX8_fine_3 (trivial))))
def tX8_feed : List (List am_Op) := [[o_aload 0 1, o_getI 8 38 11 4, am_nop, am_nop, o_push (.int 12) 6, am_nop, o_bin (fun x y => x + y) 7, o_push (.int 96) 9, am_nop, o_icmp (fun x y => x ≤ y) 15 12, am_nop, am_nop, o_push (.int (-1000000003)) 14, am_nop, o_iret, o_push (.int 0) 16],
  [o_istore 4 18, am_nop, o_iload 4 20, am_nop, o_push (.int 12) 22, am_nop, o_icmp (fun x y => y ≤ x) 84 25, am_nop, am_nop, o_iload 4 27, am_nop, o_push (.int 4) 28, o_icmp (fun x y => y ≤ x) 35 31, am_nop, am_nop, o_iload 1 32],
  [o_goto 47, am_nop, am_nop, o_iload 4 37, am_nop, o_push (.int 8) 39, am_nop, o_icmp (fun x y => y ≤ x) 46 42, am_nop, am_nop, o_iload 2 43, o_goto 47, am_nop, am_nop, o_iload 3 47, o_istore 5 49],
  [am_nop, o_aload 0 50, o_getR 8 38 10 53, am_nop, am_nop, o_aload 0 54, o_getI 8 38 11 57, am_nop, am_nop, o_iload 4 59, am_nop, o_bin (fun x y => x + y) 60, o_iload 5 62, am_nop, o_push (.int 24) 64, am_nop],
  [o_push (.int 8) 66, am_nop, o_iload 4 68, am_nop, o_push (.int 4) 69, o_binS (fun x y => x - x / y * y) 70, o_bin (fun x y => x * y) 71, o_bin (fun x y => x - y) 72, o_bin (fun x y => x >>> (y &&& 31)) 73, o_push (.int 255) 76, am_nop, am_nop, o_bin (fun x y => x &&& y) 77, o_iast 78, o_iinc 4 1 81, am_nop],
  [am_nop, o_goto 18, am_nop, am_nop, o_aload 0 85, o_dup 86, o_getI 8 38 11 89, am_nop, am_nop, o_push (.int 12) 91, am_nop, o_bin (fun x y => x + y) 92, o_putI 8 38 11 95, am_nop, am_nop, o_aload 0 96],
  [o_getI 8 38 11 99, am_nop, am_nop, o_iret, am_nop, am_nop, am_nop, am_nop, am_nop, am_nop, am_nop, am_nop, am_nop, am_nop, am_nop, am_nop]]
theorem rX8_feed_0 : am_allR (fun pc o => am_ok am_tb0 cX8_feed RX8 6 (some .int) false pc o ∧ am_mo o) 0 (am_nth [] tX8_feed 0) :=
  And.intro ⟨ok_aload_n dX8_feed_0 rfl rfl, mo_aload⟩ (
  And.intro ⟨ok_getI dX8_feed_1 hclX8 inWX8 (by decide) (by decide) wd_902 (fun _ _ _ => rfl) rfl, mo_getI⟩ (
  And.intro ⟨ok_nop, mo_nop⟩ (
  And.intro ⟨ok_nop, mo_nop⟩ (
  And.intro ⟨ok_bipush dX8_feed_4 rfl bi_12, mo_push⟩ (
  And.intro ⟨ok_nop, mo_nop⟩ (
  And.intro ⟨ok_iadd dX8_feed_6 rfl, mo_bin⟩ (
  And.intro ⟨ok_bipush dX8_feed_7 rfl bi_96, mo_push⟩ (
  And.intro ⟨ok_nop, mo_nop⟩ (
  And.intro ⟨ok_icmp_le dX8_feed_9 (by decide) rfl, mo_icmp⟩ (
  And.intro ⟨ok_nop, mo_nop⟩ (
  And.intro ⟨ok_nop, mo_nop⟩ (
  And.intro ⟨ok_ldc dX8_feed_12 rfl wd_1022, mo_push⟩ (
  And.intro ⟨ok_nop, mo_nop⟩ (
  And.intro ⟨ok_iret dX8_feed_14 rfl, mo_iret⟩ (
  And.intro ⟨ok_iconst dX8_feed_15 rfl ic_0, mo_push⟩ (
  trivial))))))))))))))))
theorem rX8_feed_1 : am_allR (fun pc o => am_ok am_tb0 cX8_feed RX8 6 (some .int) false pc o ∧ am_mo o) 16 (am_nth [] tX8_feed 1) :=
  And.intro ⟨ok_istore dX8_feed_16 (by decide) rfl, mo_istore⟩ (
  And.intro ⟨ok_nop, mo_nop⟩ (
  And.intro ⟨ok_iload dX8_feed_18 rfl, mo_iload⟩ (
  And.intro ⟨ok_nop, mo_nop⟩ (
  And.intro ⟨ok_bipush dX8_feed_20 rfl bi_12, mo_push⟩ (
  And.intro ⟨ok_nop, mo_nop⟩ (
  And.intro ⟨ok_icmp_ge dX8_feed_22 (by decide) rfl, mo_icmp⟩ (
  And.intro ⟨ok_nop, mo_nop⟩ (
  And.intro ⟨ok_nop, mo_nop⟩ (
  And.intro ⟨ok_iload dX8_feed_25 rfl, mo_iload⟩ (
  And.intro ⟨ok_nop, mo_nop⟩ (
  And.intro ⟨ok_iconst dX8_feed_27 rfl ic_4, mo_push⟩ (
  And.intro ⟨ok_icmp_ge dX8_feed_28 (by decide) rfl, mo_icmp⟩ (
  And.intro ⟨ok_nop, mo_nop⟩ (
  And.intro ⟨ok_nop, mo_nop⟩ (
  And.intro ⟨ok_iload_n dX8_feed_31 rfl rfl, mo_iload⟩ (
  trivial))))))))))))))))
theorem rX8_feed_2 : am_allR (fun pc o => am_ok am_tb0 cX8_feed RX8 6 (some .int) false pc o ∧ am_mo o) 32 (am_nth [] tX8_feed 2) :=
  And.intro ⟨ok_goto dX8_feed_32 (by decide), mo_goto⟩ (
  And.intro ⟨ok_nop, mo_nop⟩ (
  And.intro ⟨ok_nop, mo_nop⟩ (
  And.intro ⟨ok_iload dX8_feed_35 rfl, mo_iload⟩ (
  And.intro ⟨ok_nop, mo_nop⟩ (
  And.intro ⟨ok_bipush dX8_feed_37 rfl bi_8, mo_push⟩ (
  And.intro ⟨ok_nop, mo_nop⟩ (
  And.intro ⟨ok_icmp_ge dX8_feed_39 (by decide) rfl, mo_icmp⟩ (
  And.intro ⟨ok_nop, mo_nop⟩ (
  And.intro ⟨ok_nop, mo_nop⟩ (
  And.intro ⟨ok_iload_n dX8_feed_42 rfl rfl, mo_iload⟩ (
  And.intro ⟨ok_goto dX8_feed_43 (by decide), mo_goto⟩ (
  And.intro ⟨ok_nop, mo_nop⟩ (
  And.intro ⟨ok_nop, mo_nop⟩ (
  And.intro ⟨ok_iload_n dX8_feed_46 rfl rfl, mo_iload⟩ (
  And.intro ⟨ok_istore dX8_feed_47 (by decide) rfl, mo_istore⟩ (
  trivial))))))))))))))))
theorem rX8_feed_3 : am_allR (fun pc o => am_ok am_tb0 cX8_feed RX8 6 (some .int) false pc o ∧ am_mo o) 48 (am_nth [] tX8_feed 3) :=
  And.intro ⟨ok_nop, mo_nop⟩ (
  And.intro ⟨ok_aload_n dX8_feed_49 rfl rfl, mo_aload⟩ (
  And.intro ⟨ok_getR dX8_feed_50 hclX8 inWX8 (by decide) (by decide) wd_901 (fun _ _ _ => rfl) rfl, mo_getR⟩ (
  And.intro ⟨ok_nop, mo_nop⟩ (
  And.intro ⟨ok_nop, mo_nop⟩ (
  And.intro ⟨ok_aload_n dX8_feed_53 rfl rfl, mo_aload⟩ (
  And.intro ⟨ok_getI dX8_feed_54 hclX8 inWX8 (by decide) (by decide) wd_902 (fun _ _ _ => rfl) rfl, mo_getI⟩ (
  And.intro ⟨ok_nop, mo_nop⟩ (
  And.intro ⟨ok_nop, mo_nop⟩ (
  And.intro ⟨ok_iload dX8_feed_57 rfl, mo_iload⟩ (
  And.intro ⟨ok_nop, mo_nop⟩ (
  And.intro ⟨ok_iadd dX8_feed_59 rfl, mo_bin⟩ (
  And.intro ⟨ok_iload dX8_feed_60 rfl, mo_iload⟩ (
  And.intro ⟨ok_nop, mo_nop⟩ (
  And.intro ⟨ok_bipush dX8_feed_62 rfl bi_24, mo_push⟩ (
  And.intro ⟨ok_nop, mo_nop⟩ (
  trivial))))))))))))))))
theorem rX8_feed_4 : am_allR (fun pc o => am_ok am_tb0 cX8_feed RX8 6 (some .int) false pc o ∧ am_mo o) 64 (am_nth [] tX8_feed 4) :=
  And.intro ⟨ok_bipush dX8_feed_64 rfl bi_8, mo_push⟩ (
  And.intro ⟨ok_nop, mo_nop⟩ (
  And.intro ⟨ok_iload dX8_feed_66 rfl, mo_iload⟩ (
  And.intro ⟨ok_nop, mo_nop⟩ (
  And.intro ⟨ok_iconst dX8_feed_68 rfl ic_4, mo_push⟩ (
  And.intro ⟨ok_irem dX8_feed_69 rfl, mo_binS⟩ (
  And.intro ⟨ok_imul dX8_feed_70 rfl, mo_bin⟩ (
  And.intro ⟨ok_isub dX8_feed_71 rfl, mo_bin⟩ (
  And.intro ⟨ok_ishr dX8_feed_72 rfl, mo_bin⟩ (
  And.intro ⟨ok_sipush dX8_feed_73 rfl si_255, mo_push⟩ (
  And.intro ⟨ok_nop, mo_nop⟩ (
  And.intro ⟨ok_nop, mo_nop⟩ (
  And.intro ⟨ok_iand dX8_feed_76 rfl, mo_bin⟩ (
  And.intro ⟨ok_iast dX8_feed_77 rfl, mo_iast⟩ (
  And.intro ⟨ok_iinc dX8_feed_78 ic_1 (by decide) rfl, mo_iinc⟩ (
  And.intro ⟨ok_nop, mo_nop⟩ (
  trivial))))))))))))))))
theorem rX8_feed_5 : am_allR (fun pc o => am_ok am_tb0 cX8_feed RX8 6 (some .int) false pc o ∧ am_mo o) 80 (am_nth [] tX8_feed 5) :=
  And.intro ⟨ok_nop, mo_nop⟩ (
  And.intro ⟨ok_goto dX8_feed_81 (by decide), mo_goto⟩ (
  And.intro ⟨ok_nop, mo_nop⟩ (
  And.intro ⟨ok_nop, mo_nop⟩ (
  And.intro ⟨ok_aload_n dX8_feed_84 rfl rfl, mo_aload⟩ (
  And.intro ⟨ok_dup dX8_feed_85 rfl, mo_dup⟩ (
  And.intro ⟨ok_getI dX8_feed_86 hclX8 inWX8 (by decide) (by decide) wd_902 (fun _ _ _ => rfl) rfl, mo_getI⟩ (
  And.intro ⟨ok_nop, mo_nop⟩ (
  And.intro ⟨ok_nop, mo_nop⟩ (
  And.intro ⟨ok_bipush dX8_feed_89 rfl bi_12, mo_push⟩ (
  And.intro ⟨ok_nop, mo_nop⟩ (
  And.intro ⟨ok_iadd dX8_feed_91 rfl, mo_bin⟩ (
  And.intro ⟨ok_putI dX8_feed_92 hclX8 inWX8 tyX8_ok nmX8 (by decide) (by decide) wd_902 rfl (tyX8_ok 11 (by decide)) (fun _ _ _ => rfl) rfl, mo_putI⟩ (
  And.intro ⟨ok_nop, mo_nop⟩ (
  And.intro ⟨ok_nop, mo_nop⟩ (
  And.intro ⟨ok_aload_n dX8_feed_95 rfl rfl, mo_aload⟩ (
  trivial))))))))))))))))
theorem rX8_feed_6 : am_allR (fun pc o => am_ok am_tb0 cX8_feed RX8 6 (some .int) false pc o ∧ am_mo o) 96 (am_nth [] tX8_feed 6) :=
  And.intro ⟨ok_getI dX8_feed_96 hclX8 inWX8 (by decide) (by decide) wd_902 (fun _ _ _ => rfl) rfl, mo_getI⟩ (
  And.intro ⟨ok_nop, mo_nop⟩ (
  And.intro ⟨ok_nop, mo_nop⟩ (
  And.intro ⟨ok_iret dX8_feed_99 rfl, mo_iret⟩ (
  And.intro ⟨ok_nop, mo_nop⟩ (
  And.intro ⟨ok_nop, mo_nop⟩ (
  And.intro ⟨ok_nop, mo_nop⟩ (
  And.intro ⟨ok_nop, mo_nop⟩ (
  And.intro ⟨ok_nop, mo_nop⟩ (
  And.intro ⟨ok_nop, mo_nop⟩ (
  And.intro ⟨ok_nop, mo_nop⟩ (
  And.intro ⟨ok_nop, mo_nop⟩ (
  And.intro ⟨ok_nop, mo_nop⟩ (
  And.intro ⟨ok_nop, mo_nop⟩ (
  And.intro ⟨ok_nop, mo_nop⟩ (
  And.intro ⟨ok_nop, mo_nop⟩ (
  trivial))))))))))))))))
theorem kX8_feed : am_M1 am_tb0 cX8_feed RX8 6 (some .int) false tX8_feed := And.intro rX8_feed_0 (And.intro rX8_feed_1 (And.intro rX8_feed_2 (And.intro rX8_feed_3 (And.intro rX8_feed_4 (And.intro rX8_feed_5 (And.intro rX8_feed_6 (trivial)))))))
def tX8_trim : List (List am_Op) := [[o_iload 1 1, o_push (.int 0) 2, o_aload 0 3, o_getI 8 38 11 6, am_nop, am_nop, o_cs 113 3 0 3 9, am_nop, am_nop, o_if (fun x => ¬ x = 0) 15 12, am_nop, am_nop, o_push (.int (-1000000001)) 14, am_nop, o_iret, o_aload 0 16],
  [o_iload 1 17, o_putI 8 38 11 20, am_nop, am_nop, o_iload 1 21, o_iret, am_nop, am_nop, am_nop, am_nop, am_nop, am_nop, am_nop, am_nop, am_nop, am_nop]]
theorem rX8_trim_0 : am_allR (fun pc o => am_ok am_tb0 cX8_trim RX8 2 (some .int) false pc o ∧ am_mo o) 0 (am_nth [] tX8_trim 0) :=
  And.intro ⟨ok_iload_n dX8_trim_0 rfl rfl, mo_iload⟩ (
  And.intro ⟨ok_iconst dX8_trim_1 rfl ic_0, mo_push⟩ (
  And.intro ⟨ok_aload_n dX8_trim_2 rfl rfl, mo_aload⟩ (
  And.intro ⟨ok_getI dX8_trim_3 hclX8 inWX8 (by decide) (by decide) wd_902 (fun _ _ _ => rfl) rfl, mo_getI⟩ (
  And.intro ⟨ok_nop, mo_nop⟩ (
  And.intro ⟨ok_nop, mo_nop⟩ (
  And.intro ⟨ok_cs (z := 113) dX8_trim_6 wd_1012 wd_1013 wd_8 wd_1014 rfl (by decide) hy_X8_in rfl, mo_cs⟩ (
  And.intro ⟨ok_nop, mo_nop⟩ (
  And.intro ⟨ok_nop, mo_nop⟩ (
  And.intro ⟨ok_if_ne dX8_trim_9 (by decide) rfl, mo_if⟩ (
  And.intro ⟨ok_nop, mo_nop⟩ (
  And.intro ⟨ok_nop, mo_nop⟩ (
  And.intro ⟨ok_ldc dX8_trim_12 rfl wd_1021, mo_push⟩ (
  And.intro ⟨ok_nop, mo_nop⟩ (
  And.intro ⟨ok_iret dX8_trim_14 rfl, mo_iret⟩ (
  And.intro ⟨ok_aload_n dX8_trim_15 rfl rfl, mo_aload⟩ (
  trivial))))))))))))))))
theorem rX8_trim_1 : am_allR (fun pc o => am_ok am_tb0 cX8_trim RX8 2 (some .int) false pc o ∧ am_mo o) 16 (am_nth [] tX8_trim 1) :=
  And.intro ⟨ok_iload_n dX8_trim_16 rfl rfl, mo_iload⟩ (
  And.intro ⟨ok_putI dX8_trim_17 hclX8 inWX8 tyX8_ok nmX8 (by decide) (by decide) wd_902 rfl (tyX8_ok 11 (by decide)) (fun _ _ _ => rfl) rfl, mo_putI⟩ (
  And.intro ⟨ok_nop, mo_nop⟩ (
  And.intro ⟨ok_nop, mo_nop⟩ (
  And.intro ⟨ok_iload_n dX8_trim_20 rfl rfl, mo_iload⟩ (
  And.intro ⟨ok_iret dX8_trim_21 rfl, mo_iret⟩ (
  And.intro ⟨ok_nop, mo_nop⟩ (
  And.intro ⟨ok_nop, mo_nop⟩ (
  And.intro ⟨ok_nop, mo_nop⟩ (
  And.intro ⟨ok_nop, mo_nop⟩ (
  And.intro ⟨ok_nop, mo_nop⟩ (
  And.intro ⟨ok_nop, mo_nop⟩ (
  And.intro ⟨ok_nop, mo_nop⟩ (
  And.intro ⟨ok_nop, mo_nop⟩ (
  And.intro ⟨ok_nop, mo_nop⟩ (
  And.intro ⟨ok_nop, mo_nop⟩ (
  trivial))))))))))))))))
theorem kX8_trim : am_M1 am_tb0 cX8_trim RX8 2 (some .int) false tX8_trim := And.intro rX8_trim_0 (And.intro rX8_trim_1 (trivial))
def tX8_isLetter : List (List am_Op) := [[o_iload 1 1, o_aload 0 2, o_getI 8 38 11 5, am_nop, am_nop, o_icmp (fun x y => y ≤ x) 34 8, am_nop, am_nop, o_aload 0 9, o_getR 8 38 10 12, am_nop, am_nop, o_iload 1 13, o_iald 20 14, o_push (.int 97) 16, am_nop],
  [o_icmp (fun x y => x < y) 34 19, am_nop, am_nop, o_aload 0 20, o_getR 8 38 10 23, am_nop, am_nop, o_iload 1 24, o_iald 20 25, o_push (.int 122) 27, am_nop, o_icmp (fun x y => y < x) 34 30, am_nop, am_nop, o_push (.int 1) 31, o_goto 35],
  [am_nop, am_nop, o_push (.int 0) 35, o_nret .boolean, am_nop, am_nop, am_nop, am_nop, am_nop, am_nop, am_nop, am_nop, am_nop, am_nop, am_nop, am_nop]]
theorem rX8_isLetter_0 : am_allR (fun pc o => am_ok am_tb0 cX8_isLetter RX8 2 (some .boolean) false pc o ∧ am_mo o) 0 (am_nth [] tX8_isLetter 0) :=
  And.intro ⟨ok_iload_n dX8_isLetter_0 rfl rfl, mo_iload⟩ (
  And.intro ⟨ok_aload_n dX8_isLetter_1 rfl rfl, mo_aload⟩ (
  And.intro ⟨ok_getI dX8_isLetter_2 hclX8 inWX8 (by decide) (by decide) wd_902 (fun _ _ _ => rfl) rfl, mo_getI⟩ (
  And.intro ⟨ok_nop, mo_nop⟩ (
  And.intro ⟨ok_nop, mo_nop⟩ (
  And.intro ⟨ok_icmp_ge dX8_isLetter_5 (by decide) rfl, mo_icmp⟩ (
  And.intro ⟨ok_nop, mo_nop⟩ (
  And.intro ⟨ok_nop, mo_nop⟩ (
  And.intro ⟨ok_aload_n dX8_isLetter_8 rfl rfl, mo_aload⟩ (
  And.intro ⟨ok_getR dX8_isLetter_9 hclX8 inWX8 (by decide) (by decide) wd_901 (fun _ _ _ => rfl) rfl, mo_getR⟩ (
  And.intro ⟨ok_nop, mo_nop⟩ (
  And.intro ⟨ok_nop, mo_nop⟩ (
  And.intro ⟨ok_iload_n dX8_isLetter_12 rfl rfl, mo_iload⟩ (
  And.intro ⟨ok_iald dX8_isLetter_13 rfl, mo_iald⟩ (
  And.intro ⟨ok_bipush dX8_isLetter_14 rfl bi_97, mo_push⟩ (
  And.intro ⟨ok_nop, mo_nop⟩ (
  trivial))))))))))))))))
theorem rX8_isLetter_1 : am_allR (fun pc o => am_ok am_tb0 cX8_isLetter RX8 2 (some .boolean) false pc o ∧ am_mo o) 16 (am_nth [] tX8_isLetter 1) :=
  And.intro ⟨ok_icmp_lt dX8_isLetter_16 (by decide) rfl, mo_icmp⟩ (
  And.intro ⟨ok_nop, mo_nop⟩ (
  And.intro ⟨ok_nop, mo_nop⟩ (
  And.intro ⟨ok_aload_n dX8_isLetter_19 rfl rfl, mo_aload⟩ (
  And.intro ⟨ok_getR dX8_isLetter_20 hclX8 inWX8 (by decide) (by decide) wd_901 (fun _ _ _ => rfl) rfl, mo_getR⟩ (
  And.intro ⟨ok_nop, mo_nop⟩ (
  And.intro ⟨ok_nop, mo_nop⟩ (
  And.intro ⟨ok_iload_n dX8_isLetter_23 rfl rfl, mo_iload⟩ (
  And.intro ⟨ok_iald dX8_isLetter_24 rfl, mo_iald⟩ (
  And.intro ⟨ok_bipush dX8_isLetter_25 rfl bi_122, mo_push⟩ (
  And.intro ⟨ok_nop, mo_nop⟩ (
  And.intro ⟨ok_icmp_gt dX8_isLetter_27 (by decide) rfl, mo_icmp⟩ (
  And.intro ⟨ok_nop, mo_nop⟩ (
  And.intro ⟨ok_nop, mo_nop⟩ (
  And.intro ⟨ok_iconst dX8_isLetter_30 rfl ic_1, mo_push⟩ (
  And.intro ⟨ok_goto dX8_isLetter_31 (by decide), mo_goto⟩ (
  trivial))))))))))))))))
theorem rX8_isLetter_2 : am_allR (fun pc o => am_ok am_tb0 cX8_isLetter RX8 2 (some .boolean) false pc o ∧ am_mo o) 32 (am_nth [] tX8_isLetter 2) :=
  And.intro ⟨ok_nop, mo_nop⟩ (
  And.intro ⟨ok_nop, mo_nop⟩ (
  And.intro ⟨ok_iconst dX8_isLetter_34 rfl ic_0, mo_push⟩ (
  And.intro ⟨ok_nret dX8_isLetter_35 rfl, mo_nret⟩ (
  And.intro ⟨ok_nop, mo_nop⟩ (
  And.intro ⟨ok_nop, mo_nop⟩ (
  And.intro ⟨ok_nop, mo_nop⟩ (
  And.intro ⟨ok_nop, mo_nop⟩ (
  And.intro ⟨ok_nop, mo_nop⟩ (
  And.intro ⟨ok_nop, mo_nop⟩ (
  And.intro ⟨ok_nop, mo_nop⟩ (
  And.intro ⟨ok_nop, mo_nop⟩ (
  And.intro ⟨ok_nop, mo_nop⟩ (
  And.intro ⟨ok_nop, mo_nop⟩ (
  And.intro ⟨ok_nop, mo_nop⟩ (
  And.intro ⟨ok_nop, mo_nop⟩ (
  trivial))))))))))))))))
theorem kX8_isLetter : am_M1 am_tb0 cX8_isLetter RX8 2 (some .boolean) false tX8_isLetter := And.intro rX8_isLetter_0 (And.intro rX8_isLetter_1 (And.intro rX8_isLetter_2 (trivial)))
def tX8_isFigure : List (List am_Op) := [[o_iload 1 1, o_aload 0 2, o_getI 8 38 11 5, am_nop, am_nop, o_icmp (fun x y => y ≤ x) 34 8, am_nop, am_nop, o_aload 0 9, o_getR 8 38 10 12, am_nop, am_nop, o_iload 1 13, o_iald 20 14, o_push (.int 48) 16, am_nop],
  [o_icmp (fun x y => x < y) 34 19, am_nop, am_nop, o_aload 0 20, o_getR 8 38 10 23, am_nop, am_nop, o_iload 1 24, o_iald 20 25, o_push (.int 57) 27, am_nop, o_icmp (fun x y => y < x) 34 30, am_nop, am_nop, o_push (.int 1) 31, o_goto 35],
  [am_nop, am_nop, o_push (.int 0) 35, o_nret .boolean, am_nop, am_nop, am_nop, am_nop, am_nop, am_nop, am_nop, am_nop, am_nop, am_nop, am_nop, am_nop]]
theorem rX8_isFigure_0 : am_allR (fun pc o => am_ok am_tb0 cX8_isFigure RX8 2 (some .boolean) false pc o ∧ am_mo o) 0 (am_nth [] tX8_isFigure 0) :=
  And.intro ⟨ok_iload_n dX8_isFigure_0 rfl rfl, mo_iload⟩ (
  And.intro ⟨ok_aload_n dX8_isFigure_1 rfl rfl, mo_aload⟩ (
  And.intro ⟨ok_getI dX8_isFigure_2 hclX8 inWX8 (by decide) (by decide) wd_902 (fun _ _ _ => rfl) rfl, mo_getI⟩ (
  And.intro ⟨ok_nop, mo_nop⟩ (
  And.intro ⟨ok_nop, mo_nop⟩ (
  And.intro ⟨ok_icmp_ge dX8_isFigure_5 (by decide) rfl, mo_icmp⟩ (
  And.intro ⟨ok_nop, mo_nop⟩ (
  And.intro ⟨ok_nop, mo_nop⟩ (
  And.intro ⟨ok_aload_n dX8_isFigure_8 rfl rfl, mo_aload⟩ (
  And.intro ⟨ok_getR dX8_isFigure_9 hclX8 inWX8 (by decide) (by decide) wd_901 (fun _ _ _ => rfl) rfl, mo_getR⟩ (
  And.intro ⟨ok_nop, mo_nop⟩ (
  And.intro ⟨ok_nop, mo_nop⟩ (
  And.intro ⟨ok_iload_n dX8_isFigure_12 rfl rfl, mo_iload⟩ (
  And.intro ⟨ok_iald dX8_isFigure_13 rfl, mo_iald⟩ (
  And.intro ⟨ok_bipush dX8_isFigure_14 rfl bi_48, mo_push⟩ (
  And.intro ⟨ok_nop, mo_nop⟩ (
  trivial))))))))))))))))
theorem rX8_isFigure_1 : am_allR (fun pc o => am_ok am_tb0 cX8_isFigure RX8 2 (some .boolean) false pc o ∧ am_mo o) 16 (am_nth [] tX8_isFigure 1) :=
  And.intro ⟨ok_icmp_lt dX8_isFigure_16 (by decide) rfl, mo_icmp⟩ (
  And.intro ⟨ok_nop, mo_nop⟩ (
  And.intro ⟨ok_nop, mo_nop⟩ (
  And.intro ⟨ok_aload_n dX8_isFigure_19 rfl rfl, mo_aload⟩ (
  And.intro ⟨ok_getR dX8_isFigure_20 hclX8 inWX8 (by decide) (by decide) wd_901 (fun _ _ _ => rfl) rfl, mo_getR⟩ (
  And.intro ⟨ok_nop, mo_nop⟩ (
  And.intro ⟨ok_nop, mo_nop⟩ (
  And.intro ⟨ok_iload_n dX8_isFigure_23 rfl rfl, mo_iload⟩ (
  And.intro ⟨ok_iald dX8_isFigure_24 rfl, mo_iald⟩ (
  And.intro ⟨ok_bipush dX8_isFigure_25 rfl bi_57, mo_push⟩ (
  And.intro ⟨ok_nop, mo_nop⟩ (
  And.intro ⟨ok_icmp_gt dX8_isFigure_27 (by decide) rfl, mo_icmp⟩ (
  And.intro ⟨ok_nop, mo_nop⟩ (
  And.intro ⟨ok_nop, mo_nop⟩ (
  And.intro ⟨ok_iconst dX8_isFigure_30 rfl ic_1, mo_push⟩ (
  And.intro ⟨ok_goto dX8_isFigure_31 (by decide), mo_goto⟩ (
  trivial))))))))))))))))
theorem rX8_isFigure_2 : am_allR (fun pc o => am_ok am_tb0 cX8_isFigure RX8 2 (some .boolean) false pc o ∧ am_mo o) 32 (am_nth [] tX8_isFigure 2) :=
  And.intro ⟨ok_nop, mo_nop⟩ (
  And.intro ⟨ok_nop, mo_nop⟩ (
  And.intro ⟨ok_iconst dX8_isFigure_34 rfl ic_0, mo_push⟩ (
  And.intro ⟨ok_nret dX8_isFigure_35 rfl, mo_nret⟩ (
  And.intro ⟨ok_nop, mo_nop⟩ (
  And.intro ⟨ok_nop, mo_nop⟩ (
  And.intro ⟨ok_nop, mo_nop⟩ (
  And.intro ⟨ok_nop, mo_nop⟩ (
  And.intro ⟨ok_nop, mo_nop⟩ (
  And.intro ⟨ok_nop, mo_nop⟩ (
  And.intro ⟨ok_nop, mo_nop⟩ (
  And.intro ⟨ok_nop, mo_nop⟩ (
  And.intro ⟨ok_nop, mo_nop⟩ (
  And.intro ⟨ok_nop, mo_nop⟩ (
  And.intro ⟨ok_nop, mo_nop⟩ (
  And.intro ⟨ok_nop, mo_nop⟩ (
  trivial))))))))))))))))
theorem kX8_isFigure : am_M1 am_tb0 cX8_isFigure RX8 2 (some .boolean) false tX8_isFigure := And.intro rX8_isFigure_0 (And.intro rX8_isFigure_1 (And.intro rX8_isFigure_2 (trivial)))
def tX8_go : List (List am_Op) := [[o_aload 0 1, o_getI 8 38 12 4, am_nop, am_nop, o_aload 0 5, o_getI 8 38 11 8, am_nop, am_nop, o_icmp (fun x y => y ≤ x) 38 11, am_nop, am_nop, o_aload 0 12, o_getR 8 38 10 15, am_nop, am_nop, o_aload 0 16],
  [o_getI 8 38 12 19, am_nop, am_nop, o_iald 20 20, o_push (.int 32) 22, am_nop, o_icmp (fun x y => ¬ x = y) 38 25, am_nop, am_nop, o_aload 0 26, o_dup 27, o_getI 8 38 12 30, am_nop, am_nop, o_push (.int 1) 31, o_bin (fun x y => x + y) 32],
  [o_putI 8 38 12 35, am_nop, am_nop, o_goto 0, am_nop, am_nop, o_aload 0 39, o_aload 0 40, o_getI 8 38 12 43, am_nop, am_nop, o_putI 8 38 13 46, am_nop, am_nop, o_aload 0 47, o_getI 8 38 13 50],
  [am_nop, am_nop, o_aload 0 51, o_getI 8 38 16 54, am_nop, am_nop, o_icmp (fun x y => ¬ x = y) 61 57, am_nop, am_nop, o_push (.int 1) 58, o_goto 62, am_nop, am_nop, o_push (.int 0) 62, o_istore 1 63, o_aload 0 64],
  [o_getI 8 38 13 67, am_nop, am_nop, o_aload 0 68, o_getI 8 38 11 71, am_nop, am_nop, o_icmp (fun x y => ¬ x = y) 82 74, am_nop, am_nop, o_aload 0 75, o_push (.int 0) 76, o_putI 8 38 14 79, am_nop, am_nop, o_goto 303],
  [am_nop, am_nop, o_aload 0 83, o_aload 0 84, o_getI 8 38 13 87, am_nop, am_nop, o_cv 8 38 172 2 0 1 90, am_nop, am_nop, o_if (fun x => x = 0) 154 93, am_nop, am_nop, o_aload 0 94, o_aload 0 95, o_getI 8 38 12 98],
  [am_nop, am_nop, o_cv 8 38 172 2 0 1 101, am_nop, am_nop, o_if (fun x => x = 0) 117 104, am_nop, am_nop, o_aload 0 105, o_dup 106, o_getI 8 38 12 109, am_nop, am_nop, o_push (.int 1) 110, o_bin (fun x y => x + y) 111, o_putI 8 38 12 114],
  [am_nop, am_nop, o_goto 93, am_nop, am_nop, o_aload 0 118, o_iload 1 119, o_if (fun x => x = 0) 126 122, am_nop, am_nop, o_push (.int 4) 123, o_goto 127, am_nop, am_nop, o_push (.int 1) 127, o_putI 8 38 14 130],
  [am_nop, am_nop, o_aload 0 131, o_aload 0 132, o_getR 8 38 10 135, am_nop, am_nop, o_aload 0 136, o_getI 8 38 13 139, am_nop, am_nop, o_iald 20 140, o_putI 8 38 15 143, am_nop, am_nop, o_aload 0 144],
  [o_aload 0 145, o_getI 8 38 12 148, am_nop, am_nop, o_putI 8 38 16 151, am_nop, am_nop, o_goto 303, am_nop, am_nop, o_aload 0 155, o_aload 0 156, o_getI 8 38 13 159, am_nop, am_nop, o_cv 8 38 173 2 0 1 162],
  [am_nop, am_nop, o_if (fun x => x = 0) 275 165, am_nop, am_nop, o_aload 0 166, o_push (.int 0) 167, o_putI 8 38 15 170, am_nop, am_nop, o_aload 0 171, o_aload 0 172, o_getI 8 38 12 175, am_nop, am_nop, o_cv 8 38 173 2 0 1 178],
  [am_nop, am_nop, o_if (fun x => x = 0) 238 181, am_nop, am_nop, o_aload 0 182, o_aload 0 183, o_getI 8 38 12 186, am_nop, am_nop, o_aload 0 187, o_getI 8 38 13 190, am_nop, am_nop, o_bin (fun x y => x - y) 191, o_push (.int 4) 192],
  [o_icmp (fun x y => y ≤ x) 218 195, am_nop, am_nop, o_push (.int 10) 197, am_nop, o_aload 0 198, o_getI 8 38 15 201, am_nop, am_nop, o_bin (fun x y => x * y) 202, o_aload 0 203, o_getR 8 38 10 206, am_nop, am_nop, o_aload 0 207, o_getI 8 38 12 210],
  [am_nop, am_nop, o_iald 20 211, o_bin (fun x y => x + y) 212, o_push (.int 48) 214, am_nop, o_bin (fun x y => x - y) 215, o_goto 222, am_nop, am_nop, o_aload 0 219, o_getI 8 38 15 222, am_nop, am_nop, o_putI 8 38 15 225, am_nop],
  [am_nop, o_aload 0 226, o_dup 227, o_getI 8 38 12 230, am_nop, am_nop, o_push (.int 1) 231, o_bin (fun x y => x + y) 232, o_putI 8 38 12 235, am_nop, am_nop, o_goto 170, am_nop, am_nop, o_aload 0 239, o_iload 1 240],
  [o_if (fun x => ¬ x = 0) 256 243, am_nop, am_nop, o_aload 0 244, o_getI 8 38 12 247, am_nop, am_nop, o_aload 0 248, o_getI 8 38 13 251, am_nop, am_nop, o_bin (fun x y => x - y) 252, o_push (.int 4) 253, o_icmp (fun x y => x ≤ y) 260 256, am_nop, am_nop],
  [o_push (.int 4) 257, o_goto 261, am_nop, am_nop, o_push (.int 2) 261, o_putI 8 38 14 264, am_nop, am_nop, o_aload 0 265, o_aload 0 266, o_getI 8 38 12 269, am_nop, am_nop, o_putI 8 38 16 272, am_nop, am_nop],
  [o_goto 303, am_nop, am_nop, o_aload 0 276, o_push (.int 3) 277, o_putI 8 38 14 280, am_nop, am_nop, o_aload 0 281, o_aload 0 282, o_getR 8 38 10 285, am_nop, am_nop, o_aload 0 286, o_getI 8 38 13 289, am_nop],
  [am_nop, o_iald 20 290, o_putI 8 38 15 293, am_nop, am_nop, o_aload 0 294, o_dup 295, o_getI 8 38 12 298, am_nop, am_nop, o_push (.int 1) 299, o_bin (fun x y => x + y) 300, o_putI 8 38 12 303, am_nop, am_nop, o_ret]]
theorem rX8_go_0 : am_allR (fun pc o => am_ok am_tb0 cX8_go RX8 2 none false pc o ∧ am_mo o) 0 (am_nth [] tX8_go 0) :=
  And.intro ⟨ok_aload_n dX8_go_0 rfl rfl, mo_aload⟩ (
  And.intro ⟨ok_getI dX8_go_1 hclX8 inWX8 (by decide) (by decide) wd_903 (fun _ _ _ => rfl) rfl, mo_getI⟩ (
  And.intro ⟨ok_nop, mo_nop⟩ (
  And.intro ⟨ok_nop, mo_nop⟩ (
  And.intro ⟨ok_aload_n dX8_go_4 rfl rfl, mo_aload⟩ (
  And.intro ⟨ok_getI dX8_go_5 hclX8 inWX8 (by decide) (by decide) wd_902 (fun _ _ _ => rfl) rfl, mo_getI⟩ (
  And.intro ⟨ok_nop, mo_nop⟩ (
  And.intro ⟨ok_nop, mo_nop⟩ (
  And.intro ⟨ok_icmp_ge dX8_go_8 (by decide) rfl, mo_icmp⟩ (
  And.intro ⟨ok_nop, mo_nop⟩ (
  And.intro ⟨ok_nop, mo_nop⟩ (
  And.intro ⟨ok_aload_n dX8_go_11 rfl rfl, mo_aload⟩ (
  And.intro ⟨ok_getR dX8_go_12 hclX8 inWX8 (by decide) (by decide) wd_901 (fun _ _ _ => rfl) rfl, mo_getR⟩ (
  And.intro ⟨ok_nop, mo_nop⟩ (
  And.intro ⟨ok_nop, mo_nop⟩ (
  And.intro ⟨ok_aload_n dX8_go_15 rfl rfl, mo_aload⟩ (
  trivial))))))))))))))))
theorem rX8_go_1 : am_allR (fun pc o => am_ok am_tb0 cX8_go RX8 2 none false pc o ∧ am_mo o) 16 (am_nth [] tX8_go 1) :=
  And.intro ⟨ok_getI dX8_go_16 hclX8 inWX8 (by decide) (by decide) wd_903 (fun _ _ _ => rfl) rfl, mo_getI⟩ (
  And.intro ⟨ok_nop, mo_nop⟩ (
  And.intro ⟨ok_nop, mo_nop⟩ (
  And.intro ⟨ok_iald dX8_go_19 rfl, mo_iald⟩ (
  And.intro ⟨ok_bipush dX8_go_20 rfl bi_32, mo_push⟩ (
  And.intro ⟨ok_nop, mo_nop⟩ (
  And.intro ⟨ok_icmp_ne dX8_go_22 (by decide) rfl, mo_icmp⟩ (
  And.intro ⟨ok_nop, mo_nop⟩ (
  And.intro ⟨ok_nop, mo_nop⟩ (
  And.intro ⟨ok_aload_n dX8_go_25 rfl rfl, mo_aload⟩ (
  And.intro ⟨ok_dup dX8_go_26 rfl, mo_dup⟩ (
  And.intro ⟨ok_getI dX8_go_27 hclX8 inWX8 (by decide) (by decide) wd_903 (fun _ _ _ => rfl) rfl, mo_getI⟩ (
  And.intro ⟨ok_nop, mo_nop⟩ (
  And.intro ⟨ok_nop, mo_nop⟩ (
  And.intro ⟨ok_iconst dX8_go_30 rfl ic_1, mo_push⟩ (
  And.intro ⟨ok_iadd dX8_go_31 rfl, mo_bin⟩ (
  trivial))))))))))))))))
theorem rX8_go_2 : am_allR (fun pc o => am_ok am_tb0 cX8_go RX8 2 none false pc o ∧ am_mo o) 32 (am_nth [] tX8_go 2) :=
  And.intro ⟨ok_putI dX8_go_32 hclX8 inWX8 tyX8_ok nmX8 (by decide) (by decide) wd_903 rfl (tyX8_ok 12 (by decide)) (fun _ _ _ => rfl) rfl, mo_putI⟩ (
  And.intro ⟨ok_nop, mo_nop⟩ (
  And.intro ⟨ok_nop, mo_nop⟩ (
  And.intro ⟨ok_goto dX8_go_35 (by decide), mo_goto⟩ (
  And.intro ⟨ok_nop, mo_nop⟩ (
  And.intro ⟨ok_nop, mo_nop⟩ (
  And.intro ⟨ok_aload_n dX8_go_38 rfl rfl, mo_aload⟩ (
  And.intro ⟨ok_aload_n dX8_go_39 rfl rfl, mo_aload⟩ (
  And.intro ⟨ok_getI dX8_go_40 hclX8 inWX8 (by decide) (by decide) wd_903 (fun _ _ _ => rfl) rfl, mo_getI⟩ (
  And.intro ⟨ok_nop, mo_nop⟩ (
  And.intro ⟨ok_nop, mo_nop⟩ (
  And.intro ⟨ok_putI dX8_go_43 hclX8 inWX8 tyX8_ok nmX8 (by decide) (by decide) wd_904 rfl (tyX8_ok 13 (by decide)) (fun _ _ _ => rfl) rfl, mo_putI⟩ (
  And.intro ⟨ok_nop, mo_nop⟩ (
  And.intro ⟨ok_nop, mo_nop⟩ (
  And.intro ⟨ok_aload_n dX8_go_46 rfl rfl, mo_aload⟩ (
  And.intro ⟨ok_getI dX8_go_47 hclX8 inWX8 (by decide) (by decide) wd_904 (fun _ _ _ => rfl) rfl, mo_getI⟩ (
  trivial))))))))))))))))
theorem rX8_go_3 : am_allR (fun pc o => am_ok am_tb0 cX8_go RX8 2 none false pc o ∧ am_mo o) 48 (am_nth [] tX8_go 3) :=
  And.intro ⟨ok_nop, mo_nop⟩ (
  And.intro ⟨ok_nop, mo_nop⟩ (
  And.intro ⟨ok_aload_n dX8_go_50 rfl rfl, mo_aload⟩ (
  And.intro ⟨ok_getI dX8_go_51 hclX8 inWX8 (by decide) (by decide) wd_907 (fun _ _ _ => rfl) rfl, mo_getI⟩ (
  And.intro ⟨ok_nop, mo_nop⟩ (
  And.intro ⟨ok_nop, mo_nop⟩ (
  And.intro ⟨ok_icmp_ne dX8_go_54 (by decide) rfl, mo_icmp⟩ (
  And.intro ⟨ok_nop, mo_nop⟩ (
  And.intro ⟨ok_nop, mo_nop⟩ (
  And.intro ⟨ok_iconst dX8_go_57 rfl ic_1, mo_push⟩ (
  And.intro ⟨ok_goto dX8_go_58 (by decide), mo_goto⟩ (
  And.intro ⟨ok_nop, mo_nop⟩ (
  And.intro ⟨ok_nop, mo_nop⟩ (
  And.intro ⟨ok_iconst dX8_go_61 rfl ic_0, mo_push⟩ (
  And.intro ⟨ok_istore_n dX8_go_62 rfl (by decide) rfl, mo_istore⟩ (
  And.intro ⟨ok_aload_n dX8_go_63 rfl rfl, mo_aload⟩ (
  trivial))))))))))))))))
theorem rX8_go_4 : am_allR (fun pc o => am_ok am_tb0 cX8_go RX8 2 none false pc o ∧ am_mo o) 64 (am_nth [] tX8_go 4) :=
  And.intro ⟨ok_getI dX8_go_64 hclX8 inWX8 (by decide) (by decide) wd_904 (fun _ _ _ => rfl) rfl, mo_getI⟩ (
  And.intro ⟨ok_nop, mo_nop⟩ (
  And.intro ⟨ok_nop, mo_nop⟩ (
  And.intro ⟨ok_aload_n dX8_go_67 rfl rfl, mo_aload⟩ (
  And.intro ⟨ok_getI dX8_go_68 hclX8 inWX8 (by decide) (by decide) wd_902 (fun _ _ _ => rfl) rfl, mo_getI⟩ (
  And.intro ⟨ok_nop, mo_nop⟩ (
  And.intro ⟨ok_nop, mo_nop⟩ (
  And.intro ⟨ok_icmp_ne dX8_go_71 (by decide) rfl, mo_icmp⟩ (
  And.intro ⟨ok_nop, mo_nop⟩ (
  And.intro ⟨ok_nop, mo_nop⟩ (
  And.intro ⟨ok_aload_n dX8_go_74 rfl rfl, mo_aload⟩ (
  And.intro ⟨ok_iconst dX8_go_75 rfl ic_0, mo_push⟩ (
  And.intro ⟨ok_putI dX8_go_76 hclX8 inWX8 tyX8_ok nmX8 (by decide) (by decide) wd_905 rfl (tyX8_ok 14 (by decide)) (fun _ _ _ => rfl) rfl, mo_putI⟩ (
  And.intro ⟨ok_nop, mo_nop⟩ (
  And.intro ⟨ok_nop, mo_nop⟩ (
  And.intro ⟨ok_goto dX8_go_79 (by decide), mo_goto⟩ (
  trivial))))))))))))))))
theorem rX8_go_5 : am_allR (fun pc o => am_ok am_tb0 cX8_go RX8 2 none false pc o ∧ am_mo o) 80 (am_nth [] tX8_go 5) :=
  And.intro ⟨ok_nop, mo_nop⟩ (
  And.intro ⟨ok_nop, mo_nop⟩ (
  And.intro ⟨ok_aload_n dX8_go_82 rfl rfl, mo_aload⟩ (
  And.intro ⟨ok_aload_n dX8_go_83 rfl rfl, mo_aload⟩ (
  And.intro ⟨ok_getI dX8_go_84 hclX8 inWX8 (by decide) (by decide) wd_904 (fun _ _ _ => rfl) rfl, mo_getI⟩ (
  And.intro ⟨ok_nop, mo_nop⟩ (
  And.intro ⟨ok_nop, mo_nop⟩ (
  And.intro ⟨ok_cv (z := 172) dX8_go_87 hclX8 (by decide) wd_1262 wd_1264 wp_45 wd_8 wd_1265 rfl (by decide) ⟨rfl, hy_X8_isLetter⟩ rfl, mo_cv⟩ (
  And.intro ⟨ok_nop, mo_nop⟩ (
  And.intro ⟨ok_nop, mo_nop⟩ (
  And.intro ⟨ok_if_eq dX8_go_90 (by decide) rfl, mo_if⟩ (
  And.intro ⟨ok_nop, mo_nop⟩ (
  And.intro ⟨ok_nop, mo_nop⟩ (
  And.intro ⟨ok_aload_n dX8_go_93 rfl rfl, mo_aload⟩ (
  And.intro ⟨ok_aload_n dX8_go_94 rfl rfl, mo_aload⟩ (
  And.intro ⟨ok_getI dX8_go_95 hclX8 inWX8 (by decide) (by decide) wd_903 (fun _ _ _ => rfl) rfl, mo_getI⟩ (
  trivial))))))))))))))))
theorem rX8_go_6 : am_allR (fun pc o => am_ok am_tb0 cX8_go RX8 2 none false pc o ∧ am_mo o) 96 (am_nth [] tX8_go 6) :=
  And.intro ⟨ok_nop, mo_nop⟩ (
  And.intro ⟨ok_nop, mo_nop⟩ (
  And.intro ⟨ok_cv (z := 172) dX8_go_98 hclX8 (by decide) wd_1262 wd_1264 wp_45 wd_8 wd_1265 rfl (by decide) ⟨rfl, hy_X8_isLetter⟩ rfl, mo_cv⟩ (
  And.intro ⟨ok_nop, mo_nop⟩ (
  And.intro ⟨ok_nop, mo_nop⟩ (
  And.intro ⟨ok_if_eq dX8_go_101 (by decide) rfl, mo_if⟩ (
  And.intro ⟨ok_nop, mo_nop⟩ (
  And.intro ⟨ok_nop, mo_nop⟩ (
  And.intro ⟨ok_aload_n dX8_go_104 rfl rfl, mo_aload⟩ (
  And.intro ⟨ok_dup dX8_go_105 rfl, mo_dup⟩ (
  And.intro ⟨ok_getI dX8_go_106 hclX8 inWX8 (by decide) (by decide) wd_903 (fun _ _ _ => rfl) rfl, mo_getI⟩ (
  And.intro ⟨ok_nop, mo_nop⟩ (
  And.intro ⟨ok_nop, mo_nop⟩ (
  And.intro ⟨ok_iconst dX8_go_109 rfl ic_1, mo_push⟩ (
  And.intro ⟨ok_iadd dX8_go_110 rfl, mo_bin⟩ (
  And.intro ⟨ok_putI dX8_go_111 hclX8 inWX8 tyX8_ok nmX8 (by decide) (by decide) wd_903 rfl (tyX8_ok 12 (by decide)) (fun _ _ _ => rfl) rfl, mo_putI⟩ (
  trivial))))))))))))))))
theorem rX8_go_7 : am_allR (fun pc o => am_ok am_tb0 cX8_go RX8 2 none false pc o ∧ am_mo o) 112 (am_nth [] tX8_go 7) :=
  And.intro ⟨ok_nop, mo_nop⟩ (
  And.intro ⟨ok_nop, mo_nop⟩ (
  And.intro ⟨ok_goto dX8_go_114 (by decide), mo_goto⟩ (
  And.intro ⟨ok_nop, mo_nop⟩ (
  And.intro ⟨ok_nop, mo_nop⟩ (
  And.intro ⟨ok_aload_n dX8_go_117 rfl rfl, mo_aload⟩ (
  And.intro ⟨ok_iload_n dX8_go_118 rfl rfl, mo_iload⟩ (
  And.intro ⟨ok_if_eq dX8_go_119 (by decide) rfl, mo_if⟩ (
  And.intro ⟨ok_nop, mo_nop⟩ (
  And.intro ⟨ok_nop, mo_nop⟩ (
  And.intro ⟨ok_iconst dX8_go_122 rfl ic_4, mo_push⟩ (
  And.intro ⟨ok_goto dX8_go_123 (by decide), mo_goto⟩ (
  And.intro ⟨ok_nop, mo_nop⟩ (
  And.intro ⟨ok_nop, mo_nop⟩ (
  And.intro ⟨ok_iconst dX8_go_126 rfl ic_1, mo_push⟩ (
  And.intro ⟨ok_putI dX8_go_127 hclX8 inWX8 tyX8_ok nmX8 (by decide) (by decide) wd_905 rfl (tyX8_ok 14 (by decide)) (fun _ _ _ => rfl) rfl, mo_putI⟩ (
  trivial))))))))))))))))
theorem rX8_go_8 : am_allR (fun pc o => am_ok am_tb0 cX8_go RX8 2 none false pc o ∧ am_mo o) 128 (am_nth [] tX8_go 8) :=
  And.intro ⟨ok_nop, mo_nop⟩ (
  And.intro ⟨ok_nop, mo_nop⟩ (
  And.intro ⟨ok_aload_n dX8_go_130 rfl rfl, mo_aload⟩ (
  And.intro ⟨ok_aload_n dX8_go_131 rfl rfl, mo_aload⟩ (
  And.intro ⟨ok_getR dX8_go_132 hclX8 inWX8 (by decide) (by decide) wd_901 (fun _ _ _ => rfl) rfl, mo_getR⟩ (
  And.intro ⟨ok_nop, mo_nop⟩ (
  And.intro ⟨ok_nop, mo_nop⟩ (
  And.intro ⟨ok_aload_n dX8_go_135 rfl rfl, mo_aload⟩ (
  And.intro ⟨ok_getI dX8_go_136 hclX8 inWX8 (by decide) (by decide) wd_904 (fun _ _ _ => rfl) rfl, mo_getI⟩ (
  And.intro ⟨ok_nop, mo_nop⟩ (
  And.intro ⟨ok_nop, mo_nop⟩ (
  And.intro ⟨ok_iald dX8_go_139 rfl, mo_iald⟩ (
  And.intro ⟨ok_putI dX8_go_140 hclX8 inWX8 tyX8_ok nmX8 (by decide) (by decide) wd_906 rfl (tyX8_ok 15 (by decide)) (fun _ _ _ => rfl) rfl, mo_putI⟩ (
  And.intro ⟨ok_nop, mo_nop⟩ (
  And.intro ⟨ok_nop, mo_nop⟩ (
  And.intro ⟨ok_aload_n dX8_go_143 rfl rfl, mo_aload⟩ (
  trivial))))))))))))))))
theorem rX8_go_9 : am_allR (fun pc o => am_ok am_tb0 cX8_go RX8 2 none false pc o ∧ am_mo o) 144 (am_nth [] tX8_go 9) :=
  And.intro ⟨ok_aload_n dX8_go_144 rfl rfl, mo_aload⟩ (
  And.intro ⟨ok_getI dX8_go_145 hclX8 inWX8 (by decide) (by decide) wd_903 (fun _ _ _ => rfl) rfl, mo_getI⟩ (
  And.intro ⟨ok_nop, mo_nop⟩ (
  And.intro ⟨ok_nop, mo_nop⟩ (
  And.intro ⟨ok_putI dX8_go_148 hclX8 inWX8 tyX8_ok nmX8 (by decide) (by decide) wd_907 rfl (tyX8_ok 16 (by decide)) (fun _ _ _ => rfl) rfl, mo_putI⟩ (
  And.intro ⟨ok_nop, mo_nop⟩ (
  And.intro ⟨ok_nop, mo_nop⟩ (
  And.intro ⟨ok_goto dX8_go_151 (by decide), mo_goto⟩ (
  And.intro ⟨ok_nop, mo_nop⟩ (
  And.intro ⟨ok_nop, mo_nop⟩ (
  And.intro ⟨ok_aload_n dX8_go_154 rfl rfl, mo_aload⟩ (
  And.intro ⟨ok_aload_n dX8_go_155 rfl rfl, mo_aload⟩ (
  And.intro ⟨ok_getI dX8_go_156 hclX8 inWX8 (by decide) (by decide) wd_904 (fun _ _ _ => rfl) rfl, mo_getI⟩ (
  And.intro ⟨ok_nop, mo_nop⟩ (
  And.intro ⟨ok_nop, mo_nop⟩ (
  And.intro ⟨ok_cv (z := 173) dX8_go_159 hclX8 (by decide) wd_1266 wd_1268 wp_46 wd_8 wd_1269 rfl (by decide) ⟨rfl, hy_X8_isFigure⟩ rfl, mo_cv⟩ (
  trivial))))))))))))))))
theorem rX8_go_10 : am_allR (fun pc o => am_ok am_tb0 cX8_go RX8 2 none false pc o ∧ am_mo o) 160 (am_nth [] tX8_go 10) :=
  And.intro ⟨ok_nop, mo_nop⟩ (
  And.intro ⟨ok_nop, mo_nop⟩ (
  And.intro ⟨ok_if_eq dX8_go_162 (by decide) rfl, mo_if⟩ (
  And.intro ⟨ok_nop, mo_nop⟩ (
  And.intro ⟨ok_nop, mo_nop⟩ (
  And.intro ⟨ok_aload_n dX8_go_165 rfl rfl, mo_aload⟩ (
  And.intro ⟨ok_iconst dX8_go_166 rfl ic_0, mo_push⟩ (
  And.intro ⟨ok_putI dX8_go_167 hclX8 inWX8 tyX8_ok nmX8 (by decide) (by decide) wd_906 rfl (tyX8_ok 15 (by decide)) (fun _ _ _ => rfl) rfl, mo_putI⟩ (
  And.intro ⟨ok_nop, mo_nop⟩ (
  And.intro ⟨ok_nop, mo_nop⟩ (
  And.intro ⟨ok_aload_n dX8_go_170 rfl rfl, mo_aload⟩ (
  And.intro ⟨ok_aload_n dX8_go_171 rfl rfl, mo_aload⟩ (
  And.intro ⟨ok_getI dX8_go_172 hclX8 inWX8 (by decide) (by decide) wd_903 (fun _ _ _ => rfl) rfl, mo_getI⟩ (
  And.intro ⟨ok_nop, mo_nop⟩ (
  And.intro ⟨ok_nop, mo_nop⟩ (
  And.intro ⟨ok_cv (z := 173) dX8_go_175 hclX8 (by decide) wd_1266 wd_1268 wp_46 wd_8 wd_1269 rfl (by decide) ⟨rfl, hy_X8_isFigure⟩ rfl, mo_cv⟩ (
  trivial))))))))))))))))
theorem rX8_go_11 : am_allR (fun pc o => am_ok am_tb0 cX8_go RX8 2 none false pc o ∧ am_mo o) 176 (am_nth [] tX8_go 11) :=
  And.intro ⟨ok_nop, mo_nop⟩ (
  And.intro ⟨ok_nop, mo_nop⟩ (
  And.intro ⟨ok_if_eq dX8_go_178 (by decide) rfl, mo_if⟩ (
  And.intro ⟨ok_nop, mo_nop⟩ (
  And.intro ⟨ok_nop, mo_nop⟩ (
  And.intro ⟨ok_aload_n dX8_go_181 rfl rfl, mo_aload⟩ (
  And.intro ⟨ok_aload_n dX8_go_182 rfl rfl, mo_aload⟩ (
  And.intro ⟨ok_getI dX8_go_183 hclX8 inWX8 (by decide) (by decide) wd_903 (fun _ _ _ => rfl) rfl, mo_getI⟩ (
  And.intro ⟨ok_nop, mo_nop⟩ (
  And.intro ⟨ok_nop, mo_nop⟩ (
  And.intro ⟨ok_aload_n dX8_go_186 rfl rfl, mo_aload⟩ (
  And.intro ⟨ok_getI dX8_go_187 hclX8 inWX8 (by decide) (by decide) wd_904 (fun _ _ _ => rfl) rfl, mo_getI⟩ (
  And.intro ⟨ok_nop, mo_nop⟩ (
  And.intro ⟨ok_nop, mo_nop⟩ (
  And.intro ⟨ok_isub dX8_go_190 rfl, mo_bin⟩ (
  And.intro ⟨ok_iconst dX8_go_191 rfl ic_4, mo_push⟩ (
  trivial))))))))))))))))
theorem rX8_go_12 : am_allR (fun pc o => am_ok am_tb0 cX8_go RX8 2 none false pc o ∧ am_mo o) 192 (am_nth [] tX8_go 12) :=
  And.intro ⟨ok_icmp_ge dX8_go_192 (by decide) rfl, mo_icmp⟩ (
  And.intro ⟨ok_nop, mo_nop⟩ (
  And.intro ⟨ok_nop, mo_nop⟩ (
  And.intro ⟨ok_bipush dX8_go_195 rfl bi_10, mo_push⟩ (
  And.intro ⟨ok_nop, mo_nop⟩ (
  And.intro ⟨ok_aload_n dX8_go_197 rfl rfl, mo_aload⟩ (
  And.intro ⟨ok_getI dX8_go_198 hclX8 inWX8 (by decide) (by decide) wd_906 (fun _ _ _ => rfl) rfl, mo_getI⟩ (
  And.intro ⟨ok_nop, mo_nop⟩ (
  And.intro ⟨ok_nop, mo_nop⟩ (
  And.intro ⟨ok_imul dX8_go_201 rfl, mo_bin⟩ (
  And.intro ⟨ok_aload_n dX8_go_202 rfl rfl, mo_aload⟩ (
  And.intro ⟨ok_getR dX8_go_203 hclX8 inWX8 (by decide) (by decide) wd_901 (fun _ _ _ => rfl) rfl, mo_getR⟩ (
  And.intro ⟨ok_nop, mo_nop⟩ (
  And.intro ⟨ok_nop, mo_nop⟩ (
  And.intro ⟨ok_aload_n dX8_go_206 rfl rfl, mo_aload⟩ (
  And.intro ⟨ok_getI dX8_go_207 hclX8 inWX8 (by decide) (by decide) wd_903 (fun _ _ _ => rfl) rfl, mo_getI⟩ (
  trivial))))))))))))))))
theorem rX8_go_13 : am_allR (fun pc o => am_ok am_tb0 cX8_go RX8 2 none false pc o ∧ am_mo o) 208 (am_nth [] tX8_go 13) :=
  And.intro ⟨ok_nop, mo_nop⟩ (
  And.intro ⟨ok_nop, mo_nop⟩ (
  And.intro ⟨ok_iald dX8_go_210 rfl, mo_iald⟩ (
  And.intro ⟨ok_iadd dX8_go_211 rfl, mo_bin⟩ (
  And.intro ⟨ok_bipush dX8_go_212 rfl bi_48, mo_push⟩ (
  And.intro ⟨ok_nop, mo_nop⟩ (
  And.intro ⟨ok_isub dX8_go_214 rfl, mo_bin⟩ (
  And.intro ⟨ok_goto dX8_go_215 (by decide), mo_goto⟩ (
  And.intro ⟨ok_nop, mo_nop⟩ (
  And.intro ⟨ok_nop, mo_nop⟩ (
  And.intro ⟨ok_aload_n dX8_go_218 rfl rfl, mo_aload⟩ (
  And.intro ⟨ok_getI dX8_go_219 hclX8 inWX8 (by decide) (by decide) wd_906 (fun _ _ _ => rfl) rfl, mo_getI⟩ (
  And.intro ⟨ok_nop, mo_nop⟩ (
  And.intro ⟨ok_nop, mo_nop⟩ (
  And.intro ⟨ok_putI dX8_go_222 hclX8 inWX8 tyX8_ok nmX8 (by decide) (by decide) wd_906 rfl (tyX8_ok 15 (by decide)) (fun _ _ _ => rfl) rfl, mo_putI⟩ (
  And.intro ⟨ok_nop, mo_nop⟩ (
  trivial))))))))))))))))
theorem rX8_go_14 : am_allR (fun pc o => am_ok am_tb0 cX8_go RX8 2 none false pc o ∧ am_mo o) 224 (am_nth [] tX8_go 14) :=
  And.intro ⟨ok_nop, mo_nop⟩ (
  And.intro ⟨ok_aload_n dX8_go_225 rfl rfl, mo_aload⟩ (
  And.intro ⟨ok_dup dX8_go_226 rfl, mo_dup⟩ (
  And.intro ⟨ok_getI dX8_go_227 hclX8 inWX8 (by decide) (by decide) wd_903 (fun _ _ _ => rfl) rfl, mo_getI⟩ (
  And.intro ⟨ok_nop, mo_nop⟩ (
  And.intro ⟨ok_nop, mo_nop⟩ (
  And.intro ⟨ok_iconst dX8_go_230 rfl ic_1, mo_push⟩ (
  And.intro ⟨ok_iadd dX8_go_231 rfl, mo_bin⟩ (
  And.intro ⟨ok_putI dX8_go_232 hclX8 inWX8 tyX8_ok nmX8 (by decide) (by decide) wd_903 rfl (tyX8_ok 12 (by decide)) (fun _ _ _ => rfl) rfl, mo_putI⟩ (
  And.intro ⟨ok_nop, mo_nop⟩ (
  And.intro ⟨ok_nop, mo_nop⟩ (
  And.intro ⟨ok_goto dX8_go_235 (by decide), mo_goto⟩ (
  And.intro ⟨ok_nop, mo_nop⟩ (
  And.intro ⟨ok_nop, mo_nop⟩ (
  And.intro ⟨ok_aload_n dX8_go_238 rfl rfl, mo_aload⟩ (
  And.intro ⟨ok_iload_n dX8_go_239 rfl rfl, mo_iload⟩ (
  trivial))))))))))))))))
theorem rX8_go_15 : am_allR (fun pc o => am_ok am_tb0 cX8_go RX8 2 none false pc o ∧ am_mo o) 240 (am_nth [] tX8_go 15) :=
  And.intro ⟨ok_if_ne dX8_go_240 (by decide) rfl, mo_if⟩ (
  And.intro ⟨ok_nop, mo_nop⟩ (
  And.intro ⟨ok_nop, mo_nop⟩ (
  And.intro ⟨ok_aload_n dX8_go_243 rfl rfl, mo_aload⟩ (
  And.intro ⟨ok_getI dX8_go_244 hclX8 inWX8 (by decide) (by decide) wd_903 (fun _ _ _ => rfl) rfl, mo_getI⟩ (
  And.intro ⟨ok_nop, mo_nop⟩ (
  And.intro ⟨ok_nop, mo_nop⟩ (
  And.intro ⟨ok_aload_n dX8_go_247 rfl rfl, mo_aload⟩ (
  And.intro ⟨ok_getI dX8_go_248 hclX8 inWX8 (by decide) (by decide) wd_904 (fun _ _ _ => rfl) rfl, mo_getI⟩ (
  And.intro ⟨ok_nop, mo_nop⟩ (
  And.intro ⟨ok_nop, mo_nop⟩ (
  And.intro ⟨ok_isub dX8_go_251 rfl, mo_bin⟩ (
  And.intro ⟨ok_iconst dX8_go_252 rfl ic_4, mo_push⟩ (
  And.intro ⟨ok_icmp_le dX8_go_253 (by decide) rfl, mo_icmp⟩ (
  And.intro ⟨ok_nop, mo_nop⟩ (
  And.intro ⟨ok_nop, mo_nop⟩ (
  trivial))))))))))))))))
theorem rX8_go_16 : am_allR (fun pc o => am_ok am_tb0 cX8_go RX8 2 none false pc o ∧ am_mo o) 256 (am_nth [] tX8_go 16) :=
  And.intro ⟨ok_iconst dX8_go_256 rfl ic_4, mo_push⟩ (
  And.intro ⟨ok_goto dX8_go_257 (by decide), mo_goto⟩ (
  And.intro ⟨ok_nop, mo_nop⟩ (
  And.intro ⟨ok_nop, mo_nop⟩ (
  And.intro ⟨ok_iconst dX8_go_260 rfl ic_2, mo_push⟩ (
  And.intro ⟨ok_putI dX8_go_261 hclX8 inWX8 tyX8_ok nmX8 (by decide) (by decide) wd_905 rfl (tyX8_ok 14 (by decide)) (fun _ _ _ => rfl) rfl, mo_putI⟩ (
  And.intro ⟨ok_nop, mo_nop⟩ (
  And.intro ⟨ok_nop, mo_nop⟩ (
  And.intro ⟨ok_aload_n dX8_go_264 rfl rfl, mo_aload⟩ (
  And.intro ⟨ok_aload_n dX8_go_265 rfl rfl, mo_aload⟩ (
  And.intro ⟨ok_getI dX8_go_266 hclX8 inWX8 (by decide) (by decide) wd_903 (fun _ _ _ => rfl) rfl, mo_getI⟩ (
  And.intro ⟨ok_nop, mo_nop⟩ (
  And.intro ⟨ok_nop, mo_nop⟩ (
  And.intro ⟨ok_putI dX8_go_269 hclX8 inWX8 tyX8_ok nmX8 (by decide) (by decide) wd_907 rfl (tyX8_ok 16 (by decide)) (fun _ _ _ => rfl) rfl, mo_putI⟩ (
  And.intro ⟨ok_nop, mo_nop⟩ (
  And.intro ⟨ok_nop, mo_nop⟩ (
  trivial))))))))))))))))
theorem rX8_go_17 : am_allR (fun pc o => am_ok am_tb0 cX8_go RX8 2 none false pc o ∧ am_mo o) 272 (am_nth [] tX8_go 17) :=
  And.intro ⟨ok_goto dX8_go_272 (by decide), mo_goto⟩ (
  And.intro ⟨ok_nop, mo_nop⟩ (
  And.intro ⟨ok_nop, mo_nop⟩ (
  And.intro ⟨ok_aload_n dX8_go_275 rfl rfl, mo_aload⟩ (
  And.intro ⟨ok_iconst dX8_go_276 rfl ic_3, mo_push⟩ (
  And.intro ⟨ok_putI dX8_go_277 hclX8 inWX8 tyX8_ok nmX8 (by decide) (by decide) wd_905 rfl (tyX8_ok 14 (by decide)) (fun _ _ _ => rfl) rfl, mo_putI⟩ (
  And.intro ⟨ok_nop, mo_nop⟩ (
  And.intro ⟨ok_nop, mo_nop⟩ (
  And.intro ⟨ok_aload_n dX8_go_280 rfl rfl, mo_aload⟩ (
  And.intro ⟨ok_aload_n dX8_go_281 rfl rfl, mo_aload⟩ (
  And.intro ⟨ok_getR dX8_go_282 hclX8 inWX8 (by decide) (by decide) wd_901 (fun _ _ _ => rfl) rfl, mo_getR⟩ (
  And.intro ⟨ok_nop, mo_nop⟩ (
  And.intro ⟨ok_nop, mo_nop⟩ (
  And.intro ⟨ok_aload_n dX8_go_285 rfl rfl, mo_aload⟩ (
  And.intro ⟨ok_getI dX8_go_286 hclX8 inWX8 (by decide) (by decide) wd_904 (fun _ _ _ => rfl) rfl, mo_getI⟩ (
  And.intro ⟨ok_nop, mo_nop⟩ (
  trivial))))))))))))))))
theorem rX8_go_18 : am_allR (fun pc o => am_ok am_tb0 cX8_go RX8 2 none false pc o ∧ am_mo o) 288 (am_nth [] tX8_go 18) :=
  And.intro ⟨ok_nop, mo_nop⟩ (
  And.intro ⟨ok_iald dX8_go_289 rfl, mo_iald⟩ (
  And.intro ⟨ok_putI dX8_go_290 hclX8 inWX8 tyX8_ok nmX8 (by decide) (by decide) wd_906 rfl (tyX8_ok 15 (by decide)) (fun _ _ _ => rfl) rfl, mo_putI⟩ (
  And.intro ⟨ok_nop, mo_nop⟩ (
  And.intro ⟨ok_nop, mo_nop⟩ (
  And.intro ⟨ok_aload_n dX8_go_293 rfl rfl, mo_aload⟩ (
  And.intro ⟨ok_dup dX8_go_294 rfl, mo_dup⟩ (
  And.intro ⟨ok_getI dX8_go_295 hclX8 inWX8 (by decide) (by decide) wd_903 (fun _ _ _ => rfl) rfl, mo_getI⟩ (
  And.intro ⟨ok_nop, mo_nop⟩ (
  And.intro ⟨ok_nop, mo_nop⟩ (
  And.intro ⟨ok_iconst dX8_go_298 rfl ic_1, mo_push⟩ (
  And.intro ⟨ok_iadd dX8_go_299 rfl, mo_bin⟩ (
  And.intro ⟨ok_putI dX8_go_300 hclX8 inWX8 tyX8_ok nmX8 (by decide) (by decide) wd_903 rfl (tyX8_ok 12 (by decide)) (fun _ _ _ => rfl) rfl, mo_putI⟩ (
  And.intro ⟨ok_nop, mo_nop⟩ (
  And.intro ⟨ok_nop, mo_nop⟩ (
  And.intro ⟨ok_ret dX8_go_303 rfl, mo_ret⟩ (
  trivial))))))))))))))))
theorem kX8_go : am_M1 am_tb0 cX8_go RX8 2 none false tX8_go := And.intro rX8_go_0 (And.intro rX8_go_1 (And.intro rX8_go_2 (And.intro rX8_go_3 (And.intro rX8_go_4 (And.intro rX8_go_5 (And.intro rX8_go_6 (And.intro rX8_go_7 (And.intro rX8_go_8 (And.intro rX8_go_9 (And.intro rX8_go_10 (And.intro rX8_go_11 (And.intro rX8_go_12 (And.intro rX8_go_13 (And.intro rX8_go_14 (And.intro rX8_go_15 (And.intro rX8_go_16 (And.intro rX8_go_17 (And.intro rX8_go_18 (trivial)))))))))))))))))))
def tX8_takesKey : List (List am_Op) := [[o_aload 0 1, o_getI 8 38 14 4, am_nop, am_nop, o_push (.int 1) 5, o_icmp (fun x y => x = y) 10 8, am_nop, am_nop, o_push (.int 0) 9, o_nret .boolean, o_push (.int 0) 11, o_istore 1 12, o_iload 1 13, o_push (.int 3) 14, o_icmp (fun x y => y ≤ x) 127 17, am_nop],
  [am_nop, o_aload 0 18, o_getR 8 38 19 21, am_nop, am_nop, o_iload 1 22, o_push (.int 1) 23, o_bin (fun x y => x + y) 24, o_iald 20 25, o_aload 0 26, o_getR 8 38 19 29, am_nop, am_nop, o_iload 1 30, o_iald 20 31, o_bin (fun x y => x - y) 32],
  [o_istore 2 33, o_iload 2 34, o_aload 0 35, o_getI 8 38 12 38, am_nop, am_nop, o_aload 0 39, o_getI 8 38 13 42, am_nop, am_nop, o_bin (fun x y => x - y) 43, o_icmp (fun x y => ¬ x = y) 50 46, am_nop, am_nop, o_push (.int 1) 47, o_goto 51],
  [am_nop, am_nop, o_push (.int 0) 51, o_istore 3 52, o_push (.int 0) 53, o_istore 4 55, am_nop, o_iload 4 57, am_nop, o_iload 2 58, o_icmp (fun x y => y ≤ x) 106 61, am_nop, am_nop, o_iload 3 62, o_if (fun x => x = 0) 106 65, am_nop],
  [am_nop, o_aload 0 66, o_getR 8 38 10 69, am_nop, am_nop, o_aload 0 70, o_getI 8 38 13 73, am_nop, am_nop, o_iload 4 75, am_nop, o_bin (fun x y => x + y) 76, o_iald 20 77, o_aload 0 78, o_getR 8 38 18 81, am_nop],
  [am_nop, o_aload 0 82, o_getR 8 38 19 85, am_nop, am_nop, o_iload 1 86, o_iald 20 87, o_iload 4 89, am_nop, o_bin (fun x y => x + y) 90, o_iald 23 91, o_icmp (fun x y => ¬ x = y) 98 94, am_nop, am_nop, o_push (.int 1) 95, o_goto 99],
  [am_nop, am_nop, o_push (.int 0) 99, o_istore 3 100, o_iinc 4 1 103, am_nop, am_nop, o_goto 55, am_nop, am_nop, o_iload 3 107, o_if (fun x => x = 0) 121 110, am_nop, am_nop, o_aload 0 111, o_iload 1 112],
  [o_putI 8 38 17 115, am_nop, am_nop, o_aload 0 116, o_cv 8 38 174 2 1 0 119, am_nop, am_nop, o_push (.int 1) 120, o_nret .boolean, o_iinc 1 1 124, am_nop, am_nop, o_goto 12, am_nop, am_nop, o_push (.int 0) 128],
  [o_nret .boolean, am_nop, am_nop, am_nop, am_nop, am_nop, am_nop, am_nop, am_nop, am_nop, am_nop, am_nop, am_nop, am_nop, am_nop, am_nop]]
theorem rX8_takesKey_0 : am_allR (fun pc o => am_ok am_tb0 cX8_takesKey RX8 5 (some .boolean) false pc o ∧ am_mo o) 0 (am_nth [] tX8_takesKey 0) :=
  And.intro ⟨ok_aload_n dX8_takesKey_0 rfl rfl, mo_aload⟩ (
  And.intro ⟨ok_getI dX8_takesKey_1 hclX8 inWX8 (by decide) (by decide) wd_905 (fun _ _ _ => rfl) rfl, mo_getI⟩ (
  And.intro ⟨ok_nop, mo_nop⟩ (
  And.intro ⟨ok_nop, mo_nop⟩ (
  And.intro ⟨ok_iconst dX8_takesKey_4 rfl ic_1, mo_push⟩ (
  And.intro ⟨ok_icmp_eq dX8_takesKey_5 (by decide) rfl, mo_icmp⟩ (
  And.intro ⟨ok_nop, mo_nop⟩ (
  And.intro ⟨ok_nop, mo_nop⟩ (
  And.intro ⟨ok_iconst dX8_takesKey_8 rfl ic_0, mo_push⟩ (
  And.intro ⟨ok_nret dX8_takesKey_9 rfl, mo_nret⟩ (
  And.intro ⟨ok_iconst dX8_takesKey_10 rfl ic_0, mo_push⟩ (
  And.intro ⟨ok_istore_n dX8_takesKey_11 rfl (by decide) rfl, mo_istore⟩ (
  And.intro ⟨ok_iload_n dX8_takesKey_12 rfl rfl, mo_iload⟩ (
  And.intro ⟨ok_iconst dX8_takesKey_13 rfl ic_3, mo_push⟩ (
  And.intro ⟨ok_icmp_ge dX8_takesKey_14 (by decide) rfl, mo_icmp⟩ (
  And.intro ⟨ok_nop, mo_nop⟩ (
  trivial))))))))))))))))
theorem rX8_takesKey_1 : am_allR (fun pc o => am_ok am_tb0 cX8_takesKey RX8 5 (some .boolean) false pc o ∧ am_mo o) 16 (am_nth [] tX8_takesKey 1) :=
  And.intro ⟨ok_nop, mo_nop⟩ (
  And.intro ⟨ok_aload_n dX8_takesKey_17 rfl rfl, mo_aload⟩ (
  And.intro ⟨ok_getR dX8_takesKey_18 hclX8 inWX8 (by decide) (by decide) wd_910 (fun _ _ _ => rfl) rfl, mo_getR⟩ (
  And.intro ⟨ok_nop, mo_nop⟩ (
  And.intro ⟨ok_nop, mo_nop⟩ (
  And.intro ⟨ok_iload_n dX8_takesKey_21 rfl rfl, mo_iload⟩ (
  And.intro ⟨ok_iconst dX8_takesKey_22 rfl ic_1, mo_push⟩ (
  And.intro ⟨ok_iadd dX8_takesKey_23 rfl, mo_bin⟩ (
  And.intro ⟨ok_iald dX8_takesKey_24 rfl, mo_iald⟩ (
  And.intro ⟨ok_aload_n dX8_takesKey_25 rfl rfl, mo_aload⟩ (
  And.intro ⟨ok_getR dX8_takesKey_26 hclX8 inWX8 (by decide) (by decide) wd_910 (fun _ _ _ => rfl) rfl, mo_getR⟩ (
  And.intro ⟨ok_nop, mo_nop⟩ (
  And.intro ⟨ok_nop, mo_nop⟩ (
  And.intro ⟨ok_iload_n dX8_takesKey_29 rfl rfl, mo_iload⟩ (
  And.intro ⟨ok_iald dX8_takesKey_30 rfl, mo_iald⟩ (
  And.intro ⟨ok_isub dX8_takesKey_31 rfl, mo_bin⟩ (
  trivial))))))))))))))))
theorem rX8_takesKey_2 : am_allR (fun pc o => am_ok am_tb0 cX8_takesKey RX8 5 (some .boolean) false pc o ∧ am_mo o) 32 (am_nth [] tX8_takesKey 2) :=
  And.intro ⟨ok_istore_n dX8_takesKey_32 rfl (by decide) rfl, mo_istore⟩ (
  And.intro ⟨ok_iload_n dX8_takesKey_33 rfl rfl, mo_iload⟩ (
  And.intro ⟨ok_aload_n dX8_takesKey_34 rfl rfl, mo_aload⟩ (
  And.intro ⟨ok_getI dX8_takesKey_35 hclX8 inWX8 (by decide) (by decide) wd_903 (fun _ _ _ => rfl) rfl, mo_getI⟩ (
  And.intro ⟨ok_nop, mo_nop⟩ (
  And.intro ⟨ok_nop, mo_nop⟩ (
  And.intro ⟨ok_aload_n dX8_takesKey_38 rfl rfl, mo_aload⟩ (
  And.intro ⟨ok_getI dX8_takesKey_39 hclX8 inWX8 (by decide) (by decide) wd_904 (fun _ _ _ => rfl) rfl, mo_getI⟩ (
  And.intro ⟨ok_nop, mo_nop⟩ (
  And.intro ⟨ok_nop, mo_nop⟩ (
  And.intro ⟨ok_isub dX8_takesKey_42 rfl, mo_bin⟩ (
  And.intro ⟨ok_icmp_ne dX8_takesKey_43 (by decide) rfl, mo_icmp⟩ (
  And.intro ⟨ok_nop, mo_nop⟩ (
  And.intro ⟨ok_nop, mo_nop⟩ (
  And.intro ⟨ok_iconst dX8_takesKey_46 rfl ic_1, mo_push⟩ (
  And.intro ⟨ok_goto dX8_takesKey_47 (by decide), mo_goto⟩ (
  trivial))))))))))))))))
theorem rX8_takesKey_3 : am_allR (fun pc o => am_ok am_tb0 cX8_takesKey RX8 5 (some .boolean) false pc o ∧ am_mo o) 48 (am_nth [] tX8_takesKey 3) :=
  And.intro ⟨ok_nop, mo_nop⟩ (
  And.intro ⟨ok_nop, mo_nop⟩ (
  And.intro ⟨ok_iconst dX8_takesKey_50 rfl ic_0, mo_push⟩ (
  And.intro ⟨ok_istore_n dX8_takesKey_51 rfl (by decide) rfl, mo_istore⟩ (
  And.intro ⟨ok_iconst dX8_takesKey_52 rfl ic_0, mo_push⟩ (
  And.intro ⟨ok_istore dX8_takesKey_53 (by decide) rfl, mo_istore⟩ (
  And.intro ⟨ok_nop, mo_nop⟩ (
  And.intro ⟨ok_iload dX8_takesKey_55 rfl, mo_iload⟩ (
  And.intro ⟨ok_nop, mo_nop⟩ (
  And.intro ⟨ok_iload_n dX8_takesKey_57 rfl rfl, mo_iload⟩ (
  And.intro ⟨ok_icmp_ge dX8_takesKey_58 (by decide) rfl, mo_icmp⟩ (
  And.intro ⟨ok_nop, mo_nop⟩ (
  And.intro ⟨ok_nop, mo_nop⟩ (
  And.intro ⟨ok_iload_n dX8_takesKey_61 rfl rfl, mo_iload⟩ (
  And.intro ⟨ok_if_eq dX8_takesKey_62 (by decide) rfl, mo_if⟩ (
  And.intro ⟨ok_nop, mo_nop⟩ (
  trivial))))))))))))))))
theorem rX8_takesKey_4 : am_allR (fun pc o => am_ok am_tb0 cX8_takesKey RX8 5 (some .boolean) false pc o ∧ am_mo o) 64 (am_nth [] tX8_takesKey 4) :=
  And.intro ⟨ok_nop, mo_nop⟩ (
  And.intro ⟨ok_aload_n dX8_takesKey_65 rfl rfl, mo_aload⟩ (
  And.intro ⟨ok_getR dX8_takesKey_66 hclX8 inWX8 (by decide) (by decide) wd_901 (fun _ _ _ => rfl) rfl, mo_getR⟩ (
  And.intro ⟨ok_nop, mo_nop⟩ (
  And.intro ⟨ok_nop, mo_nop⟩ (
  And.intro ⟨ok_aload_n dX8_takesKey_69 rfl rfl, mo_aload⟩ (
  And.intro ⟨ok_getI dX8_takesKey_70 hclX8 inWX8 (by decide) (by decide) wd_904 (fun _ _ _ => rfl) rfl, mo_getI⟩ (
  And.intro ⟨ok_nop, mo_nop⟩ (
  And.intro ⟨ok_nop, mo_nop⟩ (
  And.intro ⟨ok_iload dX8_takesKey_73 rfl, mo_iload⟩ (
  And.intro ⟨ok_nop, mo_nop⟩ (
  And.intro ⟨ok_iadd dX8_takesKey_75 rfl, mo_bin⟩ (
  And.intro ⟨ok_iald dX8_takesKey_76 rfl, mo_iald⟩ (
  And.intro ⟨ok_aload_n dX8_takesKey_77 rfl rfl, mo_aload⟩ (
  And.intro ⟨ok_getR dX8_takesKey_78 hclX8 inWX8 (by decide) (by decide) wd_909 (fun _ _ _ => rfl) rfl, mo_getR⟩ (
  And.intro ⟨ok_nop, mo_nop⟩ (
  trivial))))))))))))))))
theorem rX8_takesKey_5 : am_allR (fun pc o => am_ok am_tb0 cX8_takesKey RX8 5 (some .boolean) false pc o ∧ am_mo o) 80 (am_nth [] tX8_takesKey 5) :=
  And.intro ⟨ok_nop, mo_nop⟩ (
  And.intro ⟨ok_aload_n dX8_takesKey_81 rfl rfl, mo_aload⟩ (
  And.intro ⟨ok_getR dX8_takesKey_82 hclX8 inWX8 (by decide) (by decide) wd_910 (fun _ _ _ => rfl) rfl, mo_getR⟩ (
  And.intro ⟨ok_nop, mo_nop⟩ (
  And.intro ⟨ok_nop, mo_nop⟩ (
  And.intro ⟨ok_iload_n dX8_takesKey_85 rfl rfl, mo_iload⟩ (
  And.intro ⟨ok_iald dX8_takesKey_86 rfl, mo_iald⟩ (
  And.intro ⟨ok_iload dX8_takesKey_87 rfl, mo_iload⟩ (
  And.intro ⟨ok_nop, mo_nop⟩ (
  And.intro ⟨ok_iadd dX8_takesKey_89 rfl, mo_bin⟩ (
  And.intro ⟨ok_cald dX8_takesKey_90 rfl, mo_iald⟩ (
  And.intro ⟨ok_icmp_ne dX8_takesKey_91 (by decide) rfl, mo_icmp⟩ (
  And.intro ⟨ok_nop, mo_nop⟩ (
  And.intro ⟨ok_nop, mo_nop⟩ (
  And.intro ⟨ok_iconst dX8_takesKey_94 rfl ic_1, mo_push⟩ (
  And.intro ⟨ok_goto dX8_takesKey_95 (by decide), mo_goto⟩ (
  trivial))))))))))))))))
theorem rX8_takesKey_6 : am_allR (fun pc o => am_ok am_tb0 cX8_takesKey RX8 5 (some .boolean) false pc o ∧ am_mo o) 96 (am_nth [] tX8_takesKey 6) :=
  And.intro ⟨ok_nop, mo_nop⟩ (
  And.intro ⟨ok_nop, mo_nop⟩ (
  And.intro ⟨ok_iconst dX8_takesKey_98 rfl ic_0, mo_push⟩ (
  And.intro ⟨ok_istore_n dX8_takesKey_99 rfl (by decide) rfl, mo_istore⟩ (
  And.intro ⟨ok_iinc dX8_takesKey_100 ic_1 (by decide) rfl, mo_iinc⟩ (
  And.intro ⟨ok_nop, mo_nop⟩ (
  And.intro ⟨ok_nop, mo_nop⟩ (
  And.intro ⟨ok_goto dX8_takesKey_103 (by decide), mo_goto⟩ (
  And.intro ⟨ok_nop, mo_nop⟩ (
  And.intro ⟨ok_nop, mo_nop⟩ (
  And.intro ⟨ok_iload_n dX8_takesKey_106 rfl rfl, mo_iload⟩ (
  And.intro ⟨ok_if_eq dX8_takesKey_107 (by decide) rfl, mo_if⟩ (
  And.intro ⟨ok_nop, mo_nop⟩ (
  And.intro ⟨ok_nop, mo_nop⟩ (
  And.intro ⟨ok_aload_n dX8_takesKey_110 rfl rfl, mo_aload⟩ (
  And.intro ⟨ok_iload_n dX8_takesKey_111 rfl rfl, mo_iload⟩ (
  trivial))))))))))))))))
theorem rX8_takesKey_7 : am_allR (fun pc o => am_ok am_tb0 cX8_takesKey RX8 5 (some .boolean) false pc o ∧ am_mo o) 112 (am_nth [] tX8_takesKey 7) :=
  And.intro ⟨ok_putI dX8_takesKey_112 hclX8 inWX8 tyX8_ok nmX8 (by decide) (by decide) wd_908 rfl (tyX8_ok 17 (by decide)) (fun _ _ _ => rfl) rfl, mo_putI⟩ (
  And.intro ⟨ok_nop, mo_nop⟩ (
  And.intro ⟨ok_nop, mo_nop⟩ (
  And.intro ⟨ok_aload_n dX8_takesKey_115 rfl rfl, mo_aload⟩ (
  And.intro ⟨ok_cv (z := 174) dX8_takesKey_116 hclX8 (by decide) wd_1258 wd_1260 wp_44 wd_8 wd_1261 rfl (by decide) ⟨rfl, hy_X8_go⟩ rfl, mo_cv⟩ (
  And.intro ⟨ok_nop, mo_nop⟩ (
  And.intro ⟨ok_nop, mo_nop⟩ (
  And.intro ⟨ok_iconst dX8_takesKey_119 rfl ic_1, mo_push⟩ (
  And.intro ⟨ok_nret dX8_takesKey_120 rfl, mo_nret⟩ (
  And.intro ⟨ok_iinc dX8_takesKey_121 ic_1 (by decide) rfl, mo_iinc⟩ (
  And.intro ⟨ok_nop, mo_nop⟩ (
  And.intro ⟨ok_nop, mo_nop⟩ (
  And.intro ⟨ok_goto dX8_takesKey_124 (by decide), mo_goto⟩ (
  And.intro ⟨ok_nop, mo_nop⟩ (
  And.intro ⟨ok_nop, mo_nop⟩ (
  And.intro ⟨ok_iconst dX8_takesKey_127 rfl ic_0, mo_push⟩ (
  trivial))))))))))))))))
theorem rX8_takesKey_8 : am_allR (fun pc o => am_ok am_tb0 cX8_takesKey RX8 5 (some .boolean) false pc o ∧ am_mo o) 128 (am_nth [] tX8_takesKey 8) :=
  And.intro ⟨ok_nret dX8_takesKey_128 rfl, mo_nret⟩ (
  And.intro ⟨ok_nop, mo_nop⟩ (
  And.intro ⟨ok_nop, mo_nop⟩ (
  And.intro ⟨ok_nop, mo_nop⟩ (
  And.intro ⟨ok_nop, mo_nop⟩ (
  And.intro ⟨ok_nop, mo_nop⟩ (
  And.intro ⟨ok_nop, mo_nop⟩ (
  And.intro ⟨ok_nop, mo_nop⟩ (
  And.intro ⟨ok_nop, mo_nop⟩ (
  And.intro ⟨ok_nop, mo_nop⟩ (
  And.intro ⟨ok_nop, mo_nop⟩ (
  And.intro ⟨ok_nop, mo_nop⟩ (
  And.intro ⟨ok_nop, mo_nop⟩ (
  And.intro ⟨ok_nop, mo_nop⟩ (
  And.intro ⟨ok_nop, mo_nop⟩ (
  And.intro ⟨ok_nop, mo_nop⟩ (
  trivial))))))))))))))))
theorem kX8_takesKey : am_M1 am_tb0 cX8_takesKey RX8 5 (some .boolean) false tX8_takesKey := And.intro rX8_takesKey_0 (And.intro rX8_takesKey_1 (And.intro rX8_takesKey_2 (And.intro rX8_takesKey_3 (And.intro rX8_takesKey_4 (And.intro rX8_takesKey_5 (And.intro rX8_takesKey_6 (And.intro rX8_takesKey_7 (And.intro rX8_takesKey_8 (trivial)))))))))
def tX8_nameOf : List (List am_Op) := [[o_aload 0 1, o_getI 8 38 17 4, am_nop, am_nop, o_sw [(0, 32), (1, 54)] 86, am_nop, am_nop, am_nop, am_nop, am_nop, am_nop, am_nop, am_nop, am_nop, am_nop, am_nop],
  [am_nop, am_nop, am_nop, am_nop, am_nop, am_nop, am_nop, am_nop, am_nop, am_nop, am_nop, am_nop, am_nop, am_nop, am_nop, am_nop],
  [o_iload 1 33, o_push (.int 100) 35, am_nop, o_icmp (fun x y => ¬ x = y) 42 38, am_nop, am_nop, o_push (.int 0) 39, o_goto 53, am_nop, am_nop, o_iload 1 43, o_push (.int 111) 45, am_nop, o_icmp (fun x y => ¬ x = y) 52 48, am_nop, am_nop],
  [o_push (.int 1) 49, o_goto 53, am_nop, am_nop, o_push (.int (-1)) 53, o_iret, o_iload 1 55, o_push (.int 120) 57, am_nop, o_icmp (fun x y => ¬ x = y) 64 60, am_nop, am_nop, o_push (.int 0) 61, o_goto 85, am_nop, am_nop],
  [o_iload 1 65, o_push (.int 100) 67, am_nop, o_icmp (fun x y => ¬ x = y) 74 70, am_nop, am_nop, o_push (.int 1) 71, o_goto 85, am_nop, am_nop, o_iload 1 75, o_push (.int 97) 77, am_nop, o_icmp (fun x y => ¬ x = y) 84 80, am_nop, am_nop],
  [o_push (.int 2) 81, o_goto 85, am_nop, am_nop, o_push (.int (-1)) 85, o_iret, o_iload 1 87, o_push (.int 101) 89, am_nop, o_icmp (fun x y => ¬ x = y) 96 92, am_nop, am_nop, o_push (.int 0) 93, o_goto 107, am_nop, am_nop],
  [o_iload 1 97, o_push (.int 108) 99, am_nop, o_icmp (fun x y => ¬ x = y) 106 102, am_nop, am_nop, o_push (.int 1) 103, o_goto 107, am_nop, am_nop, o_push (.int (-1)) 107, o_iret, am_nop, am_nop, am_nop, am_nop]]
theorem rX8_nameOf_0 : am_allR (fun pc o => am_ok am_tb0 cX8_nameOf RX8 2 (some .int) false pc o ∧ am_mo o) 0 (am_nth [] tX8_nameOf 0) :=
  And.intro ⟨ok_aload_n dX8_nameOf_0 rfl rfl, mo_aload⟩ (
  And.intro ⟨ok_getI dX8_nameOf_1 hclX8 inWX8 (by decide) (by decide) wd_908 (fun _ _ _ => rfl) rfl, mo_getI⟩ (
  And.intro ⟨ok_nop, mo_nop⟩ (
  And.intro ⟨ok_nop, mo_nop⟩ (
  And.intro ⟨ok_lookup dX8_nameOf_4 (by decide +kernel) (by decide) (by decide +kernel), mo_sw⟩ (
  And.intro ⟨ok_nop, mo_nop⟩ (
  And.intro ⟨ok_nop, mo_nop⟩ (
  And.intro ⟨ok_nop, mo_nop⟩ (
  And.intro ⟨ok_nop, mo_nop⟩ (
  And.intro ⟨ok_nop, mo_nop⟩ (
  And.intro ⟨ok_nop, mo_nop⟩ (
  And.intro ⟨ok_nop, mo_nop⟩ (
  And.intro ⟨ok_nop, mo_nop⟩ (
  And.intro ⟨ok_nop, mo_nop⟩ (
  And.intro ⟨ok_nop, mo_nop⟩ (
  And.intro ⟨ok_nop, mo_nop⟩ (
  trivial))))))))))))))))
theorem rX8_nameOf_1 : am_allR (fun pc o => am_ok am_tb0 cX8_nameOf RX8 2 (some .int) false pc o ∧ am_mo o) 16 (am_nth [] tX8_nameOf 1) :=
  And.intro ⟨ok_nop, mo_nop⟩ (
  And.intro ⟨ok_nop, mo_nop⟩ (
  And.intro ⟨ok_nop, mo_nop⟩ (
  And.intro ⟨ok_nop, mo_nop⟩ (
  And.intro ⟨ok_nop, mo_nop⟩ (
  And.intro ⟨ok_nop, mo_nop⟩ (
  And.intro ⟨ok_nop, mo_nop⟩ (
  And.intro ⟨ok_nop, mo_nop⟩ (
  And.intro ⟨ok_nop, mo_nop⟩ (
  And.intro ⟨ok_nop, mo_nop⟩ (
  And.intro ⟨ok_nop, mo_nop⟩ (
  And.intro ⟨ok_nop, mo_nop⟩ (
  And.intro ⟨ok_nop, mo_nop⟩ (
  And.intro ⟨ok_nop, mo_nop⟩ (
  And.intro ⟨ok_nop, mo_nop⟩ (
  And.intro ⟨ok_nop, mo_nop⟩ (
  trivial))))))))))))))))
theorem rX8_nameOf_2 : am_allR (fun pc o => am_ok am_tb0 cX8_nameOf RX8 2 (some .int) false pc o ∧ am_mo o) 32 (am_nth [] tX8_nameOf 2) :=
  And.intro ⟨ok_iload_n dX8_nameOf_32 rfl rfl, mo_iload⟩ (
  And.intro ⟨ok_bipush dX8_nameOf_33 rfl bi_100, mo_push⟩ (
  And.intro ⟨ok_nop, mo_nop⟩ (
  And.intro ⟨ok_icmp_ne dX8_nameOf_35 (by decide) rfl, mo_icmp⟩ (
  And.intro ⟨ok_nop, mo_nop⟩ (
  And.intro ⟨ok_nop, mo_nop⟩ (
  And.intro ⟨ok_iconst dX8_nameOf_38 rfl ic_0, mo_push⟩ (
  And.intro ⟨ok_goto dX8_nameOf_39 (by decide), mo_goto⟩ (
  And.intro ⟨ok_nop, mo_nop⟩ (
  And.intro ⟨ok_nop, mo_nop⟩ (
  And.intro ⟨ok_iload_n dX8_nameOf_42 rfl rfl, mo_iload⟩ (
  And.intro ⟨ok_bipush dX8_nameOf_43 rfl bi_111, mo_push⟩ (
  And.intro ⟨ok_nop, mo_nop⟩ (
  And.intro ⟨ok_icmp_ne dX8_nameOf_45 (by decide) rfl, mo_icmp⟩ (
  And.intro ⟨ok_nop, mo_nop⟩ (
  And.intro ⟨ok_nop, mo_nop⟩ (
  trivial))))))))))))))))
theorem rX8_nameOf_3 : am_allR (fun pc o => am_ok am_tb0 cX8_nameOf RX8 2 (some .int) false pc o ∧ am_mo o) 48 (am_nth [] tX8_nameOf 3) :=
  And.intro ⟨ok_iconst dX8_nameOf_48 rfl ic_1, mo_push⟩ (
  And.intro ⟨ok_goto dX8_nameOf_49 (by decide), mo_goto⟩ (
  And.intro ⟨ok_nop, mo_nop⟩ (
  And.intro ⟨ok_nop, mo_nop⟩ (
  And.intro ⟨ok_iconst dX8_nameOf_52 rfl ic_m1, mo_push⟩ (
  And.intro ⟨ok_iret dX8_nameOf_53 rfl, mo_iret⟩ (
  And.intro ⟨ok_iload_n dX8_nameOf_54 rfl rfl, mo_iload⟩ (
  And.intro ⟨ok_bipush dX8_nameOf_55 rfl bi_120, mo_push⟩ (
  And.intro ⟨ok_nop, mo_nop⟩ (
  And.intro ⟨ok_icmp_ne dX8_nameOf_57 (by decide) rfl, mo_icmp⟩ (
  And.intro ⟨ok_nop, mo_nop⟩ (
  And.intro ⟨ok_nop, mo_nop⟩ (
  And.intro ⟨ok_iconst dX8_nameOf_60 rfl ic_0, mo_push⟩ (
  And.intro ⟨ok_goto dX8_nameOf_61 (by decide), mo_goto⟩ (
  And.intro ⟨ok_nop, mo_nop⟩ (
  And.intro ⟨ok_nop, mo_nop⟩ (
  trivial))))))))))))))))
theorem rX8_nameOf_4 : am_allR (fun pc o => am_ok am_tb0 cX8_nameOf RX8 2 (some .int) false pc o ∧ am_mo o) 64 (am_nth [] tX8_nameOf 4) :=
  And.intro ⟨ok_iload_n dX8_nameOf_64 rfl rfl, mo_iload⟩ (
  And.intro ⟨ok_bipush dX8_nameOf_65 rfl bi_100, mo_push⟩ (
  And.intro ⟨ok_nop, mo_nop⟩ (
  And.intro ⟨ok_icmp_ne dX8_nameOf_67 (by decide) rfl, mo_icmp⟩ (
  And.intro ⟨ok_nop, mo_nop⟩ (
  And.intro ⟨ok_nop, mo_nop⟩ (
  And.intro ⟨ok_iconst dX8_nameOf_70 rfl ic_1, mo_push⟩ (
  And.intro ⟨ok_goto dX8_nameOf_71 (by decide), mo_goto⟩ (
  And.intro ⟨ok_nop, mo_nop⟩ (
  And.intro ⟨ok_nop, mo_nop⟩ (
  And.intro ⟨ok_iload_n dX8_nameOf_74 rfl rfl, mo_iload⟩ (
  And.intro ⟨ok_bipush dX8_nameOf_75 rfl bi_97, mo_push⟩ (
  And.intro ⟨ok_nop, mo_nop⟩ (
  And.intro ⟨ok_icmp_ne dX8_nameOf_77 (by decide) rfl, mo_icmp⟩ (
  And.intro ⟨ok_nop, mo_nop⟩ (
  And.intro ⟨ok_nop, mo_nop⟩ (
  trivial))))))))))))))))
theorem rX8_nameOf_5 : am_allR (fun pc o => am_ok am_tb0 cX8_nameOf RX8 2 (some .int) false pc o ∧ am_mo o) 80 (am_nth [] tX8_nameOf 5) :=
  And.intro ⟨ok_iconst dX8_nameOf_80 rfl ic_2, mo_push⟩ (
  And.intro ⟨ok_goto dX8_nameOf_81 (by decide), mo_goto⟩ (
  And.intro ⟨ok_nop, mo_nop⟩ (
  And.intro ⟨ok_nop, mo_nop⟩ (
  And.intro ⟨ok_iconst dX8_nameOf_84 rfl ic_m1, mo_push⟩ (
  And.intro ⟨ok_iret dX8_nameOf_85 rfl, mo_iret⟩ (
  And.intro ⟨ok_iload_n dX8_nameOf_86 rfl rfl, mo_iload⟩ (
  And.intro ⟨ok_bipush dX8_nameOf_87 rfl bi_101, mo_push⟩ (
  And.intro ⟨ok_nop, mo_nop⟩ (
  And.intro ⟨ok_icmp_ne dX8_nameOf_89 (by decide) rfl, mo_icmp⟩ (
  And.intro ⟨ok_nop, mo_nop⟩ (
  And.intro ⟨ok_nop, mo_nop⟩ (
  And.intro ⟨ok_iconst dX8_nameOf_92 rfl ic_0, mo_push⟩ (
  And.intro ⟨ok_goto dX8_nameOf_93 (by decide), mo_goto⟩ (
  And.intro ⟨ok_nop, mo_nop⟩ (
  And.intro ⟨ok_nop, mo_nop⟩ (
  trivial))))))))))))))))
theorem rX8_nameOf_6 : am_allR (fun pc o => am_ok am_tb0 cX8_nameOf RX8 2 (some .int) false pc o ∧ am_mo o) 96 (am_nth [] tX8_nameOf 6) :=
  And.intro ⟨ok_iload_n dX8_nameOf_96 rfl rfl, mo_iload⟩ (
  And.intro ⟨ok_bipush dX8_nameOf_97 rfl bi_108, mo_push⟩ (
  And.intro ⟨ok_nop, mo_nop⟩ (
  And.intro ⟨ok_icmp_ne dX8_nameOf_99 (by decide) rfl, mo_icmp⟩ (
  And.intro ⟨ok_nop, mo_nop⟩ (
  And.intro ⟨ok_nop, mo_nop⟩ (
  And.intro ⟨ok_iconst dX8_nameOf_102 rfl ic_1, mo_push⟩ (
  And.intro ⟨ok_goto dX8_nameOf_103 (by decide), mo_goto⟩ (
  And.intro ⟨ok_nop, mo_nop⟩ (
  And.intro ⟨ok_nop, mo_nop⟩ (
  And.intro ⟨ok_iconst dX8_nameOf_106 rfl ic_m1, mo_push⟩ (
  And.intro ⟨ok_iret dX8_nameOf_107 rfl, mo_iret⟩ (
  And.intro ⟨ok_nop, mo_nop⟩ (
  And.intro ⟨ok_nop, mo_nop⟩ (
  And.intro ⟨ok_nop, mo_nop⟩ (
  And.intro ⟨ok_nop, mo_nop⟩ (
  trivial))))))))))))))))
theorem kX8_nameOf : am_M1 am_tb0 cX8_nameOf RX8 2 (some .int) false tX8_nameOf := And.intro rX8_nameOf_0 (And.intro rX8_nameOf_1 (And.intro rX8_nameOf_2 (And.intro rX8_nameOf_3 (And.intro rX8_nameOf_4 (And.intro rX8_nameOf_5 (And.intro rX8_nameOf_6 (trivial)))))))
def tX8_rank : List (List am_Op) := [[o_iload 0 1, o_push (.int (-1)) 2, o_icmp (fun x y => ¬ x = y) 9 5, am_nop, am_nop, o_push (.int 1) 6, o_goto 51, am_nop, am_nop, o_iload 0 10, o_push (.int (-2)) 12, am_nop, o_icmp (fun x y => ¬ x = y) 19 15, am_nop, am_nop, o_push (.int 2) 16],
  [o_goto 51, am_nop, am_nop, o_iload 0 20, o_push (.int (-5)) 22, am_nop, o_icmp (fun x y => x < y) 29 25, am_nop, am_nop, o_push (.int 3) 26, o_goto 51, am_nop, am_nop, o_iload 0 30, o_push (.int (-7)) 32, am_nop],
  [o_icmp (fun x y => x < y) 39 35, am_nop, am_nop, o_push (.int 4) 36, o_goto 51, am_nop, am_nop, o_iload 0 40, o_push (.int (-9)) 42, am_nop, o_icmp (fun x y => x < y) 49 45, am_nop, am_nop, o_push (.int 5) 46, o_goto 51, am_nop],
  [am_nop, o_push (.int 6) 51, am_nop, o_iret, am_nop, am_nop, am_nop, am_nop, am_nop, am_nop, am_nop, am_nop, am_nop, am_nop, am_nop, am_nop]]
theorem rX8_rank_0 : am_allR (fun pc o => am_ok am_tb0 cX8_rank RX8 1 (some .int) false pc o ∧ am_mo o) 0 (am_nth [] tX8_rank 0) :=
  And.intro ⟨ok_iload_n dX8_rank_0 rfl rfl, mo_iload⟩ (
  And.intro ⟨ok_iconst dX8_rank_1 rfl ic_m1, mo_push⟩ (
  And.intro ⟨ok_icmp_ne dX8_rank_2 (by decide) rfl, mo_icmp⟩ (
  And.intro ⟨ok_nop, mo_nop⟩ (
  And.intro ⟨ok_nop, mo_nop⟩ (
  And.intro ⟨ok_iconst dX8_rank_5 rfl ic_1, mo_push⟩ (
  And.intro ⟨ok_goto dX8_rank_6 (by decide), mo_goto⟩ (
  And.intro ⟨ok_nop, mo_nop⟩ (
  And.intro ⟨ok_nop, mo_nop⟩ (
  And.intro ⟨ok_iload_n dX8_rank_9 rfl rfl, mo_iload⟩ (
  And.intro ⟨ok_bipush dX8_rank_10 rfl bi_m2, mo_push⟩ (
  And.intro ⟨ok_nop, mo_nop⟩ (
  And.intro ⟨ok_icmp_ne dX8_rank_12 (by decide) rfl, mo_icmp⟩ (
  And.intro ⟨ok_nop, mo_nop⟩ (
  And.intro ⟨ok_nop, mo_nop⟩ (
  And.intro ⟨ok_iconst dX8_rank_15 rfl ic_2, mo_push⟩ (
  trivial))))))))))))))))
theorem rX8_rank_1 : am_allR (fun pc o => am_ok am_tb0 cX8_rank RX8 1 (some .int) false pc o ∧ am_mo o) 16 (am_nth [] tX8_rank 1) :=
  And.intro ⟨ok_goto dX8_rank_16 (by decide), mo_goto⟩ (
  And.intro ⟨ok_nop, mo_nop⟩ (
  And.intro ⟨ok_nop, mo_nop⟩ (
  And.intro ⟨ok_iload_n dX8_rank_19 rfl rfl, mo_iload⟩ (
  And.intro ⟨ok_bipush dX8_rank_20 rfl bi_m5, mo_push⟩ (
  And.intro ⟨ok_nop, mo_nop⟩ (
  And.intro ⟨ok_icmp_lt dX8_rank_22 (by decide) rfl, mo_icmp⟩ (
  And.intro ⟨ok_nop, mo_nop⟩ (
  And.intro ⟨ok_nop, mo_nop⟩ (
  And.intro ⟨ok_iconst dX8_rank_25 rfl ic_3, mo_push⟩ (
  And.intro ⟨ok_goto dX8_rank_26 (by decide), mo_goto⟩ (
  And.intro ⟨ok_nop, mo_nop⟩ (
  And.intro ⟨ok_nop, mo_nop⟩ (
  And.intro ⟨ok_iload_n dX8_rank_29 rfl rfl, mo_iload⟩ (
  And.intro ⟨ok_bipush dX8_rank_30 rfl bi_m7, mo_push⟩ (
  And.intro ⟨ok_nop, mo_nop⟩ (
  trivial))))))))))))))))
theorem rX8_rank_2 : am_allR (fun pc o => am_ok am_tb0 cX8_rank RX8 1 (some .int) false pc o ∧ am_mo o) 32 (am_nth [] tX8_rank 2) :=
  And.intro ⟨ok_icmp_lt dX8_rank_32 (by decide) rfl, mo_icmp⟩ (
  And.intro ⟨ok_nop, mo_nop⟩ (
  And.intro ⟨ok_nop, mo_nop⟩ (
  And.intro ⟨ok_iconst dX8_rank_35 rfl ic_4, mo_push⟩ (
  And.intro ⟨ok_goto dX8_rank_36 (by decide), mo_goto⟩ (
  And.intro ⟨ok_nop, mo_nop⟩ (
  And.intro ⟨ok_nop, mo_nop⟩ (
  And.intro ⟨ok_iload_n dX8_rank_39 rfl rfl, mo_iload⟩ (
  And.intro ⟨ok_bipush dX8_rank_40 rfl bi_m9, mo_push⟩ (
  And.intro ⟨ok_nop, mo_nop⟩ (
  And.intro ⟨ok_icmp_lt dX8_rank_42 (by decide) rfl, mo_icmp⟩ (
  And.intro ⟨ok_nop, mo_nop⟩ (
  And.intro ⟨ok_nop, mo_nop⟩ (
  And.intro ⟨ok_iconst dX8_rank_45 rfl ic_5, mo_push⟩ (
  And.intro ⟨ok_goto dX8_rank_46 (by decide), mo_goto⟩ (
  And.intro ⟨ok_nop, mo_nop⟩ (
  trivial))))))))))))))))
theorem rX8_rank_3 : am_allR (fun pc o => am_ok am_tb0 cX8_rank RX8 1 (some .int) false pc o ∧ am_mo o) 48 (am_nth [] tX8_rank 3) :=
  And.intro ⟨ok_nop, mo_nop⟩ (
  And.intro ⟨ok_bipush dX8_rank_49 rfl bi_6, mo_push⟩ (
  And.intro ⟨ok_nop, mo_nop⟩ (
  And.intro ⟨ok_iret dX8_rank_51 rfl, mo_iret⟩ (
  And.intro ⟨ok_nop, mo_nop⟩ (
  And.intro ⟨ok_nop, mo_nop⟩ (
  And.intro ⟨ok_nop, mo_nop⟩ (
  And.intro ⟨ok_nop, mo_nop⟩ (
  And.intro ⟨ok_nop, mo_nop⟩ (
  And.intro ⟨ok_nop, mo_nop⟩ (
  And.intro ⟨ok_nop, mo_nop⟩ (
  And.intro ⟨ok_nop, mo_nop⟩ (
  And.intro ⟨ok_nop, mo_nop⟩ (
  And.intro ⟨ok_nop, mo_nop⟩ (
  And.intro ⟨ok_nop, mo_nop⟩ (
  And.intro ⟨ok_nop, mo_nop⟩ (
  trivial))))))))))))))))
theorem kX8_rank : am_M1 am_tb0 cX8_rank RX8 1 (some .int) false tX8_rank := And.intro rX8_rank_0 (And.intro rX8_rank_1 (And.intro rX8_rank_2 (And.intro rX8_rank_3 (trivial))))
def tX8_settle : List (List am_Op) := [[o_aload 0 1, o_getI 8 38 24 4, am_nop, am_nop, o_if (fun x => x ≤ 0) 82 7, am_nop, am_nop, o_aload 0 8, o_getR 8 38 23 11, am_nop, am_nop, o_aload 0 12, o_getI 8 38 24 15, am_nop, am_nop, o_push (.int 1) 16],
  [o_bin (fun x y => x - y) 17, o_iald 20 18, o_push (.int (-11)) 20, am_nop, o_icmp (fun x y => x = y) 82 23, am_nop, am_nop, o_aload 0 24, o_getR 8 38 23 27, am_nop, am_nop, o_aload 0 28, o_getI 8 38 24 31, am_nop, am_nop, o_push (.int 1) 32],
  [o_bin (fun x y => x - y) 33, o_iald 20 34, o_cs 177 1 0 1 37, am_nop, am_nop, o_iload 1 38, o_icmp (fun x y => x < y) 82 41, am_nop, am_nop, o_aload 0 42, o_dup 43, o_getI 8 38 24 46, am_nop, am_nop, o_push (.int 1) 47, o_bin (fun x y => x - y) 48],
  [o_putI 8 38 24 51, am_nop, am_nop, o_aload 0 52, o_getR 8 38 20 55, am_nop, am_nop, o_aload 0 56, o_getI 8 38 21 59, am_nop, am_nop, o_aload 0 60, o_getR 8 38 23 63, am_nop, am_nop, o_aload 0 64],
  [o_getI 8 38 24 67, am_nop, am_nop, o_iald 20 68, o_iast 69, o_aload 0 70, o_dup 71, o_getI 8 38 21 74, am_nop, am_nop, o_push (.int 1) 75, o_bin (fun x y => x + y) 76, o_putI 8 38 21 79, am_nop, am_nop, o_goto 0],
  [am_nop, am_nop, o_ret, am_nop, am_nop, am_nop, am_nop, am_nop, am_nop, am_nop, am_nop, am_nop, am_nop, am_nop, am_nop, am_nop]]
theorem rX8_settle_0 : am_allR (fun pc o => am_ok am_tb0 cX8_settle RX8 2 none false pc o ∧ am_mo o) 0 (am_nth [] tX8_settle 0) :=
  And.intro ⟨ok_aload_n dX8_settle_0 rfl rfl, mo_aload⟩ (
  And.intro ⟨ok_getI dX8_settle_1 hclX8 inWX8 (by decide) (by decide) wd_915 (fun _ _ _ => rfl) rfl, mo_getI⟩ (
  And.intro ⟨ok_nop, mo_nop⟩ (
  And.intro ⟨ok_nop, mo_nop⟩ (
  And.intro ⟨ok_if_le dX8_settle_4 (by decide) rfl, mo_if⟩ (
  And.intro ⟨ok_nop, mo_nop⟩ (
  And.intro ⟨ok_nop, mo_nop⟩ (
  And.intro ⟨ok_aload_n dX8_settle_7 rfl rfl, mo_aload⟩ (
  And.intro ⟨ok_getR dX8_settle_8 hclX8 inWX8 (by decide) (by decide) wd_914 (fun _ _ _ => rfl) rfl, mo_getR⟩ (
  And.intro ⟨ok_nop, mo_nop⟩ (
  And.intro ⟨ok_nop, mo_nop⟩ (
  And.intro ⟨ok_aload_n dX8_settle_11 rfl rfl, mo_aload⟩ (
  And.intro ⟨ok_getI dX8_settle_12 hclX8 inWX8 (by decide) (by decide) wd_915 (fun _ _ _ => rfl) rfl, mo_getI⟩ (
  And.intro ⟨ok_nop, mo_nop⟩ (
  And.intro ⟨ok_nop, mo_nop⟩ (
  And.intro ⟨ok_iconst dX8_settle_15 rfl ic_1, mo_push⟩ (
  trivial))))))))))))))))
theorem rX8_settle_1 : am_allR (fun pc o => am_ok am_tb0 cX8_settle RX8 2 none false pc o ∧ am_mo o) 16 (am_nth [] tX8_settle 1) :=
  And.intro ⟨ok_isub dX8_settle_16 rfl, mo_bin⟩ (
  And.intro ⟨ok_iald dX8_settle_17 rfl, mo_iald⟩ (
  And.intro ⟨ok_bipush dX8_settle_18 rfl bi_m11, mo_push⟩ (
  And.intro ⟨ok_nop, mo_nop⟩ (
  And.intro ⟨ok_icmp_eq dX8_settle_20 (by decide) rfl, mo_icmp⟩ (
  And.intro ⟨ok_nop, mo_nop⟩ (
  And.intro ⟨ok_nop, mo_nop⟩ (
  And.intro ⟨ok_aload_n dX8_settle_23 rfl rfl, mo_aload⟩ (
  And.intro ⟨ok_getR dX8_settle_24 hclX8 inWX8 (by decide) (by decide) wd_914 (fun _ _ _ => rfl) rfl, mo_getR⟩ (
  And.intro ⟨ok_nop, mo_nop⟩ (
  And.intro ⟨ok_nop, mo_nop⟩ (
  And.intro ⟨ok_aload_n dX8_settle_27 rfl rfl, mo_aload⟩ (
  And.intro ⟨ok_getI dX8_settle_28 hclX8 inWX8 (by decide) (by decide) wd_915 (fun _ _ _ => rfl) rfl, mo_getI⟩ (
  And.intro ⟨ok_nop, mo_nop⟩ (
  And.intro ⟨ok_nop, mo_nop⟩ (
  And.intro ⟨ok_iconst dX8_settle_31 rfl ic_1, mo_push⟩ (
  trivial))))))))))))))))
theorem rX8_settle_2 : am_allR (fun pc o => am_ok am_tb0 cX8_settle RX8 2 none false pc o ∧ am_mo o) 32 (am_nth [] tX8_settle 2) :=
  And.intro ⟨ok_isub dX8_settle_32 rfl, mo_bin⟩ (
  And.intro ⟨ok_iald dX8_settle_33 rfl, mo_iald⟩ (
  And.intro ⟨ok_cs (z := 177) dX8_settle_34 wd_1290 wd_1291 wd_8 wd_1292 rfl (by decide) hy_X8_rank rfl, mo_cs⟩ (
  And.intro ⟨ok_nop, mo_nop⟩ (
  And.intro ⟨ok_nop, mo_nop⟩ (
  And.intro ⟨ok_iload_n dX8_settle_37 rfl rfl, mo_iload⟩ (
  And.intro ⟨ok_icmp_lt dX8_settle_38 (by decide) rfl, mo_icmp⟩ (
  And.intro ⟨ok_nop, mo_nop⟩ (
  And.intro ⟨ok_nop, mo_nop⟩ (
  And.intro ⟨ok_aload_n dX8_settle_41 rfl rfl, mo_aload⟩ (
  And.intro ⟨ok_dup dX8_settle_42 rfl, mo_dup⟩ (
  And.intro ⟨ok_getI dX8_settle_43 hclX8 inWX8 (by decide) (by decide) wd_915 (fun _ _ _ => rfl) rfl, mo_getI⟩ (
  And.intro ⟨ok_nop, mo_nop⟩ (
  And.intro ⟨ok_nop, mo_nop⟩ (
  And.intro ⟨ok_iconst dX8_settle_46 rfl ic_1, mo_push⟩ (
  And.intro ⟨ok_isub dX8_settle_47 rfl, mo_bin⟩ (
  trivial))))))))))))))))
theorem rX8_settle_3 : am_allR (fun pc o => am_ok am_tb0 cX8_settle RX8 2 none false pc o ∧ am_mo o) 48 (am_nth [] tX8_settle 3) :=
  And.intro ⟨ok_putI dX8_settle_48 hclX8 inWX8 tyX8_ok nmX8 (by decide) (by decide) wd_915 rfl (tyX8_ok 24 (by decide)) (fun _ _ _ => rfl) rfl, mo_putI⟩ (
  And.intro ⟨ok_nop, mo_nop⟩ (
  And.intro ⟨ok_nop, mo_nop⟩ (
  And.intro ⟨ok_aload_n dX8_settle_51 rfl rfl, mo_aload⟩ (
  And.intro ⟨ok_getR dX8_settle_52 hclX8 inWX8 (by decide) (by decide) wd_911 (fun _ _ _ => rfl) rfl, mo_getR⟩ (
  And.intro ⟨ok_nop, mo_nop⟩ (
  And.intro ⟨ok_nop, mo_nop⟩ (
  And.intro ⟨ok_aload_n dX8_settle_55 rfl rfl, mo_aload⟩ (
  And.intro ⟨ok_getI dX8_settle_56 hclX8 inWX8 (by decide) (by decide) wd_912 (fun _ _ _ => rfl) rfl, mo_getI⟩ (
  And.intro ⟨ok_nop, mo_nop⟩ (
  And.intro ⟨ok_nop, mo_nop⟩ (
  And.intro ⟨ok_aload_n dX8_settle_59 rfl rfl, mo_aload⟩ (
  And.intro ⟨ok_getR dX8_settle_60 hclX8 inWX8 (by decide) (by decide) wd_914 (fun _ _ _ => rfl) rfl, mo_getR⟩ (
  And.intro ⟨ok_nop, mo_nop⟩ (
  And.intro ⟨ok_nop, mo_nop⟩ (
  And.intro ⟨ok_aload_n dX8_settle_63 rfl rfl, mo_aload⟩ (
  trivial))))))))))))))))
theorem rX8_settle_4 : am_allR (fun pc o => am_ok am_tb0 cX8_settle RX8 2 none false pc o ∧ am_mo o) 64 (am_nth [] tX8_settle 4) :=
  And.intro ⟨ok_getI dX8_settle_64 hclX8 inWX8 (by decide) (by decide) wd_915 (fun _ _ _ => rfl) rfl, mo_getI⟩ (
  And.intro ⟨ok_nop, mo_nop⟩ (
  And.intro ⟨ok_nop, mo_nop⟩ (
  And.intro ⟨ok_iald dX8_settle_67 rfl, mo_iald⟩ (
  And.intro ⟨ok_iast dX8_settle_68 rfl, mo_iast⟩ (
  And.intro ⟨ok_aload_n dX8_settle_69 rfl rfl, mo_aload⟩ (
  And.intro ⟨ok_dup dX8_settle_70 rfl, mo_dup⟩ (
  And.intro ⟨ok_getI dX8_settle_71 hclX8 inWX8 (by decide) (by decide) wd_912 (fun _ _ _ => rfl) rfl, mo_getI⟩ (
  And.intro ⟨ok_nop, mo_nop⟩ (
  And.intro ⟨ok_nop, mo_nop⟩ (
  And.intro ⟨ok_iconst dX8_settle_74 rfl ic_1, mo_push⟩ (
  And.intro ⟨ok_iadd dX8_settle_75 rfl, mo_bin⟩ (
  And.intro ⟨ok_putI dX8_settle_76 hclX8 inWX8 tyX8_ok nmX8 (by decide) (by decide) wd_912 rfl (tyX8_ok 21 (by decide)) (fun _ _ _ => rfl) rfl, mo_putI⟩ (
  And.intro ⟨ok_nop, mo_nop⟩ (
  And.intro ⟨ok_nop, mo_nop⟩ (
  And.intro ⟨ok_goto dX8_settle_79 (by decide), mo_goto⟩ (
  trivial))))))))))))))))
theorem rX8_settle_5 : am_allR (fun pc o => am_ok am_tb0 cX8_settle RX8 2 none false pc o ∧ am_mo o) 80 (am_nth [] tX8_settle 5) :=
  And.intro ⟨ok_nop, mo_nop⟩ (
  And.intro ⟨ok_nop, mo_nop⟩ (
  And.intro ⟨ok_ret dX8_settle_82 rfl, mo_ret⟩ (
  And.intro ⟨ok_nop, mo_nop⟩ (
  And.intro ⟨ok_nop, mo_nop⟩ (
  And.intro ⟨ok_nop, mo_nop⟩ (
  And.intro ⟨ok_nop, mo_nop⟩ (
  And.intro ⟨ok_nop, mo_nop⟩ (
  And.intro ⟨ok_nop, mo_nop⟩ (
  And.intro ⟨ok_nop, mo_nop⟩ (
  And.intro ⟨ok_nop, mo_nop⟩ (
  And.intro ⟨ok_nop, mo_nop⟩ (
  And.intro ⟨ok_nop, mo_nop⟩ (
  And.intro ⟨ok_nop, mo_nop⟩ (
  And.intro ⟨ok_nop, mo_nop⟩ (
  And.intro ⟨ok_nop, mo_nop⟩ (
  trivial))))))))))))))))
theorem kX8_settle : am_M1 am_tb0 cX8_settle RX8 2 none false tX8_settle := And.intro rX8_settle_0 (And.intro rX8_settle_1 (And.intro rX8_settle_2 (And.intro rX8_settle_3 (And.intro rX8_settle_4 (And.intro rX8_settle_5 (trivial))))))
def tX8_signHere : List (List am_Op) := [[o_aload 0 1, o_getI 8 38 14 4, am_nop, am_nop, o_push (.int 3) 5, o_icmp (fun x y => x = y) 10 8, am_nop, am_nop, o_push (.int 0) 9, o_iret, o_aload 0 11, o_getI 8 38 15 14, am_nop, am_nop, o_sw [(38, 98), (42, 116), (43, 110), (45, 113), (47, 119), (60, 101), (61, 104), (62, 107), (124, 96)] 122, am_nop],
  [am_nop, am_nop, am_nop, am_nop, am_nop, am_nop, am_nop, am_nop, am_nop, am_nop, am_nop, am_nop, am_nop, am_nop, am_nop, am_nop],
  [am_nop, am_nop, am_nop, am_nop, am_nop, am_nop, am_nop, am_nop, am_nop, am_nop, am_nop, am_nop, am_nop, am_nop, am_nop, am_nop],
  [am_nop, am_nop, am_nop, am_nop, am_nop, am_nop, am_nop, am_nop, am_nop, am_nop, am_nop, am_nop, am_nop, am_nop, am_nop, am_nop],
  [am_nop, am_nop, am_nop, am_nop, am_nop, am_nop, am_nop, am_nop, am_nop, am_nop, am_nop, am_nop, am_nop, am_nop, am_nop, am_nop],
  [am_nop, am_nop, am_nop, am_nop, am_nop, am_nop, am_nop, am_nop, am_nop, am_nop, am_nop, am_nop, am_nop, am_nop, am_nop, am_nop],
  [o_push (.int (-1)) 97, o_iret, o_push (.int (-2)) 100, am_nop, o_iret, o_push (.int (-3)) 103, am_nop, o_iret, o_push (.int (-4)) 106, am_nop, o_iret, o_push (.int (-5)) 109, am_nop, o_iret, o_push (.int (-6)) 112, am_nop],
  [o_iret, o_push (.int (-7)) 115, am_nop, o_iret, o_push (.int (-8)) 118, am_nop, o_iret, o_push (.int (-9)) 121, am_nop, o_iret, o_push (.int 0) 123, o_iret, am_nop, am_nop, am_nop, am_nop]]
theorem rX8_signHere_0 : am_allR (fun pc o => am_ok am_tb0 cX8_signHere RX8 1 (some .int) false pc o ∧ am_mo o) 0 (am_nth [] tX8_signHere 0) :=
  And.intro ⟨ok_aload_n dX8_signHere_0 rfl rfl, mo_aload⟩ (
  And.intro ⟨ok_getI dX8_signHere_1 hclX8 inWX8 (by decide) (by decide) wd_905 (fun _ _ _ => rfl) rfl, mo_getI⟩ (
  And.intro ⟨ok_nop, mo_nop⟩ (
  And.intro ⟨ok_nop, mo_nop⟩ (
  And.intro ⟨ok_iconst dX8_signHere_4 rfl ic_3, mo_push⟩ (
  And.intro ⟨ok_icmp_eq dX8_signHere_5 (by decide) rfl, mo_icmp⟩ (
  And.intro ⟨ok_nop, mo_nop⟩ (
  And.intro ⟨ok_nop, mo_nop⟩ (
  And.intro ⟨ok_iconst dX8_signHere_8 rfl ic_0, mo_push⟩ (
  And.intro ⟨ok_iret dX8_signHere_9 rfl, mo_iret⟩ (
  And.intro ⟨ok_aload_n dX8_signHere_10 rfl rfl, mo_aload⟩ (
  And.intro ⟨ok_getI dX8_signHere_11 hclX8 inWX8 (by decide) (by decide) wd_906 (fun _ _ _ => rfl) rfl, mo_getI⟩ (
  And.intro ⟨ok_nop, mo_nop⟩ (
  And.intro ⟨ok_nop, mo_nop⟩ (
  And.intro ⟨ok_lookup dX8_signHere_14 (by decide +kernel) (by decide) (by decide +kernel), mo_sw⟩ (
  And.intro ⟨ok_nop, mo_nop⟩ (
  trivial))))))))))))))))
theorem rX8_signHere_1 : am_allR (fun pc o => am_ok am_tb0 cX8_signHere RX8 1 (some .int) false pc o ∧ am_mo o) 16 (am_nth [] tX8_signHere 1) :=
  And.intro ⟨ok_nop, mo_nop⟩ (
  And.intro ⟨ok_nop, mo_nop⟩ (
  And.intro ⟨ok_nop, mo_nop⟩ (
  And.intro ⟨ok_nop, mo_nop⟩ (
  And.intro ⟨ok_nop, mo_nop⟩ (
  And.intro ⟨ok_nop, mo_nop⟩ (
  And.intro ⟨ok_nop, mo_nop⟩ (
  And.intro ⟨ok_nop, mo_nop⟩ (
  And.intro ⟨ok_nop, mo_nop⟩ (
  And.intro ⟨ok_nop, mo_nop⟩ (
  And.intro ⟨ok_nop, mo_nop⟩ (
  And.intro ⟨ok_nop, mo_nop⟩ (
  And.intro ⟨ok_nop, mo_nop⟩ (
  And.intro ⟨ok_nop, mo_nop⟩ (
  And.intro ⟨ok_nop, mo_nop⟩ (
  And.intro ⟨ok_nop, mo_nop⟩ (
  trivial))))))))))))))))
theorem rX8_signHere_2 : am_allR (fun pc o => am_ok am_tb0 cX8_signHere RX8 1 (some .int) false pc o ∧ am_mo o) 32 (am_nth [] tX8_signHere 2) :=
  And.intro ⟨ok_nop, mo_nop⟩ (
  And.intro ⟨ok_nop, mo_nop⟩ (
  And.intro ⟨ok_nop, mo_nop⟩ (
  And.intro ⟨ok_nop, mo_nop⟩ (
  And.intro ⟨ok_nop, mo_nop⟩ (
  And.intro ⟨ok_nop, mo_nop⟩ (
  And.intro ⟨ok_nop, mo_nop⟩ (
  And.intro ⟨ok_nop, mo_nop⟩ (
  And.intro ⟨ok_nop, mo_nop⟩ (
  And.intro ⟨ok_nop, mo_nop⟩ (
  And.intro ⟨ok_nop, mo_nop⟩ (
  And.intro ⟨ok_nop, mo_nop⟩ (
  And.intro ⟨ok_nop, mo_nop⟩ (
  And.intro ⟨ok_nop, mo_nop⟩ (
  And.intro ⟨ok_nop, mo_nop⟩ (
  And.intro ⟨ok_nop, mo_nop⟩ (
  trivial))))))))))))))))
theorem rX8_signHere_3 : am_allR (fun pc o => am_ok am_tb0 cX8_signHere RX8 1 (some .int) false pc o ∧ am_mo o) 48 (am_nth [] tX8_signHere 3) :=
  And.intro ⟨ok_nop, mo_nop⟩ (
  And.intro ⟨ok_nop, mo_nop⟩ (
  And.intro ⟨ok_nop, mo_nop⟩ (
  And.intro ⟨ok_nop, mo_nop⟩ (
  And.intro ⟨ok_nop, mo_nop⟩ (
  And.intro ⟨ok_nop, mo_nop⟩ (
  And.intro ⟨ok_nop, mo_nop⟩ (
  And.intro ⟨ok_nop, mo_nop⟩ (
  And.intro ⟨ok_nop, mo_nop⟩ (
  And.intro ⟨ok_nop, mo_nop⟩ (
  And.intro ⟨ok_nop, mo_nop⟩ (
  And.intro ⟨ok_nop, mo_nop⟩ (
  And.intro ⟨ok_nop, mo_nop⟩ (
  And.intro ⟨ok_nop, mo_nop⟩ (
  And.intro ⟨ok_nop, mo_nop⟩ (
  And.intro ⟨ok_nop, mo_nop⟩ (
  trivial))))))))))))))))
theorem rX8_signHere_4 : am_allR (fun pc o => am_ok am_tb0 cX8_signHere RX8 1 (some .int) false pc o ∧ am_mo o) 64 (am_nth [] tX8_signHere 4) :=
  And.intro ⟨ok_nop, mo_nop⟩ (
  And.intro ⟨ok_nop, mo_nop⟩ (
  And.intro ⟨ok_nop, mo_nop⟩ (
  And.intro ⟨ok_nop, mo_nop⟩ (
  And.intro ⟨ok_nop, mo_nop⟩ (
  And.intro ⟨ok_nop, mo_nop⟩ (
  And.intro ⟨ok_nop, mo_nop⟩ (
  And.intro ⟨ok_nop, mo_nop⟩ (
  And.intro ⟨ok_nop, mo_nop⟩ (
  And.intro ⟨ok_nop, mo_nop⟩ (
  And.intro ⟨ok_nop, mo_nop⟩ (
  And.intro ⟨ok_nop, mo_nop⟩ (
  And.intro ⟨ok_nop, mo_nop⟩ (
  And.intro ⟨ok_nop, mo_nop⟩ (
  And.intro ⟨ok_nop, mo_nop⟩ (
  And.intro ⟨ok_nop, mo_nop⟩ (
  trivial))))))))))))))))
theorem rX8_signHere_5 : am_allR (fun pc o => am_ok am_tb0 cX8_signHere RX8 1 (some .int) false pc o ∧ am_mo o) 80 (am_nth [] tX8_signHere 5) :=
  And.intro ⟨ok_nop, mo_nop⟩ (
  And.intro ⟨ok_nop, mo_nop⟩ (
  And.intro ⟨ok_nop, mo_nop⟩ (
  And.intro ⟨ok_nop, mo_nop⟩ (
  And.intro ⟨ok_nop, mo_nop⟩ (
  And.intro ⟨ok_nop, mo_nop⟩ (
  And.intro ⟨ok_nop, mo_nop⟩ (
  And.intro ⟨ok_nop, mo_nop⟩ (
  And.intro ⟨ok_nop, mo_nop⟩ (
  And.intro ⟨ok_nop, mo_nop⟩ (
  And.intro ⟨ok_nop, mo_nop⟩ (
  And.intro ⟨ok_nop, mo_nop⟩ (
  And.intro ⟨ok_nop, mo_nop⟩ (
  And.intro ⟨ok_nop, mo_nop⟩ (
  And.intro ⟨ok_nop, mo_nop⟩ (
  And.intro ⟨ok_nop, mo_nop⟩ (
  trivial))))))))))))))))
theorem rX8_signHere_6 : am_allR (fun pc o => am_ok am_tb0 cX8_signHere RX8 1 (some .int) false pc o ∧ am_mo o) 96 (am_nth [] tX8_signHere 6) :=
  And.intro ⟨ok_iconst dX8_signHere_96 rfl ic_m1, mo_push⟩ (
  And.intro ⟨ok_iret dX8_signHere_97 rfl, mo_iret⟩ (
  And.intro ⟨ok_bipush dX8_signHere_98 rfl bi_m2, mo_push⟩ (
  And.intro ⟨ok_nop, mo_nop⟩ (
  And.intro ⟨ok_iret dX8_signHere_100 rfl, mo_iret⟩ (
  And.intro ⟨ok_bipush dX8_signHere_101 rfl bi_m3, mo_push⟩ (
  And.intro ⟨ok_nop, mo_nop⟩ (
  And.intro ⟨ok_iret dX8_signHere_103 rfl, mo_iret⟩ (
  And.intro ⟨ok_bipush dX8_signHere_104 rfl bi_m4, mo_push⟩ (
  And.intro ⟨ok_nop, mo_nop⟩ (
  And.intro ⟨ok_iret dX8_signHere_106 rfl, mo_iret⟩ (
  And.intro ⟨ok_bipush dX8_signHere_107 rfl bi_m5, mo_push⟩ (
  And.intro ⟨ok_nop, mo_nop⟩ (
  And.intro ⟨ok_iret dX8_signHere_109 rfl, mo_iret⟩ (
  And.intro ⟨ok_bipush dX8_signHere_110 rfl bi_m6, mo_push⟩ (
  And.intro ⟨ok_nop, mo_nop⟩ (
  trivial))))))))))))))))
theorem rX8_signHere_7 : am_allR (fun pc o => am_ok am_tb0 cX8_signHere RX8 1 (some .int) false pc o ∧ am_mo o) 112 (am_nth [] tX8_signHere 7) :=
  And.intro ⟨ok_iret dX8_signHere_112 rfl, mo_iret⟩ (
  And.intro ⟨ok_bipush dX8_signHere_113 rfl bi_m7, mo_push⟩ (
  And.intro ⟨ok_nop, mo_nop⟩ (
  And.intro ⟨ok_iret dX8_signHere_115 rfl, mo_iret⟩ (
  And.intro ⟨ok_bipush dX8_signHere_116 rfl bi_m8, mo_push⟩ (
  And.intro ⟨ok_nop, mo_nop⟩ (
  And.intro ⟨ok_iret dX8_signHere_118 rfl, mo_iret⟩ (
  And.intro ⟨ok_bipush dX8_signHere_119 rfl bi_m9, mo_push⟩ (
  And.intro ⟨ok_nop, mo_nop⟩ (
  And.intro ⟨ok_iret dX8_signHere_121 rfl, mo_iret⟩ (
  And.intro ⟨ok_iconst dX8_signHere_122 rfl ic_0, mo_push⟩ (
  And.intro ⟨ok_iret dX8_signHere_123 rfl, mo_iret⟩ (
  And.intro ⟨ok_nop, mo_nop⟩ (
  And.intro ⟨ok_nop, mo_nop⟩ (
  And.intro ⟨ok_nop, mo_nop⟩ (
  And.intro ⟨ok_nop, mo_nop⟩ (
  trivial))))))))))))))))
theorem kX8_signHere : am_M1 am_tb0 cX8_signHere RX8 1 (some .int) false tX8_signHere := And.intro rX8_signHere_0 (And.intro rX8_signHere_1 (And.intro rX8_signHere_2 (And.intro rX8_signHere_3 (And.intro rX8_signHere_4 (And.intro rX8_signHere_5 (And.intro rX8_signHere_6 (And.intro rX8_signHere_7 (trivial))))))))
def tX8_takesPart : List (List am_Op) := [[o_aload 0 1, o_getI 8 38 14 4, am_nop, am_nop, o_push (.int 1) 5, o_icmp (fun x y => ¬ x = y) 36 8, am_nop, am_nop, o_aload 0 9, o_getI 8 38 12 12, am_nop, am_nop, o_aload 0 13, o_getI 8 38 13 16, am_nop, am_nop],
  [o_bin (fun x y => x - y) 17, o_push (.int 1) 18, o_icmp (fun x y => ¬ x = y) 36 21, am_nop, am_nop, o_aload 0 22, o_aload 0 23, o_getI 8 38 15 26, am_nop, am_nop, o_cv 8 38 176 2 0 1 29, am_nop, am_nop, o_if (fun x => x < 0) 36 32, am_nop, am_nop],
  [o_push (.int 1) 33, o_goto 37, am_nop, am_nop, o_push (.int 0) 37, o_istore 1 38, o_aload 0 39, o_getI 8 38 14 42, am_nop, am_nop, o_push (.int 2) 43, o_icmp (fun x y => x = y) 52 46, am_nop, am_nop, o_iload 1 47, o_if (fun x => ¬ x = 0) 52 50],
  [am_nop, am_nop, o_push (.int 0) 51, o_nret .boolean, o_aload 0 53, o_getR 8 38 20 56, am_nop, am_nop, o_aload 0 57, o_getI 8 38 21 60, am_nop, am_nop, o_aload 0 61, o_getI 8 38 14 64, am_nop, am_nop],
  [o_push (.int 2) 65, o_icmp (fun x y => ¬ x = y) 75 68, am_nop, am_nop, o_aload 0 69, o_getI 8 38 15 72, am_nop, am_nop, o_goto 87, am_nop, am_nop, o_push (.int 10000) 78, am_nop, am_nop, o_aload 0 79, o_aload 0 80],
  [o_getI 8 38 15 83, am_nop, am_nop, o_cv 8 38 176 2 0 1 86, am_nop, am_nop, o_bin (fun x y => x + y) 87, o_iast 88, o_aload 0 89, o_dup 90, o_getI 8 38 21 93, am_nop, am_nop, o_push (.int 1) 94, o_bin (fun x y => x + y) 95, o_putI 8 38 21 98],
  [am_nop, am_nop, o_aload 0 99, o_dup 100, o_getI 8 38 22 103, am_nop, am_nop, o_push (.int 1) 104, o_bin (fun x y => x + y) 105, o_putI 8 38 22 108, am_nop, am_nop, o_aload 0 109, o_push (.int 6) 111, am_nop, o_cv 8 38 178 2 1 1 114],
  [am_nop, am_nop, o_aload 0 115, o_cv 8 38 174 2 1 0 118, am_nop, am_nop, o_push (.int 1) 119, o_nret .boolean, am_nop, am_nop, am_nop, am_nop, am_nop, am_nop, am_nop, am_nop]]
theorem rX8_takesPart_0 : am_allR (fun pc o => am_ok am_tb0 cX8_takesPart RX8 2 (some .boolean) false pc o ∧ am_mo o) 0 (am_nth [] tX8_takesPart 0) :=
  And.intro ⟨ok_aload_n dX8_takesPart_0 rfl rfl, mo_aload⟩ (
  And.intro ⟨ok_getI dX8_takesPart_1 hclX8 inWX8 (by decide) (by decide) wd_905 (fun _ _ _ => rfl) rfl, mo_getI⟩ (
  And.intro ⟨ok_nop, mo_nop⟩ (
  And.intro ⟨ok_nop, mo_nop⟩ (
  And.intro ⟨ok_iconst dX8_takesPart_4 rfl ic_1, mo_push⟩ (
  And.intro ⟨ok_icmp_ne dX8_takesPart_5 (by decide) rfl, mo_icmp⟩ (
  And.intro ⟨ok_nop, mo_nop⟩ (
  And.intro ⟨ok_nop, mo_nop⟩ (
  And.intro ⟨ok_aload_n dX8_takesPart_8 rfl rfl, mo_aload⟩ (
  And.intro ⟨ok_getI dX8_takesPart_9 hclX8 inWX8 (by decide) (by decide) wd_903 (fun _ _ _ => rfl) rfl, mo_getI⟩ (
  And.intro ⟨ok_nop, mo_nop⟩ (
  And.intro ⟨ok_nop, mo_nop⟩ (
  And.intro ⟨ok_aload_n dX8_takesPart_12 rfl rfl, mo_aload⟩ (
  And.intro ⟨ok_getI dX8_takesPart_13 hclX8 inWX8 (by decide) (by decide) wd_904 (fun _ _ _ => rfl) rfl, mo_getI⟩ (
  And.intro ⟨ok_nop, mo_nop⟩ (
  And.intro ⟨ok_nop, mo_nop⟩ (
  trivial))))))))))))))))
theorem rX8_takesPart_1 : am_allR (fun pc o => am_ok am_tb0 cX8_takesPart RX8 2 (some .boolean) false pc o ∧ am_mo o) 16 (am_nth [] tX8_takesPart 1) :=
  And.intro ⟨ok_isub dX8_takesPart_16 rfl, mo_bin⟩ (
  And.intro ⟨ok_iconst dX8_takesPart_17 rfl ic_1, mo_push⟩ (
  And.intro ⟨ok_icmp_ne dX8_takesPart_18 (by decide) rfl, mo_icmp⟩ (
  And.intro ⟨ok_nop, mo_nop⟩ (
  And.intro ⟨ok_nop, mo_nop⟩ (
  And.intro ⟨ok_aload_n dX8_takesPart_21 rfl rfl, mo_aload⟩ (
  And.intro ⟨ok_aload_n dX8_takesPart_22 rfl rfl, mo_aload⟩ (
  And.intro ⟨ok_getI dX8_takesPart_23 hclX8 inWX8 (by decide) (by decide) wd_906 (fun _ _ _ => rfl) rfl, mo_getI⟩ (
  And.intro ⟨ok_nop, mo_nop⟩ (
  And.intro ⟨ok_nop, mo_nop⟩ (
  And.intro ⟨ok_cv (z := 176) dX8_takesPart_26 hclX8 (by decide) wd_1282 wd_1284 wp_50 wd_8 wd_1285 rfl (by decide) ⟨rfl, hy_X8_nameOf⟩ rfl, mo_cv⟩ (
  And.intro ⟨ok_nop, mo_nop⟩ (
  And.intro ⟨ok_nop, mo_nop⟩ (
  And.intro ⟨ok_if_lt dX8_takesPart_29 (by decide) rfl, mo_if⟩ (
  And.intro ⟨ok_nop, mo_nop⟩ (
  And.intro ⟨ok_nop, mo_nop⟩ (
  trivial))))))))))))))))
theorem rX8_takesPart_2 : am_allR (fun pc o => am_ok am_tb0 cX8_takesPart RX8 2 (some .boolean) false pc o ∧ am_mo o) 32 (am_nth [] tX8_takesPart 2) :=
  And.intro ⟨ok_iconst dX8_takesPart_32 rfl ic_1, mo_push⟩ (
  And.intro ⟨ok_goto dX8_takesPart_33 (by decide), mo_goto⟩ (
  And.intro ⟨ok_nop, mo_nop⟩ (
  And.intro ⟨ok_nop, mo_nop⟩ (
  And.intro ⟨ok_iconst dX8_takesPart_36 rfl ic_0, mo_push⟩ (
  And.intro ⟨ok_istore_n dX8_takesPart_37 rfl (by decide) rfl, mo_istore⟩ (
  And.intro ⟨ok_aload_n dX8_takesPart_38 rfl rfl, mo_aload⟩ (
  And.intro ⟨ok_getI dX8_takesPart_39 hclX8 inWX8 (by decide) (by decide) wd_905 (fun _ _ _ => rfl) rfl, mo_getI⟩ (
  And.intro ⟨ok_nop, mo_nop⟩ (
  And.intro ⟨ok_nop, mo_nop⟩ (
  And.intro ⟨ok_iconst dX8_takesPart_42 rfl ic_2, mo_push⟩ (
  And.intro ⟨ok_icmp_eq dX8_takesPart_43 (by decide) rfl, mo_icmp⟩ (
  And.intro ⟨ok_nop, mo_nop⟩ (
  And.intro ⟨ok_nop, mo_nop⟩ (
  And.intro ⟨ok_iload_n dX8_takesPart_46 rfl rfl, mo_iload⟩ (
  And.intro ⟨ok_if_ne dX8_takesPart_47 (by decide) rfl, mo_if⟩ (
  trivial))))))))))))))))
theorem rX8_takesPart_3 : am_allR (fun pc o => am_ok am_tb0 cX8_takesPart RX8 2 (some .boolean) false pc o ∧ am_mo o) 48 (am_nth [] tX8_takesPart 3) :=
  And.intro ⟨ok_nop, mo_nop⟩ (
  And.intro ⟨ok_nop, mo_nop⟩ (
  And.intro ⟨ok_iconst dX8_takesPart_50 rfl ic_0, mo_push⟩ (
  And.intro ⟨ok_nret dX8_takesPart_51 rfl, mo_nret⟩ (
  And.intro ⟨ok_aload_n dX8_takesPart_52 rfl rfl, mo_aload⟩ (
  And.intro ⟨ok_getR dX8_takesPart_53 hclX8 inWX8 (by decide) (by decide) wd_911 (fun _ _ _ => rfl) rfl, mo_getR⟩ (
  And.intro ⟨ok_nop, mo_nop⟩ (
  And.intro ⟨ok_nop, mo_nop⟩ (
  And.intro ⟨ok_aload_n dX8_takesPart_56 rfl rfl, mo_aload⟩ (
  And.intro ⟨ok_getI dX8_takesPart_57 hclX8 inWX8 (by decide) (by decide) wd_912 (fun _ _ _ => rfl) rfl, mo_getI⟩ (
  And.intro ⟨ok_nop, mo_nop⟩ (
  And.intro ⟨ok_nop, mo_nop⟩ (
  And.intro ⟨ok_aload_n dX8_takesPart_60 rfl rfl, mo_aload⟩ (
  And.intro ⟨ok_getI dX8_takesPart_61 hclX8 inWX8 (by decide) (by decide) wd_905 (fun _ _ _ => rfl) rfl, mo_getI⟩ (
  And.intro ⟨ok_nop, mo_nop⟩ (
  And.intro ⟨ok_nop, mo_nop⟩ (
  trivial))))))))))))))))
theorem rX8_takesPart_4 : am_allR (fun pc o => am_ok am_tb0 cX8_takesPart RX8 2 (some .boolean) false pc o ∧ am_mo o) 64 (am_nth [] tX8_takesPart 4) :=
  And.intro ⟨ok_iconst dX8_takesPart_64 rfl ic_2, mo_push⟩ (
  And.intro ⟨ok_icmp_ne dX8_takesPart_65 (by decide) rfl, mo_icmp⟩ (
  And.intro ⟨ok_nop, mo_nop⟩ (
  And.intro ⟨ok_nop, mo_nop⟩ (
  And.intro ⟨ok_aload_n dX8_takesPart_68 rfl rfl, mo_aload⟩ (
  And.intro ⟨ok_getI dX8_takesPart_69 hclX8 inWX8 (by decide) (by decide) wd_906 (fun _ _ _ => rfl) rfl, mo_getI⟩ (
  And.intro ⟨ok_nop, mo_nop⟩ (
  And.intro ⟨ok_nop, mo_nop⟩ (
  And.intro ⟨ok_goto dX8_takesPart_72 (by decide), mo_goto⟩ (
  And.intro ⟨ok_nop, mo_nop⟩ (
  And.intro ⟨ok_nop, mo_nop⟩ (
  And.intro ⟨ok_sipush dX8_takesPart_75 rfl si_10000, mo_push⟩ (
  And.intro ⟨ok_nop, mo_nop⟩ (
  And.intro ⟨ok_nop, mo_nop⟩ (
  And.intro ⟨ok_aload_n dX8_takesPart_78 rfl rfl, mo_aload⟩ (
  And.intro ⟨ok_aload_n dX8_takesPart_79 rfl rfl, mo_aload⟩ (
  trivial))))))))))))))))
theorem rX8_takesPart_5 : am_allR (fun pc o => am_ok am_tb0 cX8_takesPart RX8 2 (some .boolean) false pc o ∧ am_mo o) 80 (am_nth [] tX8_takesPart 5) :=
  And.intro ⟨ok_getI dX8_takesPart_80 hclX8 inWX8 (by decide) (by decide) wd_906 (fun _ _ _ => rfl) rfl, mo_getI⟩ (
  And.intro ⟨ok_nop, mo_nop⟩ (
  And.intro ⟨ok_nop, mo_nop⟩ (
  And.intro ⟨ok_cv (z := 176) dX8_takesPart_83 hclX8 (by decide) wd_1282 wd_1284 wp_50 wd_8 wd_1285 rfl (by decide) ⟨rfl, hy_X8_nameOf⟩ rfl, mo_cv⟩ (
  And.intro ⟨ok_nop, mo_nop⟩ (
  And.intro ⟨ok_nop, mo_nop⟩ (
  And.intro ⟨ok_iadd dX8_takesPart_86 rfl, mo_bin⟩ (
  And.intro ⟨ok_iast dX8_takesPart_87 rfl, mo_iast⟩ (
  And.intro ⟨ok_aload_n dX8_takesPart_88 rfl rfl, mo_aload⟩ (
  And.intro ⟨ok_dup dX8_takesPart_89 rfl, mo_dup⟩ (
  And.intro ⟨ok_getI dX8_takesPart_90 hclX8 inWX8 (by decide) (by decide) wd_912 (fun _ _ _ => rfl) rfl, mo_getI⟩ (
  And.intro ⟨ok_nop, mo_nop⟩ (
  And.intro ⟨ok_nop, mo_nop⟩ (
  And.intro ⟨ok_iconst dX8_takesPart_93 rfl ic_1, mo_push⟩ (
  And.intro ⟨ok_iadd dX8_takesPart_94 rfl, mo_bin⟩ (
  And.intro ⟨ok_putI dX8_takesPart_95 hclX8 inWX8 tyX8_ok nmX8 (by decide) (by decide) wd_912 rfl (tyX8_ok 21 (by decide)) (fun _ _ _ => rfl) rfl, mo_putI⟩ (
  trivial))))))))))))))))
theorem rX8_takesPart_6 : am_allR (fun pc o => am_ok am_tb0 cX8_takesPart RX8 2 (some .boolean) false pc o ∧ am_mo o) 96 (am_nth [] tX8_takesPart 6) :=
  And.intro ⟨ok_nop, mo_nop⟩ (
  And.intro ⟨ok_nop, mo_nop⟩ (
  And.intro ⟨ok_aload_n dX8_takesPart_98 rfl rfl, mo_aload⟩ (
  And.intro ⟨ok_dup dX8_takesPart_99 rfl, mo_dup⟩ (
  And.intro ⟨ok_getI dX8_takesPart_100 hclX8 inWX8 (by decide) (by decide) wd_913 (fun _ _ _ => rfl) rfl, mo_getI⟩ (
  And.intro ⟨ok_nop, mo_nop⟩ (
  And.intro ⟨ok_nop, mo_nop⟩ (
  And.intro ⟨ok_iconst dX8_takesPart_103 rfl ic_1, mo_push⟩ (
  And.intro ⟨ok_iadd dX8_takesPart_104 rfl, mo_bin⟩ (
  And.intro ⟨ok_putI dX8_takesPart_105 hclX8 inWX8 tyX8_ok nmX8 (by decide) (by decide) wd_913 rfl (tyX8_ok 22 (by decide)) (fun _ _ _ => rfl) rfl, mo_putI⟩ (
  And.intro ⟨ok_nop, mo_nop⟩ (
  And.intro ⟨ok_nop, mo_nop⟩ (
  And.intro ⟨ok_aload_n dX8_takesPart_108 rfl rfl, mo_aload⟩ (
  And.intro ⟨ok_bipush dX8_takesPart_109 rfl bi_6, mo_push⟩ (
  And.intro ⟨ok_nop, mo_nop⟩ (
  And.intro ⟨ok_cv (z := 178) dX8_takesPart_111 hclX8 (by decide) wd_1286 wd_1288 wp_51 wd_8 wd_1289 rfl (by decide) ⟨rfl, hy_X8_settle⟩ rfl, mo_cv⟩ (
  trivial))))))))))))))))
theorem rX8_takesPart_7 : am_allR (fun pc o => am_ok am_tb0 cX8_takesPart RX8 2 (some .boolean) false pc o ∧ am_mo o) 112 (am_nth [] tX8_takesPart 7) :=
  And.intro ⟨ok_nop, mo_nop⟩ (
  And.intro ⟨ok_nop, mo_nop⟩ (
  And.intro ⟨ok_aload_n dX8_takesPart_114 rfl rfl, mo_aload⟩ (
  And.intro ⟨ok_cv (z := 174) dX8_takesPart_115 hclX8 (by decide) wd_1258 wd_1260 wp_44 wd_8 wd_1261 rfl (by decide) ⟨rfl, hy_X8_go⟩ rfl, mo_cv⟩ (
  And.intro ⟨ok_nop, mo_nop⟩ (
  And.intro ⟨ok_nop, mo_nop⟩ (
  And.intro ⟨ok_iconst dX8_takesPart_118 rfl ic_1, mo_push⟩ (
  And.intro ⟨ok_nret dX8_takesPart_119 rfl, mo_nret⟩ (
  And.intro ⟨ok_nop, mo_nop⟩ (
  And.intro ⟨ok_nop, mo_nop⟩ (
  And.intro ⟨ok_nop, mo_nop⟩ (
  And.intro ⟨ok_nop, mo_nop⟩ (
  And.intro ⟨ok_nop, mo_nop⟩ (
  And.intro ⟨ok_nop, mo_nop⟩ (
  And.intro ⟨ok_nop, mo_nop⟩ (
  And.intro ⟨ok_nop, mo_nop⟩ (
  trivial))))))))))))))))
theorem kX8_takesPart : am_M1 am_tb0 cX8_takesPart RX8 2 (some .boolean) false tX8_takesPart := And.intro rX8_takesPart_0 (And.intro rX8_takesPart_1 (And.intro rX8_takesPart_2 (And.intro rX8_takesPart_3 (And.intro rX8_takesPart_4 (And.intro rX8_takesPart_5 (And.intro rX8_takesPart_6 (And.intro rX8_takesPart_7 (trivial))))))))
def tX8_takesE : List (List am_Op) := [[o_push (.int 0) 1, o_istore 1 2, o_push (.int 0) 3, o_istore 2 4, o_push (.int 1) 5, o_istore 3 6, o_aload 0 7, o_push (.int 0) 8, o_putI 8 38 21 11, am_nop, am_nop, o_aload 0 12, o_push (.int 0) 13, o_putI 8 38 22 16, am_nop, am_nop],
  [o_aload 0 17, o_push (.int 0) 18, o_putI 8 38 24 21, am_nop, am_nop, o_aload 0 22, o_getR 8 38 25 25, am_nop, am_nop, o_push (.int 0) 26, o_push (.int 0) 27, o_zast 28, o_iload 3 29, o_if (fun x => ¬ x = 0) 39 32, am_nop, am_nop],
  [o_aload 0 33, o_getI 8 38 14 36, am_nop, am_nop, o_if (fun x => x = 0) 345 39, am_nop, am_nop, o_iload 3 40, o_if (fun x => x = 0) 180 43, am_nop, am_nop, o_aload 0 44, o_getI 8 38 14 47, am_nop, am_nop, o_push (.int 3) 48],
  [o_icmp (fun x y => ¬ x = y) 97 51, am_nop, am_nop, o_aload 0 52, o_getI 8 38 15 55, am_nop, am_nop, o_push (.int 33) 57, am_nop, o_icmp (fun x y => ¬ x = y) 97 60, am_nop, am_nop, o_iload 2 61, o_push (.int 8) 63, am_nop, o_icmp (fun x y => y ≤ x) 97 66],
  [am_nop, am_nop, o_aload 0 67, o_getR 8 38 23 70, am_nop, am_nop, o_aload 0 71, o_getI 8 38 24 74, am_nop, am_nop, o_push (.int (-10)) 76, am_nop, o_iast 77, o_aload 0 78, o_dup 79, o_getI 8 38 24 82],
  [am_nop, am_nop, o_push (.int 1) 83, o_bin (fun x y => x + y) 84, o_putI 8 38 24 87, am_nop, am_nop, o_iinc 2 1 90, am_nop, am_nop, o_aload 0 91, o_cv 8 38 174 2 1 0 94, am_nop, am_nop, o_goto 172, am_nop],
  [am_nop, o_aload 0 98, o_getI 8 38 14 101, am_nop, am_nop, o_push (.int 3) 102, o_icmp (fun x y => ¬ x = y) 158 105, am_nop, am_nop, o_aload 0 106, o_getI 8 38 15 109, am_nop, am_nop, o_push (.int 40) 111, am_nop, o_icmp (fun x y => ¬ x = y) 158 114],
  [am_nop, am_nop, o_iload 1 115, o_push (.int 8) 117, am_nop, o_icmp (fun x y => y ≤ x) 158 120, am_nop, am_nop, o_aload 0 121, o_getR 8 38 23 124, am_nop, am_nop, o_aload 0 125, o_getI 8 38 24 128, am_nop, am_nop],
  [o_push (.int (-11)) 130, am_nop, o_iast 131, o_aload 0 132, o_dup 133, o_getI 8 38 24 136, am_nop, am_nop, o_push (.int 1) 137, o_bin (fun x y => x + y) 138, o_putI 8 38 24 141, am_nop, am_nop, o_iinc 1 1 144, am_nop, am_nop],
  [o_aload 0 145, o_getR 8 38 25 148, am_nop, am_nop, o_iload 1 149, o_push (.int 0) 150, o_zast 151, o_aload 0 152, o_cv 8 38 174 2 1 0 155, am_nop, am_nop, o_goto 172, am_nop, am_nop, o_aload 0 159, o_cv 8 38 180 2 2 0 162],
  [am_nop, am_nop, o_if (fun x => x = 0) 170 165, am_nop, am_nop, o_push (.int 0) 166, o_istore 3 167, o_goto 172, am_nop, am_nop, o_push (.int 0) 171, o_nret .boolean, o_aload 0 173, o_cv 8 38 182 3 0 0 176, am_nop, am_nop],
  [o_istore 2 177, o_goto 28, am_nop, am_nop, o_aload 0 181, o_getI 8 38 14 184, am_nop, am_nop, o_push (.int 3) 185, o_icmp (fun x y => ¬ x = y) 237 188, am_nop, am_nop, o_aload 0 189, o_getI 8 38 15 192, am_nop, am_nop],
  [o_push (.int 41) 194, am_nop, o_icmp (fun x y => ¬ x = y) 237 197, am_nop, am_nop, o_iload 1 198, o_if (fun x => x ≤ 0) 237 201, am_nop, am_nop, o_aload 0 202, o_push (.int 0) 203, o_cv 8 38 178 2 1 1 206, am_nop, am_nop, o_aload 0 207, o_dup 208],
  [o_getI 8 38 24 211, am_nop, am_nop, o_push (.int 1) 212, o_bin (fun x y => x - y) 213, o_putI 8 38 24 216, am_nop, am_nop, o_iinc 1 (-1) 219, am_nop, am_nop, o_aload 0 220, o_push (.int 6) 222, am_nop, o_cv 8 38 178 2 1 1 225, am_nop],
  [am_nop, o_aload 0 226, o_cv 8 38 182 3 0 0 229, am_nop, am_nop, o_istore 2 230, o_aload 0 231, o_cv 8 38 174 2 1 0 234, am_nop, am_nop, o_goto 28, am_nop, am_nop, o_aload 0 238, o_cv 8 38 179 1 0 0 241, am_nop],
  [am_nop, o_istore 4 243, am_nop, o_iload 4 245, am_nop, o_if (fun x => x = 0) 266 248, am_nop, am_nop, o_iload 4 250, am_nop, o_cs 177 1 0 1 253, am_nop, am_nop, o_push (.int 3) 254, o_icmp (fun x y => ¬ x = y) 268 257, am_nop],
  [am_nop, o_aload 0 258, o_getR 8 38 25 261, am_nop, am_nop, o_iload 1 262, o_iald 21 263, o_if (fun x => x = 0) 268 266, am_nop, am_nop, o_push (.int 0) 267, o_nret .boolean, o_aload 0 269, o_getR 8 38 25 272, am_nop, am_nop],
  [o_iload 1 273, o_iload 4 275, am_nop, o_cs 177 1 0 1 278, am_nop, am_nop, o_push (.int 3) 279, o_icmp (fun x y => x = y) 300 282, am_nop, am_nop, o_iload 4 284, am_nop, o_cs 177 1 0 1 287, am_nop, am_nop, o_push (.int 3) 288],
  [o_icmp (fun x y => x ≤ y) 304 291, am_nop, am_nop, o_aload 0 292, o_getR 8 38 25 295, am_nop, am_nop, o_iload 1 296, o_iald 21 297, o_if (fun x => x = 0) 304 300, am_nop, am_nop, o_push (.int 1) 301, o_goto 305, am_nop, am_nop],
  [o_push (.int 0) 305, o_zast 306, o_aload 0 307, o_iload 4 309, am_nop, o_cs 177 1 0 1 312, am_nop, am_nop, o_cv 8 38 178 2 1 1 315, am_nop, am_nop, o_aload 0 316, o_getR 8 38 23 319, am_nop, am_nop, o_aload 0 320],
  [o_getI 8 38 24 323, am_nop, am_nop, o_iload 4 325, am_nop, o_iast 326, o_aload 0 327, o_dup 328, o_getI 8 38 24 331, am_nop, am_nop, o_push (.int 1) 332, o_bin (fun x y => x + y) 333, o_putI 8 38 24 336, am_nop, am_nop],
  [o_push (.int 1) 337, o_istore 3 338, o_aload 0 339, o_cv 8 38 174 2 1 0 342, am_nop, am_nop, o_goto 28, am_nop, am_nop, o_aload 0 346, o_push (.int 0) 347, o_cv 8 38 178 2 1 1 350, am_nop, am_nop, o_iload 1 351, o_if (fun x => ¬ x = 0) 358 354],
  [am_nop, am_nop, o_push (.int 1) 355, o_goto 359, am_nop, am_nop, o_push (.int 0) 359, o_nret .boolean, am_nop, am_nop, am_nop, am_nop, am_nop, am_nop, am_nop, am_nop]]
theorem rX8_takesE_0 : am_allR (fun pc o => am_ok am_tb0 cX8_takesE RX8 5 (some .boolean) false pc o ∧ am_mo o) 0 (am_nth [] tX8_takesE 0) :=
  And.intro ⟨ok_iconst dX8_takesE_0 rfl ic_0, mo_push⟩ (
  And.intro ⟨ok_istore_n dX8_takesE_1 rfl (by decide) rfl, mo_istore⟩ (
  And.intro ⟨ok_iconst dX8_takesE_2 rfl ic_0, mo_push⟩ (
  And.intro ⟨ok_istore_n dX8_takesE_3 rfl (by decide) rfl, mo_istore⟩ (
  And.intro ⟨ok_iconst dX8_takesE_4 rfl ic_1, mo_push⟩ (
  And.intro ⟨ok_istore_n dX8_takesE_5 rfl (by decide) rfl, mo_istore⟩ (
  And.intro ⟨ok_aload_n dX8_takesE_6 rfl rfl, mo_aload⟩ (
  And.intro ⟨ok_iconst dX8_takesE_7 rfl ic_0, mo_push⟩ (
  And.intro ⟨ok_putI dX8_takesE_8 hclX8 inWX8 tyX8_ok nmX8 (by decide) (by decide) wd_912 rfl (tyX8_ok 21 (by decide)) (fun _ _ _ => rfl) rfl, mo_putI⟩ (
  And.intro ⟨ok_nop, mo_nop⟩ (
  And.intro ⟨ok_nop, mo_nop⟩ (
  And.intro ⟨ok_aload_n dX8_takesE_11 rfl rfl, mo_aload⟩ (
  And.intro ⟨ok_iconst dX8_takesE_12 rfl ic_0, mo_push⟩ (
  And.intro ⟨ok_putI dX8_takesE_13 hclX8 inWX8 tyX8_ok nmX8 (by decide) (by decide) wd_913 rfl (tyX8_ok 22 (by decide)) (fun _ _ _ => rfl) rfl, mo_putI⟩ (
  And.intro ⟨ok_nop, mo_nop⟩ (
  And.intro ⟨ok_nop, mo_nop⟩ (
  trivial))))))))))))))))
theorem rX8_takesE_1 : am_allR (fun pc o => am_ok am_tb0 cX8_takesE RX8 5 (some .boolean) false pc o ∧ am_mo o) 16 (am_nth [] tX8_takesE 1) :=
  And.intro ⟨ok_aload_n dX8_takesE_16 rfl rfl, mo_aload⟩ (
  And.intro ⟨ok_iconst dX8_takesE_17 rfl ic_0, mo_push⟩ (
  And.intro ⟨ok_putI dX8_takesE_18 hclX8 inWX8 tyX8_ok nmX8 (by decide) (by decide) wd_915 rfl (tyX8_ok 24 (by decide)) (fun _ _ _ => rfl) rfl, mo_putI⟩ (
  And.intro ⟨ok_nop, mo_nop⟩ (
  And.intro ⟨ok_nop, mo_nop⟩ (
  And.intro ⟨ok_aload_n dX8_takesE_21 rfl rfl, mo_aload⟩ (
  And.intro ⟨ok_getR dX8_takesE_22 hclX8 inWX8 (by decide) (by decide) wd_916 (fun _ _ _ => rfl) rfl, mo_getR⟩ (
  And.intro ⟨ok_nop, mo_nop⟩ (
  And.intro ⟨ok_nop, mo_nop⟩ (
  And.intro ⟨ok_iconst dX8_takesE_25 rfl ic_0, mo_push⟩ (
  And.intro ⟨ok_iconst dX8_takesE_26 rfl ic_0, mo_push⟩ (
  And.intro ⟨ok_zast dX8_takesE_27 rfl, mo_zast⟩ (
  And.intro ⟨ok_iload_n dX8_takesE_28 rfl rfl, mo_iload⟩ (
  And.intro ⟨ok_if_ne dX8_takesE_29 (by decide) rfl, mo_if⟩ (
  And.intro ⟨ok_nop, mo_nop⟩ (
  And.intro ⟨ok_nop, mo_nop⟩ (
  trivial))))))))))))))))
theorem rX8_takesE_2 : am_allR (fun pc o => am_ok am_tb0 cX8_takesE RX8 5 (some .boolean) false pc o ∧ am_mo o) 32 (am_nth [] tX8_takesE 2) :=
  And.intro ⟨ok_aload_n dX8_takesE_32 rfl rfl, mo_aload⟩ (
  And.intro ⟨ok_getI dX8_takesE_33 hclX8 inWX8 (by decide) (by decide) wd_905 (fun _ _ _ => rfl) rfl, mo_getI⟩ (
  And.intro ⟨ok_nop, mo_nop⟩ (
  And.intro ⟨ok_nop, mo_nop⟩ (
  And.intro ⟨ok_if_eq dX8_takesE_36 (by decide) rfl, mo_if⟩ (
  And.intro ⟨ok_nop, mo_nop⟩ (
  And.intro ⟨ok_nop, mo_nop⟩ (
  And.intro ⟨ok_iload_n dX8_takesE_39 rfl rfl, mo_iload⟩ (
  And.intro ⟨ok_if_eq dX8_takesE_40 (by decide) rfl, mo_if⟩ (
  And.intro ⟨ok_nop, mo_nop⟩ (
  And.intro ⟨ok_nop, mo_nop⟩ (
  And.intro ⟨ok_aload_n dX8_takesE_43 rfl rfl, mo_aload⟩ (
  And.intro ⟨ok_getI dX8_takesE_44 hclX8 inWX8 (by decide) (by decide) wd_905 (fun _ _ _ => rfl) rfl, mo_getI⟩ (
  And.intro ⟨ok_nop, mo_nop⟩ (
  And.intro ⟨ok_nop, mo_nop⟩ (
  And.intro ⟨ok_iconst dX8_takesE_47 rfl ic_3, mo_push⟩ (
  trivial))))))))))))))))
theorem rX8_takesE_3 : am_allR (fun pc o => am_ok am_tb0 cX8_takesE RX8 5 (some .boolean) false pc o ∧ am_mo o) 48 (am_nth [] tX8_takesE 3) :=
  And.intro ⟨ok_icmp_ne dX8_takesE_48 (by decide) rfl, mo_icmp⟩ (
  And.intro ⟨ok_nop, mo_nop⟩ (
  And.intro ⟨ok_nop, mo_nop⟩ (
  And.intro ⟨ok_aload_n dX8_takesE_51 rfl rfl, mo_aload⟩ (
  And.intro ⟨ok_getI dX8_takesE_52 hclX8 inWX8 (by decide) (by decide) wd_906 (fun _ _ _ => rfl) rfl, mo_getI⟩ (
  And.intro ⟨ok_nop, mo_nop⟩ (
  And.intro ⟨ok_nop, mo_nop⟩ (
  And.intro ⟨ok_bipush dX8_takesE_55 rfl bi_33, mo_push⟩ (
  And.intro ⟨ok_nop, mo_nop⟩ (
  And.intro ⟨ok_icmp_ne dX8_takesE_57 (by decide) rfl, mo_icmp⟩ (
  And.intro ⟨ok_nop, mo_nop⟩ (
  And.intro ⟨ok_nop, mo_nop⟩ (
  And.intro ⟨ok_iload_n dX8_takesE_60 rfl rfl, mo_iload⟩ (
  And.intro ⟨ok_bipush dX8_takesE_61 rfl bi_8, mo_push⟩ (
  And.intro ⟨ok_nop, mo_nop⟩ (
  And.intro ⟨ok_icmp_ge dX8_takesE_63 (by decide) rfl, mo_icmp⟩ (
  trivial))))))))))))))))
theorem rX8_takesE_4 : am_allR (fun pc o => am_ok am_tb0 cX8_takesE RX8 5 (some .boolean) false pc o ∧ am_mo o) 64 (am_nth [] tX8_takesE 4) :=
  And.intro ⟨ok_nop, mo_nop⟩ (
  And.intro ⟨ok_nop, mo_nop⟩ (
  And.intro ⟨ok_aload_n dX8_takesE_66 rfl rfl, mo_aload⟩ (
  And.intro ⟨ok_getR dX8_takesE_67 hclX8 inWX8 (by decide) (by decide) wd_914 (fun _ _ _ => rfl) rfl, mo_getR⟩ (
  And.intro ⟨ok_nop, mo_nop⟩ (
  And.intro ⟨ok_nop, mo_nop⟩ (
  And.intro ⟨ok_aload_n dX8_takesE_70 rfl rfl, mo_aload⟩ (
  And.intro ⟨ok_getI dX8_takesE_71 hclX8 inWX8 (by decide) (by decide) wd_915 (fun _ _ _ => rfl) rfl, mo_getI⟩ (
  And.intro ⟨ok_nop, mo_nop⟩ (
  And.intro ⟨ok_nop, mo_nop⟩ (
  And.intro ⟨ok_bipush dX8_takesE_74 rfl bi_m10, mo_push⟩ (
  And.intro ⟨ok_nop, mo_nop⟩ (
  And.intro ⟨ok_iast dX8_takesE_76 rfl, mo_iast⟩ (
  And.intro ⟨ok_aload_n dX8_takesE_77 rfl rfl, mo_aload⟩ (
  And.intro ⟨ok_dup dX8_takesE_78 rfl, mo_dup⟩ (
  And.intro ⟨ok_getI dX8_takesE_79 hclX8 inWX8 (by decide) (by decide) wd_915 (fun _ _ _ => rfl) rfl, mo_getI⟩ (
  trivial))))))))))))))))
theorem rX8_takesE_5 : am_allR (fun pc o => am_ok am_tb0 cX8_takesE RX8 5 (some .boolean) false pc o ∧ am_mo o) 80 (am_nth [] tX8_takesE 5) :=
  And.intro ⟨ok_nop, mo_nop⟩ (
  And.intro ⟨ok_nop, mo_nop⟩ (
  And.intro ⟨ok_iconst dX8_takesE_82 rfl ic_1, mo_push⟩ (
  And.intro ⟨ok_iadd dX8_takesE_83 rfl, mo_bin⟩ (
  And.intro ⟨ok_putI dX8_takesE_84 hclX8 inWX8 tyX8_ok nmX8 (by decide) (by decide) wd_915 rfl (tyX8_ok 24 (by decide)) (fun _ _ _ => rfl) rfl, mo_putI⟩ (
  And.intro ⟨ok_nop, mo_nop⟩ (
  And.intro ⟨ok_nop, mo_nop⟩ (
  And.intro ⟨ok_iinc dX8_takesE_87 ic_1 (by decide) rfl, mo_iinc⟩ (
  And.intro ⟨ok_nop, mo_nop⟩ (
  And.intro ⟨ok_nop, mo_nop⟩ (
  And.intro ⟨ok_aload_n dX8_takesE_90 rfl rfl, mo_aload⟩ (
  And.intro ⟨ok_cv (z := 174) dX8_takesE_91 hclX8 (by decide) wd_1258 wd_1260 wp_44 wd_8 wd_1261 rfl (by decide) ⟨rfl, hy_X8_go⟩ rfl, mo_cv⟩ (
  And.intro ⟨ok_nop, mo_nop⟩ (
  And.intro ⟨ok_nop, mo_nop⟩ (
  And.intro ⟨ok_goto dX8_takesE_94 (by decide), mo_goto⟩ (
  And.intro ⟨ok_nop, mo_nop⟩ (
  trivial))))))))))))))))
theorem rX8_takesE_6 : am_allR (fun pc o => am_ok am_tb0 cX8_takesE RX8 5 (some .boolean) false pc o ∧ am_mo o) 96 (am_nth [] tX8_takesE 6) :=
  And.intro ⟨ok_nop, mo_nop⟩ (
  And.intro ⟨ok_aload_n dX8_takesE_97 rfl rfl, mo_aload⟩ (
  And.intro ⟨ok_getI dX8_takesE_98 hclX8 inWX8 (by decide) (by decide) wd_905 (fun _ _ _ => rfl) rfl, mo_getI⟩ (
  And.intro ⟨ok_nop, mo_nop⟩ (
  And.intro ⟨ok_nop, mo_nop⟩ (
  And.intro ⟨ok_iconst dX8_takesE_101 rfl ic_3, mo_push⟩ (
  And.intro ⟨ok_icmp_ne dX8_takesE_102 (by decide) rfl, mo_icmp⟩ (
  And.intro ⟨ok_nop, mo_nop⟩ (
  And.intro ⟨ok_nop, mo_nop⟩ (
  And.intro ⟨ok_aload_n dX8_takesE_105 rfl rfl, mo_aload⟩ (
  And.intro ⟨ok_getI dX8_takesE_106 hclX8 inWX8 (by decide) (by decide) wd_906 (fun _ _ _ => rfl) rfl, mo_getI⟩ (
  And.intro ⟨ok_nop, mo_nop⟩ (
  And.intro ⟨ok_nop, mo_nop⟩ (
  And.intro ⟨ok_bipush dX8_takesE_109 rfl bi_40, mo_push⟩ (
  And.intro ⟨ok_nop, mo_nop⟩ (
  And.intro ⟨ok_icmp_ne dX8_takesE_111 (by decide) rfl, mo_icmp⟩ (
  trivial))))))))))))))))
theorem rX8_takesE_7 : am_allR (fun pc o => am_ok am_tb0 cX8_takesE RX8 5 (some .boolean) false pc o ∧ am_mo o) 112 (am_nth [] tX8_takesE 7) :=
  And.intro ⟨ok_nop, mo_nop⟩ (
  And.intro ⟨ok_nop, mo_nop⟩ (
  And.intro ⟨ok_iload_n dX8_takesE_114 rfl rfl, mo_iload⟩ (
  And.intro ⟨ok_bipush dX8_takesE_115 rfl bi_8, mo_push⟩ (
  And.intro ⟨ok_nop, mo_nop⟩ (
  And.intro ⟨ok_icmp_ge dX8_takesE_117 (by decide) rfl, mo_icmp⟩ (
  And.intro ⟨ok_nop, mo_nop⟩ (
  And.intro ⟨ok_nop, mo_nop⟩ (
  And.intro ⟨ok_aload_n dX8_takesE_120 rfl rfl, mo_aload⟩ (
  And.intro ⟨ok_getR dX8_takesE_121 hclX8 inWX8 (by decide) (by decide) wd_914 (fun _ _ _ => rfl) rfl, mo_getR⟩ (
  And.intro ⟨ok_nop, mo_nop⟩ (
  And.intro ⟨ok_nop, mo_nop⟩ (
  And.intro ⟨ok_aload_n dX8_takesE_124 rfl rfl, mo_aload⟩ (
  And.intro ⟨ok_getI dX8_takesE_125 hclX8 inWX8 (by decide) (by decide) wd_915 (fun _ _ _ => rfl) rfl, mo_getI⟩ (
  And.intro ⟨ok_nop, mo_nop⟩ (
  And.intro ⟨ok_nop, mo_nop⟩ (
  trivial))))))))))))))))
theorem rX8_takesE_8 : am_allR (fun pc o => am_ok am_tb0 cX8_takesE RX8 5 (some .boolean) false pc o ∧ am_mo o) 128 (am_nth [] tX8_takesE 8) :=
  And.intro ⟨ok_bipush dX8_takesE_128 rfl bi_m11, mo_push⟩ (
  And.intro ⟨ok_nop, mo_nop⟩ (
  And.intro ⟨ok_iast dX8_takesE_130 rfl, mo_iast⟩ (
  And.intro ⟨ok_aload_n dX8_takesE_131 rfl rfl, mo_aload⟩ (
  And.intro ⟨ok_dup dX8_takesE_132 rfl, mo_dup⟩ (
  And.intro ⟨ok_getI dX8_takesE_133 hclX8 inWX8 (by decide) (by decide) wd_915 (fun _ _ _ => rfl) rfl, mo_getI⟩ (
  And.intro ⟨ok_nop, mo_nop⟩ (
  And.intro ⟨ok_nop, mo_nop⟩ (
  And.intro ⟨ok_iconst dX8_takesE_136 rfl ic_1, mo_push⟩ (
  And.intro ⟨ok_iadd dX8_takesE_137 rfl, mo_bin⟩ (
  And.intro ⟨ok_putI dX8_takesE_138 hclX8 inWX8 tyX8_ok nmX8 (by decide) (by decide) wd_915 rfl (tyX8_ok 24 (by decide)) (fun _ _ _ => rfl) rfl, mo_putI⟩ (
  And.intro ⟨ok_nop, mo_nop⟩ (
  And.intro ⟨ok_nop, mo_nop⟩ (
  And.intro ⟨ok_iinc dX8_takesE_141 ic_1 (by decide) rfl, mo_iinc⟩ (
  And.intro ⟨ok_nop, mo_nop⟩ (
  And.intro ⟨ok_nop, mo_nop⟩ (
  trivial))))))))))))))))
theorem rX8_takesE_9 : am_allR (fun pc o => am_ok am_tb0 cX8_takesE RX8 5 (some .boolean) false pc o ∧ am_mo o) 144 (am_nth [] tX8_takesE 9) :=
  And.intro ⟨ok_aload_n dX8_takesE_144 rfl rfl, mo_aload⟩ (
  And.intro ⟨ok_getR dX8_takesE_145 hclX8 inWX8 (by decide) (by decide) wd_916 (fun _ _ _ => rfl) rfl, mo_getR⟩ (
  And.intro ⟨ok_nop, mo_nop⟩ (
  And.intro ⟨ok_nop, mo_nop⟩ (
  And.intro ⟨ok_iload_n dX8_takesE_148 rfl rfl, mo_iload⟩ (
  And.intro ⟨ok_iconst dX8_takesE_149 rfl ic_0, mo_push⟩ (
  And.intro ⟨ok_zast dX8_takesE_150 rfl, mo_zast⟩ (
  And.intro ⟨ok_aload_n dX8_takesE_151 rfl rfl, mo_aload⟩ (
  And.intro ⟨ok_cv (z := 174) dX8_takesE_152 hclX8 (by decide) wd_1258 wd_1260 wp_44 wd_8 wd_1261 rfl (by decide) ⟨rfl, hy_X8_go⟩ rfl, mo_cv⟩ (
  And.intro ⟨ok_nop, mo_nop⟩ (
  And.intro ⟨ok_nop, mo_nop⟩ (
  And.intro ⟨ok_goto dX8_takesE_155 (by decide), mo_goto⟩ (
  And.intro ⟨ok_nop, mo_nop⟩ (
  And.intro ⟨ok_nop, mo_nop⟩ (
  And.intro ⟨ok_aload_n dX8_takesE_158 rfl rfl, mo_aload⟩ (
  And.intro ⟨ok_cv (z := 180) dX8_takesE_159 hclX8 (by decide) wd_1278 wd_1280 wp_49 wd_8 wd_1281 rfl (by decide) ⟨rfl, hy_X8_takesPart⟩ rfl, mo_cv⟩ (
  trivial))))))))))))))))
theorem rX8_takesE_10 : am_allR (fun pc o => am_ok am_tb0 cX8_takesE RX8 5 (some .boolean) false pc o ∧ am_mo o) 160 (am_nth [] tX8_takesE 10) :=
  And.intro ⟨ok_nop, mo_nop⟩ (
  And.intro ⟨ok_nop, mo_nop⟩ (
  And.intro ⟨ok_if_eq dX8_takesE_162 (by decide) rfl, mo_if⟩ (
  And.intro ⟨ok_nop, mo_nop⟩ (
  And.intro ⟨ok_nop, mo_nop⟩ (
  And.intro ⟨ok_iconst dX8_takesE_165 rfl ic_0, mo_push⟩ (
  And.intro ⟨ok_istore_n dX8_takesE_166 rfl (by decide) rfl, mo_istore⟩ (
  And.intro ⟨ok_goto dX8_takesE_167 (by decide), mo_goto⟩ (
  And.intro ⟨ok_nop, mo_nop⟩ (
  And.intro ⟨ok_nop, mo_nop⟩ (
  And.intro ⟨ok_iconst dX8_takesE_170 rfl ic_0, mo_push⟩ (
  And.intro ⟨ok_nret dX8_takesE_171 rfl, mo_nret⟩ (
  And.intro ⟨ok_aload_n dX8_takesE_172 rfl rfl, mo_aload⟩ (
  And.intro ⟨ok_cv (z := 182) dX8_takesE_173 hclX8 (by decide) wd_1293 wd_1295 wp_52 wd_8 wd_1296 rfl (by decide) ⟨rfl, hy_X8_notsOpen⟩ rfl, mo_cv⟩ (
  And.intro ⟨ok_nop, mo_nop⟩ (
  And.intro ⟨ok_nop, mo_nop⟩ (
  trivial))))))))))))))))
theorem rX8_takesE_11 : am_allR (fun pc o => am_ok am_tb0 cX8_takesE RX8 5 (some .boolean) false pc o ∧ am_mo o) 176 (am_nth [] tX8_takesE 11) :=
  And.intro ⟨ok_istore_n dX8_takesE_176 rfl (by decide) rfl, mo_istore⟩ (
  And.intro ⟨ok_goto dX8_takesE_177 (by decide), mo_goto⟩ (
  And.intro ⟨ok_nop, mo_nop⟩ (
  And.intro ⟨ok_nop, mo_nop⟩ (
  And.intro ⟨ok_aload_n dX8_takesE_180 rfl rfl, mo_aload⟩ (
  And.intro ⟨ok_getI dX8_takesE_181 hclX8 inWX8 (by decide) (by decide) wd_905 (fun _ _ _ => rfl) rfl, mo_getI⟩ (
  And.intro ⟨ok_nop, mo_nop⟩ (
  And.intro ⟨ok_nop, mo_nop⟩ (
  And.intro ⟨ok_iconst dX8_takesE_184 rfl ic_3, mo_push⟩ (
  And.intro ⟨ok_icmp_ne dX8_takesE_185 (by decide) rfl, mo_icmp⟩ (
  And.intro ⟨ok_nop, mo_nop⟩ (
  And.intro ⟨ok_nop, mo_nop⟩ (
  And.intro ⟨ok_aload_n dX8_takesE_188 rfl rfl, mo_aload⟩ (
  And.intro ⟨ok_getI dX8_takesE_189 hclX8 inWX8 (by decide) (by decide) wd_906 (fun _ _ _ => rfl) rfl, mo_getI⟩ (
  And.intro ⟨ok_nop, mo_nop⟩ (
  And.intro ⟨ok_nop, mo_nop⟩ (
  trivial))))))))))))))))
theorem rX8_takesE_12 : am_allR (fun pc o => am_ok am_tb0 cX8_takesE RX8 5 (some .boolean) false pc o ∧ am_mo o) 192 (am_nth [] tX8_takesE 12) :=
  And.intro ⟨ok_bipush dX8_takesE_192 rfl bi_41, mo_push⟩ (
  And.intro ⟨ok_nop, mo_nop⟩ (
  And.intro ⟨ok_icmp_ne dX8_takesE_194 (by decide) rfl, mo_icmp⟩ (
  And.intro ⟨ok_nop, mo_nop⟩ (
  And.intro ⟨ok_nop, mo_nop⟩ (
  And.intro ⟨ok_iload_n dX8_takesE_197 rfl rfl, mo_iload⟩ (
  And.intro ⟨ok_if_le dX8_takesE_198 (by decide) rfl, mo_if⟩ (
  And.intro ⟨ok_nop, mo_nop⟩ (
  And.intro ⟨ok_nop, mo_nop⟩ (
  And.intro ⟨ok_aload_n dX8_takesE_201 rfl rfl, mo_aload⟩ (
  And.intro ⟨ok_iconst dX8_takesE_202 rfl ic_0, mo_push⟩ (
  And.intro ⟨ok_cv (z := 178) dX8_takesE_203 hclX8 (by decide) wd_1286 wd_1288 wp_51 wd_8 wd_1289 rfl (by decide) ⟨rfl, hy_X8_settle⟩ rfl, mo_cv⟩ (
  And.intro ⟨ok_nop, mo_nop⟩ (
  And.intro ⟨ok_nop, mo_nop⟩ (
  And.intro ⟨ok_aload_n dX8_takesE_206 rfl rfl, mo_aload⟩ (
  And.intro ⟨ok_dup dX8_takesE_207 rfl, mo_dup⟩ (
  trivial))))))))))))))))
theorem rX8_takesE_13 : am_allR (fun pc o => am_ok am_tb0 cX8_takesE RX8 5 (some .boolean) false pc o ∧ am_mo o) 208 (am_nth [] tX8_takesE 13) :=
  And.intro ⟨ok_getI dX8_takesE_208 hclX8 inWX8 (by decide) (by decide) wd_915 (fun _ _ _ => rfl) rfl, mo_getI⟩ (
  And.intro ⟨ok_nop, mo_nop⟩ (
  And.intro ⟨ok_nop, mo_nop⟩ (
  And.intro ⟨ok_iconst dX8_takesE_211 rfl ic_1, mo_push⟩ (
  And.intro ⟨ok_isub dX8_takesE_212 rfl, mo_bin⟩ (
  And.intro ⟨ok_putI dX8_takesE_213 hclX8 inWX8 tyX8_ok nmX8 (by decide) (by decide) wd_915 rfl (tyX8_ok 24 (by decide)) (fun _ _ _ => rfl) rfl, mo_putI⟩ (
  And.intro ⟨ok_nop, mo_nop⟩ (
  And.intro ⟨ok_nop, mo_nop⟩ (
  And.intro ⟨ok_iinc dX8_takesE_216 ic_m1 (by decide) rfl, mo_iinc⟩ (
  And.intro ⟨ok_nop, mo_nop⟩ (
  And.intro ⟨ok_nop, mo_nop⟩ (
  And.intro ⟨ok_aload_n dX8_takesE_219 rfl rfl, mo_aload⟩ (
  And.intro ⟨ok_bipush dX8_takesE_220 rfl bi_6, mo_push⟩ (
  And.intro ⟨ok_nop, mo_nop⟩ (
  And.intro ⟨ok_cv (z := 178) dX8_takesE_222 hclX8 (by decide) wd_1286 wd_1288 wp_51 wd_8 wd_1289 rfl (by decide) ⟨rfl, hy_X8_settle⟩ rfl, mo_cv⟩ (
  And.intro ⟨ok_nop, mo_nop⟩ (
  trivial))))))))))))))))
theorem rX8_takesE_14 : am_allR (fun pc o => am_ok am_tb0 cX8_takesE RX8 5 (some .boolean) false pc o ∧ am_mo o) 224 (am_nth [] tX8_takesE 14) :=
  And.intro ⟨ok_nop, mo_nop⟩ (
  And.intro ⟨ok_aload_n dX8_takesE_225 rfl rfl, mo_aload⟩ (
  And.intro ⟨ok_cv (z := 182) dX8_takesE_226 hclX8 (by decide) wd_1293 wd_1295 wp_52 wd_8 wd_1296 rfl (by decide) ⟨rfl, hy_X8_notsOpen⟩ rfl, mo_cv⟩ (
  And.intro ⟨ok_nop, mo_nop⟩ (
  And.intro ⟨ok_nop, mo_nop⟩ (
  And.intro ⟨ok_istore_n dX8_takesE_229 rfl (by decide) rfl, mo_istore⟩ (
  And.intro ⟨ok_aload_n dX8_takesE_230 rfl rfl, mo_aload⟩ (
  And.intro ⟨ok_cv (z := 174) dX8_takesE_231 hclX8 (by decide) wd_1258 wd_1260 wp_44 wd_8 wd_1261 rfl (by decide) ⟨rfl, hy_X8_go⟩ rfl, mo_cv⟩ (
  And.intro ⟨ok_nop, mo_nop⟩ (
  And.intro ⟨ok_nop, mo_nop⟩ (
  And.intro ⟨ok_goto dX8_takesE_234 (by decide), mo_goto⟩ (
  And.intro ⟨ok_nop, mo_nop⟩ (
  And.intro ⟨ok_nop, mo_nop⟩ (
  And.intro ⟨ok_aload_n dX8_takesE_237 rfl rfl, mo_aload⟩ (
  And.intro ⟨ok_cv (z := 179) dX8_takesE_238 hclX8 (by decide) wd_1297 wd_1299 wp_53 wd_8 wd_1300 rfl (by decide) ⟨rfl, hy_X8_signHere⟩ rfl, mo_cv⟩ (
  And.intro ⟨ok_nop, mo_nop⟩ (
  trivial))))))))))))))))
theorem rX8_takesE_15 : am_allR (fun pc o => am_ok am_tb0 cX8_takesE RX8 5 (some .boolean) false pc o ∧ am_mo o) 240 (am_nth [] tX8_takesE 15) :=
  And.intro ⟨ok_nop, mo_nop⟩ (
  And.intro ⟨ok_istore dX8_takesE_241 (by decide) rfl, mo_istore⟩ (
  And.intro ⟨ok_nop, mo_nop⟩ (
  And.intro ⟨ok_iload dX8_takesE_243 rfl, mo_iload⟩ (
  And.intro ⟨ok_nop, mo_nop⟩ (
  And.intro ⟨ok_if_eq dX8_takesE_245 (by decide) rfl, mo_if⟩ (
  And.intro ⟨ok_nop, mo_nop⟩ (
  And.intro ⟨ok_nop, mo_nop⟩ (
  And.intro ⟨ok_iload dX8_takesE_248 rfl, mo_iload⟩ (
  And.intro ⟨ok_nop, mo_nop⟩ (
  And.intro ⟨ok_cs (z := 177) dX8_takesE_250 wd_1290 wd_1291 wd_8 wd_1292 rfl (by decide) hy_X8_rank rfl, mo_cs⟩ (
  And.intro ⟨ok_nop, mo_nop⟩ (
  And.intro ⟨ok_nop, mo_nop⟩ (
  And.intro ⟨ok_iconst dX8_takesE_253 rfl ic_3, mo_push⟩ (
  And.intro ⟨ok_icmp_ne dX8_takesE_254 (by decide) rfl, mo_icmp⟩ (
  And.intro ⟨ok_nop, mo_nop⟩ (
  trivial))))))))))))))))
theorem rX8_takesE_16 : am_allR (fun pc o => am_ok am_tb0 cX8_takesE RX8 5 (some .boolean) false pc o ∧ am_mo o) 256 (am_nth [] tX8_takesE 16) :=
  And.intro ⟨ok_nop, mo_nop⟩ (
  And.intro ⟨ok_aload_n dX8_takesE_257 rfl rfl, mo_aload⟩ (
  And.intro ⟨ok_getR dX8_takesE_258 hclX8 inWX8 (by decide) (by decide) wd_916 (fun _ _ _ => rfl) rfl, mo_getR⟩ (
  And.intro ⟨ok_nop, mo_nop⟩ (
  And.intro ⟨ok_nop, mo_nop⟩ (
  And.intro ⟨ok_iload_n dX8_takesE_261 rfl rfl, mo_iload⟩ (
  And.intro ⟨ok_zald dX8_takesE_262 rfl, mo_iald⟩ (
  And.intro ⟨ok_if_eq dX8_takesE_263 (by decide) rfl, mo_if⟩ (
  And.intro ⟨ok_nop, mo_nop⟩ (
  And.intro ⟨ok_nop, mo_nop⟩ (
  And.intro ⟨ok_iconst dX8_takesE_266 rfl ic_0, mo_push⟩ (
  And.intro ⟨ok_nret dX8_takesE_267 rfl, mo_nret⟩ (
  And.intro ⟨ok_aload_n dX8_takesE_268 rfl rfl, mo_aload⟩ (
  And.intro ⟨ok_getR dX8_takesE_269 hclX8 inWX8 (by decide) (by decide) wd_916 (fun _ _ _ => rfl) rfl, mo_getR⟩ (
  And.intro ⟨ok_nop, mo_nop⟩ (
  And.intro ⟨ok_nop, mo_nop⟩ (
  trivial))))))))))))))))
theorem rX8_takesE_17 : am_allR (fun pc o => am_ok am_tb0 cX8_takesE RX8 5 (some .boolean) false pc o ∧ am_mo o) 272 (am_nth [] tX8_takesE 17) :=
  And.intro ⟨ok_iload_n dX8_takesE_272 rfl rfl, mo_iload⟩ (
  And.intro ⟨ok_iload dX8_takesE_273 rfl, mo_iload⟩ (
  And.intro ⟨ok_nop, mo_nop⟩ (
  And.intro ⟨ok_cs (z := 177) dX8_takesE_275 wd_1290 wd_1291 wd_8 wd_1292 rfl (by decide) hy_X8_rank rfl, mo_cs⟩ (
  And.intro ⟨ok_nop, mo_nop⟩ (
  And.intro ⟨ok_nop, mo_nop⟩ (
  And.intro ⟨ok_iconst dX8_takesE_278 rfl ic_3, mo_push⟩ (
  And.intro ⟨ok_icmp_eq dX8_takesE_279 (by decide) rfl, mo_icmp⟩ (
  And.intro ⟨ok_nop, mo_nop⟩ (
  And.intro ⟨ok_nop, mo_nop⟩ (
  And.intro ⟨ok_iload dX8_takesE_282 rfl, mo_iload⟩ (
  And.intro ⟨ok_nop, mo_nop⟩ (
  And.intro ⟨ok_cs (z := 177) dX8_takesE_284 wd_1290 wd_1291 wd_8 wd_1292 rfl (by decide) hy_X8_rank rfl, mo_cs⟩ (
  And.intro ⟨ok_nop, mo_nop⟩ (
  And.intro ⟨ok_nop, mo_nop⟩ (
  And.intro ⟨ok_iconst dX8_takesE_287 rfl ic_3, mo_push⟩ (
  trivial))))))))))))))))
theorem rX8_takesE_18 : am_allR (fun pc o => am_ok am_tb0 cX8_takesE RX8 5 (some .boolean) false pc o ∧ am_mo o) 288 (am_nth [] tX8_takesE 18) :=
  And.intro ⟨ok_icmp_le dX8_takesE_288 (by decide) rfl, mo_icmp⟩ (
  And.intro ⟨ok_nop, mo_nop⟩ (
  And.intro ⟨ok_nop, mo_nop⟩ (
  And.intro ⟨ok_aload_n dX8_takesE_291 rfl rfl, mo_aload⟩ (
  And.intro ⟨ok_getR dX8_takesE_292 hclX8 inWX8 (by decide) (by decide) wd_916 (fun _ _ _ => rfl) rfl, mo_getR⟩ (
  And.intro ⟨ok_nop, mo_nop⟩ (
  And.intro ⟨ok_nop, mo_nop⟩ (
  And.intro ⟨ok_iload_n dX8_takesE_295 rfl rfl, mo_iload⟩ (
  And.intro ⟨ok_zald dX8_takesE_296 rfl, mo_iald⟩ (
  And.intro ⟨ok_if_eq dX8_takesE_297 (by decide) rfl, mo_if⟩ (
  And.intro ⟨ok_nop, mo_nop⟩ (
  And.intro ⟨ok_nop, mo_nop⟩ (
  And.intro ⟨ok_iconst dX8_takesE_300 rfl ic_1, mo_push⟩ (
  And.intro ⟨ok_goto dX8_takesE_301 (by decide), mo_goto⟩ (
  And.intro ⟨ok_nop, mo_nop⟩ (
  And.intro ⟨ok_nop, mo_nop⟩ (
  trivial))))))))))))))))
theorem rX8_takesE_19 : am_allR (fun pc o => am_ok am_tb0 cX8_takesE RX8 5 (some .boolean) false pc o ∧ am_mo o) 304 (am_nth [] tX8_takesE 19) :=
  And.intro ⟨ok_iconst dX8_takesE_304 rfl ic_0, mo_push⟩ (
  And.intro ⟨ok_zast dX8_takesE_305 rfl, mo_zast⟩ (
  And.intro ⟨ok_aload_n dX8_takesE_306 rfl rfl, mo_aload⟩ (
  And.intro ⟨ok_iload dX8_takesE_307 rfl, mo_iload⟩ (
  And.intro ⟨ok_nop, mo_nop⟩ (
  And.intro ⟨ok_cs (z := 177) dX8_takesE_309 wd_1290 wd_1291 wd_8 wd_1292 rfl (by decide) hy_X8_rank rfl, mo_cs⟩ (
  And.intro ⟨ok_nop, mo_nop⟩ (
  And.intro ⟨ok_nop, mo_nop⟩ (
  And.intro ⟨ok_cv (z := 178) dX8_takesE_312 hclX8 (by decide) wd_1286 wd_1288 wp_51 wd_8 wd_1289 rfl (by decide) ⟨rfl, hy_X8_settle⟩ rfl, mo_cv⟩ (
  And.intro ⟨ok_nop, mo_nop⟩ (
  And.intro ⟨ok_nop, mo_nop⟩ (
  And.intro ⟨ok_aload_n dX8_takesE_315 rfl rfl, mo_aload⟩ (
  And.intro ⟨ok_getR dX8_takesE_316 hclX8 inWX8 (by decide) (by decide) wd_914 (fun _ _ _ => rfl) rfl, mo_getR⟩ (
  And.intro ⟨ok_nop, mo_nop⟩ (
  And.intro ⟨ok_nop, mo_nop⟩ (
  And.intro ⟨ok_aload_n dX8_takesE_319 rfl rfl, mo_aload⟩ (
  trivial))))))))))))))))
theorem rX8_takesE_20 : am_allR (fun pc o => am_ok am_tb0 cX8_takesE RX8 5 (some .boolean) false pc o ∧ am_mo o) 320 (am_nth [] tX8_takesE 20) :=
  And.intro ⟨ok_getI dX8_takesE_320 hclX8 inWX8 (by decide) (by decide) wd_915 (fun _ _ _ => rfl) rfl, mo_getI⟩ (
  And.intro ⟨ok_nop, mo_nop⟩ (
  And.intro ⟨ok_nop, mo_nop⟩ (
  And.intro ⟨ok_iload dX8_takesE_323 rfl, mo_iload⟩ (
  And.intro ⟨ok_nop, mo_nop⟩ (
  And.intro ⟨ok_iast dX8_takesE_325 rfl, mo_iast⟩ (
  And.intro ⟨ok_aload_n dX8_takesE_326 rfl rfl, mo_aload⟩ (
  And.intro ⟨ok_dup dX8_takesE_327 rfl, mo_dup⟩ (
  And.intro ⟨ok_getI dX8_takesE_328 hclX8 inWX8 (by decide) (by decide) wd_915 (fun _ _ _ => rfl) rfl, mo_getI⟩ (
  And.intro ⟨ok_nop, mo_nop⟩ (
  And.intro ⟨ok_nop, mo_nop⟩ (
  And.intro ⟨ok_iconst dX8_takesE_331 rfl ic_1, mo_push⟩ (
  And.intro ⟨ok_iadd dX8_takesE_332 rfl, mo_bin⟩ (
  And.intro ⟨ok_putI dX8_takesE_333 hclX8 inWX8 tyX8_ok nmX8 (by decide) (by decide) wd_915 rfl (tyX8_ok 24 (by decide)) (fun _ _ _ => rfl) rfl, mo_putI⟩ (
  And.intro ⟨ok_nop, mo_nop⟩ (
  And.intro ⟨ok_nop, mo_nop⟩ (
  trivial))))))))))))))))
theorem rX8_takesE_21 : am_allR (fun pc o => am_ok am_tb0 cX8_takesE RX8 5 (some .boolean) false pc o ∧ am_mo o) 336 (am_nth [] tX8_takesE 21) :=
  And.intro ⟨ok_iconst dX8_takesE_336 rfl ic_1, mo_push⟩ (
  And.intro ⟨ok_istore_n dX8_takesE_337 rfl (by decide) rfl, mo_istore⟩ (
  And.intro ⟨ok_aload_n dX8_takesE_338 rfl rfl, mo_aload⟩ (
  And.intro ⟨ok_cv (z := 174) dX8_takesE_339 hclX8 (by decide) wd_1258 wd_1260 wp_44 wd_8 wd_1261 rfl (by decide) ⟨rfl, hy_X8_go⟩ rfl, mo_cv⟩ (
  And.intro ⟨ok_nop, mo_nop⟩ (
  And.intro ⟨ok_nop, mo_nop⟩ (
  And.intro ⟨ok_goto dX8_takesE_342 (by decide), mo_goto⟩ (
  And.intro ⟨ok_nop, mo_nop⟩ (
  And.intro ⟨ok_nop, mo_nop⟩ (
  And.intro ⟨ok_aload_n dX8_takesE_345 rfl rfl, mo_aload⟩ (
  And.intro ⟨ok_iconst dX8_takesE_346 rfl ic_0, mo_push⟩ (
  And.intro ⟨ok_cv (z := 178) dX8_takesE_347 hclX8 (by decide) wd_1286 wd_1288 wp_51 wd_8 wd_1289 rfl (by decide) ⟨rfl, hy_X8_settle⟩ rfl, mo_cv⟩ (
  And.intro ⟨ok_nop, mo_nop⟩ (
  And.intro ⟨ok_nop, mo_nop⟩ (
  And.intro ⟨ok_iload_n dX8_takesE_350 rfl rfl, mo_iload⟩ (
  And.intro ⟨ok_if_ne dX8_takesE_351 (by decide) rfl, mo_if⟩ (
  trivial))))))))))))))))
theorem rX8_takesE_22 : am_allR (fun pc o => am_ok am_tb0 cX8_takesE RX8 5 (some .boolean) false pc o ∧ am_mo o) 352 (am_nth [] tX8_takesE 22) :=
  And.intro ⟨ok_nop, mo_nop⟩ (
  And.intro ⟨ok_nop, mo_nop⟩ (
  And.intro ⟨ok_iconst dX8_takesE_354 rfl ic_1, mo_push⟩ (
  And.intro ⟨ok_goto dX8_takesE_355 (by decide), mo_goto⟩ (
  And.intro ⟨ok_nop, mo_nop⟩ (
  And.intro ⟨ok_nop, mo_nop⟩ (
  And.intro ⟨ok_iconst dX8_takesE_358 rfl ic_0, mo_push⟩ (
  And.intro ⟨ok_nret dX8_takesE_359 rfl, mo_nret⟩ (
  And.intro ⟨ok_nop, mo_nop⟩ (
  And.intro ⟨ok_nop, mo_nop⟩ (
  And.intro ⟨ok_nop, mo_nop⟩ (
  And.intro ⟨ok_nop, mo_nop⟩ (
  And.intro ⟨ok_nop, mo_nop⟩ (
  And.intro ⟨ok_nop, mo_nop⟩ (
  And.intro ⟨ok_nop, mo_nop⟩ (
  And.intro ⟨ok_nop, mo_nop⟩ (
  trivial))))))))))))))))
theorem kX8_takesE : am_M1 am_tb0 cX8_takesE RX8 5 (some .boolean) false tX8_takesE := And.intro rX8_takesE_0 (And.intro rX8_takesE_1 (And.intro rX8_takesE_2 (And.intro rX8_takesE_3 (And.intro rX8_takesE_4 (And.intro rX8_takesE_5 (And.intro rX8_takesE_6 (And.intro rX8_takesE_7 (And.intro rX8_takesE_8 (And.intro rX8_takesE_9 (And.intro rX8_takesE_10 (And.intro rX8_takesE_11 (And.intro rX8_takesE_12 (And.intro rX8_takesE_13 (And.intro rX8_takesE_14 (And.intro rX8_takesE_15 (And.intro rX8_takesE_16 (And.intro rX8_takesE_17 (And.intro rX8_takesE_18 (And.intro rX8_takesE_19 (And.intro rX8_takesE_20 (And.intro rX8_takesE_21 (And.intro rX8_takesE_22 (trivial)))))))))))))))))))))))
def tX8_notsOpen : List (List am_Op) := [[o_push (.int 0) 1, o_istore 1 2, o_push (.int 0) 3, o_istore 2 4, o_iload 2 5, o_aload 0 6, o_getI 8 38 24 9, am_nop, am_nop, o_icmp (fun x y => y ≤ x) 37 12, am_nop, am_nop, o_iload 1 13, o_aload 0 14, o_getR 8 38 23 17, am_nop],
  [am_nop, o_iload 2 18, o_iald 20 19, o_push (.int (-10)) 21, am_nop, o_icmp (fun x y => ¬ x = y) 28 24, am_nop, am_nop, o_push (.int 1) 25, o_goto 29, am_nop, am_nop, o_push (.int 0) 29, o_bin (fun x y => x + y) 30, o_istore 1 31, o_iinc 2 1 34],
  [am_nop, am_nop, o_goto 4, am_nop, am_nop, o_iload 1 38, o_iret, am_nop, am_nop, am_nop, am_nop, am_nop, am_nop, am_nop, am_nop, am_nop]]
theorem rX8_notsOpen_0 : am_allR (fun pc o => am_ok am_tb0 cX8_notsOpen RX8 3 (some .int) false pc o ∧ am_mo o) 0 (am_nth [] tX8_notsOpen 0) :=
  And.intro ⟨ok_iconst dX8_notsOpen_0 rfl ic_0, mo_push⟩ (
  And.intro ⟨ok_istore_n dX8_notsOpen_1 rfl (by decide) rfl, mo_istore⟩ (
  And.intro ⟨ok_iconst dX8_notsOpen_2 rfl ic_0, mo_push⟩ (
  And.intro ⟨ok_istore_n dX8_notsOpen_3 rfl (by decide) rfl, mo_istore⟩ (
  And.intro ⟨ok_iload_n dX8_notsOpen_4 rfl rfl, mo_iload⟩ (
  And.intro ⟨ok_aload_n dX8_notsOpen_5 rfl rfl, mo_aload⟩ (
  And.intro ⟨ok_getI dX8_notsOpen_6 hclX8 inWX8 (by decide) (by decide) wd_915 (fun _ _ _ => rfl) rfl, mo_getI⟩ (
  And.intro ⟨ok_nop, mo_nop⟩ (
  And.intro ⟨ok_nop, mo_nop⟩ (
  And.intro ⟨ok_icmp_ge dX8_notsOpen_9 (by decide) rfl, mo_icmp⟩ (
  And.intro ⟨ok_nop, mo_nop⟩ (
  And.intro ⟨ok_nop, mo_nop⟩ (
  And.intro ⟨ok_iload_n dX8_notsOpen_12 rfl rfl, mo_iload⟩ (
  And.intro ⟨ok_aload_n dX8_notsOpen_13 rfl rfl, mo_aload⟩ (
  And.intro ⟨ok_getR dX8_notsOpen_14 hclX8 inWX8 (by decide) (by decide) wd_914 (fun _ _ _ => rfl) rfl, mo_getR⟩ (
  And.intro ⟨ok_nop, mo_nop⟩ (
  trivial))))))))))))))))
theorem rX8_notsOpen_1 : am_allR (fun pc o => am_ok am_tb0 cX8_notsOpen RX8 3 (some .int) false pc o ∧ am_mo o) 16 (am_nth [] tX8_notsOpen 1) :=
  And.intro ⟨ok_nop, mo_nop⟩ (
  And.intro ⟨ok_iload_n dX8_notsOpen_17 rfl rfl, mo_iload⟩ (
  And.intro ⟨ok_iald dX8_notsOpen_18 rfl, mo_iald⟩ (
  And.intro ⟨ok_bipush dX8_notsOpen_19 rfl bi_m10, mo_push⟩ (
  And.intro ⟨ok_nop, mo_nop⟩ (
  And.intro ⟨ok_icmp_ne dX8_notsOpen_21 (by decide) rfl, mo_icmp⟩ (
  And.intro ⟨ok_nop, mo_nop⟩ (
  And.intro ⟨ok_nop, mo_nop⟩ (
  And.intro ⟨ok_iconst dX8_notsOpen_24 rfl ic_1, mo_push⟩ (
  And.intro ⟨ok_goto dX8_notsOpen_25 (by decide), mo_goto⟩ (
  And.intro ⟨ok_nop, mo_nop⟩ (
  And.intro ⟨ok_nop, mo_nop⟩ (
  And.intro ⟨ok_iconst dX8_notsOpen_28 rfl ic_0, mo_push⟩ (
  And.intro ⟨ok_iadd dX8_notsOpen_29 rfl, mo_bin⟩ (
  And.intro ⟨ok_istore_n dX8_notsOpen_30 rfl (by decide) rfl, mo_istore⟩ (
  And.intro ⟨ok_iinc dX8_notsOpen_31 ic_1 (by decide) rfl, mo_iinc⟩ (
  trivial))))))))))))))))
theorem rX8_notsOpen_2 : am_allR (fun pc o => am_ok am_tb0 cX8_notsOpen RX8 3 (some .int) false pc o ∧ am_mo o) 32 (am_nth [] tX8_notsOpen 2) :=
  And.intro ⟨ok_nop, mo_nop⟩ (
  And.intro ⟨ok_nop, mo_nop⟩ (
  And.intro ⟨ok_goto dX8_notsOpen_34 (by decide), mo_goto⟩ (
  And.intro ⟨ok_nop, mo_nop⟩ (
  And.intro ⟨ok_nop, mo_nop⟩ (
  And.intro ⟨ok_iload_n dX8_notsOpen_37 rfl rfl, mo_iload⟩ (
  And.intro ⟨ok_iret dX8_notsOpen_38 rfl, mo_iret⟩ (
  And.intro ⟨ok_nop, mo_nop⟩ (
  And.intro ⟨ok_nop, mo_nop⟩ (
  And.intro ⟨ok_nop, mo_nop⟩ (
  And.intro ⟨ok_nop, mo_nop⟩ (
  And.intro ⟨ok_nop, mo_nop⟩ (
  And.intro ⟨ok_nop, mo_nop⟩ (
  And.intro ⟨ok_nop, mo_nop⟩ (
  And.intro ⟨ok_nop, mo_nop⟩ (
  And.intro ⟨ok_nop, mo_nop⟩ (
  trivial))))))))))))))))
theorem kX8_notsOpen : am_M1 am_tb0 cX8_notsOpen RX8 3 (some .int) false tX8_notsOpen := And.intro rX8_notsOpen_0 (And.intro rX8_notsOpen_1 (And.intro rX8_notsOpen_2 (trivial)))
def tX8_text : List (List am_Op) := [[o_aload 0 1, o_push (.int 0) 2, o_putI 8 38 12 5, am_nop, am_nop, o_aload 0 6, o_push (.int (-1)) 7, o_putI 8 38 16 10, am_nop, am_nop, o_aload 0 11, o_cv 8 38 174 2 1 0 14, am_nop, am_nop, o_aload 0 15, o_cv 8 38 175 5 2 0 18],
  [am_nop, am_nop, o_if (fun x => x = 0) 32 21, am_nop, am_nop, o_aload 0 22, o_cv 8 38 181 5 3 0 25, am_nop, am_nop, o_if (fun x => x = 0) 32 28, am_nop, am_nop, o_push (.int 1) 29, o_goto 33, am_nop, am_nop],
  [o_push (.int 0) 33, o_istore 1 34, o_aload 0 35, o_push (.int 0) 36, o_putI 8 38 11 39, am_nop, am_nop, o_iload 1 40, o_if (fun x => ¬ x = 0) 51 43, am_nop, am_nop, o_push (.int (-100)) 45, am_nop, o_aload 0 46, o_getI 8 38 13 49, am_nop],
  [am_nop, o_bin (fun x y => x - y) 50, o_iret, o_aload 0 52, o_getR 8 38 0 55, am_nop, am_nop, o_push (.int 8) 57, am_nop, o_iald 20 58, o_push (.int 14) 60, am_nop, o_icmp (fun x y => ¬ x = y) 66 63, am_nop, am_nop, o_push (.int (-1000000003)) 65],
  [am_nop, o_iret, o_aload 0 67, o_getR 8 38 0 70, am_nop, am_nop, o_push (.int 8) 72, am_nop, o_iald 20 73, o_istore 2 74, o_aload 0 75, o_getR 8 38 0 78, am_nop, am_nop, o_push (.int 76) 80, am_nop],
  [o_push (.int 2) 81, o_iload 2 82, o_bin (fun x y => x * y) 83, o_bin (fun x y => x + y) 84, o_push (.int 1000) 87, am_nop, am_nop, o_aload 0 88, o_getI 8 38 17 91, am_nop, am_nop, o_bin (fun x y => x * y) 92, o_aload 0 93, o_getI 8 38 21 96, am_nop, am_nop],
  [o_bin (fun x y => x + y) 97, o_iast 98, o_aload 0 99, o_getR 8 38 0 102, am_nop, am_nop, o_push (.int 76) 104, am_nop, o_push (.int 2) 105, o_iload 2 106, o_bin (fun x y => x * y) 107, o_bin (fun x y => x + y) 108, o_push (.int 1) 109, o_bin (fun x y => x + y) 110, o_aload 0 111, o_getI 8 38 22 114],
  [am_nop, am_nop, o_iast 115, o_push (.int 0) 116, o_istore 3 117, o_iload 3 118, o_aload 0 119, o_getI 8 38 21 122, am_nop, am_nop, o_icmp (fun x y => y ≤ x) 151 125, am_nop, am_nop, o_aload 0 126, o_getR 8 38 0 129, am_nop],
  [am_nop, o_push (.int 104) 131, am_nop, o_push (.int 96) 133, am_nop, o_iload 2 134, o_bin (fun x y => x * y) 135, o_bin (fun x y => x + y) 136, o_iload 3 137, o_bin (fun x y => x + y) 138, o_aload 0 139, o_getR 8 38 20 142, am_nop, am_nop, o_iload 3 143, o_iald 20 144],
  [o_iast 145, o_iinc 3 1 148, am_nop, am_nop, o_goto 117, am_nop, am_nop, o_aload 0 152, o_getR 8 38 0 155, am_nop, am_nop, o_push (.int 8) 157, am_nop, o_dup2 158, o_iald 20 159, o_push (.int 1) 160],
  [o_bin (fun x y => x + y) 161, o_iast 162, o_iload 2 163, o_iret, am_nop, am_nop, am_nop, am_nop, am_nop, am_nop, am_nop, am_nop, am_nop, am_nop, am_nop, am_nop]]
theorem rX8_text_0 : am_allR (fun pc o => am_ok am_tb0 cX8_text RX8 4 (some .int) false pc o ∧ am_mo o) 0 (am_nth [] tX8_text 0) :=
  And.intro ⟨ok_aload_n dX8_text_0 rfl rfl, mo_aload⟩ (
  And.intro ⟨ok_iconst dX8_text_1 rfl ic_0, mo_push⟩ (
  And.intro ⟨ok_putI dX8_text_2 hclX8 inWX8 tyX8_ok nmX8 (by decide) (by decide) wd_903 rfl (tyX8_ok 12 (by decide)) (fun _ _ _ => rfl) rfl, mo_putI⟩ (
  And.intro ⟨ok_nop, mo_nop⟩ (
  And.intro ⟨ok_nop, mo_nop⟩ (
  And.intro ⟨ok_aload_n dX8_text_5 rfl rfl, mo_aload⟩ (
  And.intro ⟨ok_iconst dX8_text_6 rfl ic_m1, mo_push⟩ (
  And.intro ⟨ok_putI dX8_text_7 hclX8 inWX8 tyX8_ok nmX8 (by decide) (by decide) wd_907 rfl (tyX8_ok 16 (by decide)) (fun _ _ _ => rfl) rfl, mo_putI⟩ (
  And.intro ⟨ok_nop, mo_nop⟩ (
  And.intro ⟨ok_nop, mo_nop⟩ (
  And.intro ⟨ok_aload_n dX8_text_10 rfl rfl, mo_aload⟩ (
  And.intro ⟨ok_cv (z := 174) dX8_text_11 hclX8 (by decide) wd_1258 wd_1260 wp_44 wd_8 wd_1261 rfl (by decide) ⟨rfl, hy_X8_go⟩ rfl, mo_cv⟩ (
  And.intro ⟨ok_nop, mo_nop⟩ (
  And.intro ⟨ok_nop, mo_nop⟩ (
  And.intro ⟨ok_aload_n dX8_text_14 rfl rfl, mo_aload⟩ (
  And.intro ⟨ok_cv (z := 175) dX8_text_15 hclX8 (by decide) wd_1270 wd_1272 wp_47 wd_8 wd_1273 rfl (by decide) ⟨rfl, hy_X8_takesKey⟩ rfl, mo_cv⟩ (
  trivial))))))))))))))))
theorem rX8_text_1 : am_allR (fun pc o => am_ok am_tb0 cX8_text RX8 4 (some .int) false pc o ∧ am_mo o) 16 (am_nth [] tX8_text 1) :=
  And.intro ⟨ok_nop, mo_nop⟩ (
  And.intro ⟨ok_nop, mo_nop⟩ (
  And.intro ⟨ok_if_eq dX8_text_18 (by decide) rfl, mo_if⟩ (
  And.intro ⟨ok_nop, mo_nop⟩ (
  And.intro ⟨ok_nop, mo_nop⟩ (
  And.intro ⟨ok_aload_n dX8_text_21 rfl rfl, mo_aload⟩ (
  And.intro ⟨ok_cv (z := 181) dX8_text_22 hclX8 (by decide) wd_1274 wd_1276 wp_48 wd_8 wd_1277 rfl (by decide) ⟨rfl, hy_X8_takesE⟩ rfl, mo_cv⟩ (
  And.intro ⟨ok_nop, mo_nop⟩ (
  And.intro ⟨ok_nop, mo_nop⟩ (
  And.intro ⟨ok_if_eq dX8_text_25 (by decide) rfl, mo_if⟩ (
  And.intro ⟨ok_nop, mo_nop⟩ (
  And.intro ⟨ok_nop, mo_nop⟩ (
  And.intro ⟨ok_iconst dX8_text_28 rfl ic_1, mo_push⟩ (
  And.intro ⟨ok_goto dX8_text_29 (by decide), mo_goto⟩ (
  And.intro ⟨ok_nop, mo_nop⟩ (
  And.intro ⟨ok_nop, mo_nop⟩ (
  trivial))))))))))))))))
theorem rX8_text_2 : am_allR (fun pc o => am_ok am_tb0 cX8_text RX8 4 (some .int) false pc o ∧ am_mo o) 32 (am_nth [] tX8_text 2) :=
  And.intro ⟨ok_iconst dX8_text_32 rfl ic_0, mo_push⟩ (
  And.intro ⟨ok_istore_n dX8_text_33 rfl (by decide) rfl, mo_istore⟩ (
  And.intro ⟨ok_aload_n dX8_text_34 rfl rfl, mo_aload⟩ (
  And.intro ⟨ok_iconst dX8_text_35 rfl ic_0, mo_push⟩ (
  And.intro ⟨ok_putI dX8_text_36 hclX8 inWX8 tyX8_ok nmX8 (by decide) (by decide) wd_902 rfl (tyX8_ok 11 (by decide)) (fun _ _ _ => rfl) rfl, mo_putI⟩ (
  And.intro ⟨ok_nop, mo_nop⟩ (
  And.intro ⟨ok_nop, mo_nop⟩ (
  And.intro ⟨ok_iload_n dX8_text_39 rfl rfl, mo_iload⟩ (
  And.intro ⟨ok_if_ne dX8_text_40 (by decide) rfl, mo_if⟩ (
  And.intro ⟨ok_nop, mo_nop⟩ (
  And.intro ⟨ok_nop, mo_nop⟩ (
  And.intro ⟨ok_bipush dX8_text_43 rfl bi_m100, mo_push⟩ (
  And.intro ⟨ok_nop, mo_nop⟩ (
  And.intro ⟨ok_aload_n dX8_text_45 rfl rfl, mo_aload⟩ (
  And.intro ⟨ok_getI dX8_text_46 hclX8 inWX8 (by decide) (by decide) wd_904 (fun _ _ _ => rfl) rfl, mo_getI⟩ (
  And.intro ⟨ok_nop, mo_nop⟩ (
  trivial))))))))))))))))
theorem rX8_text_3 : am_allR (fun pc o => am_ok am_tb0 cX8_text RX8 4 (some .int) false pc o ∧ am_mo o) 48 (am_nth [] tX8_text 3) :=
  And.intro ⟨ok_nop, mo_nop⟩ (
  And.intro ⟨ok_isub dX8_text_49 rfl, mo_bin⟩ (
  And.intro ⟨ok_iret dX8_text_50 rfl, mo_iret⟩ (
  And.intro ⟨ok_aload_n dX8_text_51 rfl rfl, mo_aload⟩ (
  And.intro ⟨ok_getR dX8_text_52 hclX8 inWX8 (by decide) (by decide) wd_891 (fun _ _ _ => rfl) rfl, mo_getR⟩ (
  And.intro ⟨ok_nop, mo_nop⟩ (
  And.intro ⟨ok_nop, mo_nop⟩ (
  And.intro ⟨ok_bipush dX8_text_55 rfl bi_8, mo_push⟩ (
  And.intro ⟨ok_nop, mo_nop⟩ (
  And.intro ⟨ok_iald dX8_text_57 rfl, mo_iald⟩ (
  And.intro ⟨ok_bipush dX8_text_58 rfl bi_14, mo_push⟩ (
  And.intro ⟨ok_nop, mo_nop⟩ (
  And.intro ⟨ok_icmp_ne dX8_text_60 (by decide) rfl, mo_icmp⟩ (
  And.intro ⟨ok_nop, mo_nop⟩ (
  And.intro ⟨ok_nop, mo_nop⟩ (
  And.intro ⟨ok_ldc dX8_text_63 rfl wd_1022, mo_push⟩ (
  trivial))))))))))))))))
theorem rX8_text_4 : am_allR (fun pc o => am_ok am_tb0 cX8_text RX8 4 (some .int) false pc o ∧ am_mo o) 64 (am_nth [] tX8_text 4) :=
  And.intro ⟨ok_nop, mo_nop⟩ (
  And.intro ⟨ok_iret dX8_text_65 rfl, mo_iret⟩ (
  And.intro ⟨ok_aload_n dX8_text_66 rfl rfl, mo_aload⟩ (
  And.intro ⟨ok_getR dX8_text_67 hclX8 inWX8 (by decide) (by decide) wd_891 (fun _ _ _ => rfl) rfl, mo_getR⟩ (
  And.intro ⟨ok_nop, mo_nop⟩ (
  And.intro ⟨ok_nop, mo_nop⟩ (
  And.intro ⟨ok_bipush dX8_text_70 rfl bi_8, mo_push⟩ (
  And.intro ⟨ok_nop, mo_nop⟩ (
  And.intro ⟨ok_iald dX8_text_72 rfl, mo_iald⟩ (
  And.intro ⟨ok_istore_n dX8_text_73 rfl (by decide) rfl, mo_istore⟩ (
  And.intro ⟨ok_aload_n dX8_text_74 rfl rfl, mo_aload⟩ (
  And.intro ⟨ok_getR dX8_text_75 hclX8 inWX8 (by decide) (by decide) wd_891 (fun _ _ _ => rfl) rfl, mo_getR⟩ (
  And.intro ⟨ok_nop, mo_nop⟩ (
  And.intro ⟨ok_nop, mo_nop⟩ (
  And.intro ⟨ok_bipush dX8_text_78 rfl bi_76, mo_push⟩ (
  And.intro ⟨ok_nop, mo_nop⟩ (
  trivial))))))))))))))))
theorem rX8_text_5 : am_allR (fun pc o => am_ok am_tb0 cX8_text RX8 4 (some .int) false pc o ∧ am_mo o) 80 (am_nth [] tX8_text 5) :=
  And.intro ⟨ok_iconst dX8_text_80 rfl ic_2, mo_push⟩ (
  And.intro ⟨ok_iload_n dX8_text_81 rfl rfl, mo_iload⟩ (
  And.intro ⟨ok_imul dX8_text_82 rfl, mo_bin⟩ (
  And.intro ⟨ok_iadd dX8_text_83 rfl, mo_bin⟩ (
  And.intro ⟨ok_sipush dX8_text_84 rfl si_1000, mo_push⟩ (
  And.intro ⟨ok_nop, mo_nop⟩ (
  And.intro ⟨ok_nop, mo_nop⟩ (
  And.intro ⟨ok_aload_n dX8_text_87 rfl rfl, mo_aload⟩ (
  And.intro ⟨ok_getI dX8_text_88 hclX8 inWX8 (by decide) (by decide) wd_908 (fun _ _ _ => rfl) rfl, mo_getI⟩ (
  And.intro ⟨ok_nop, mo_nop⟩ (
  And.intro ⟨ok_nop, mo_nop⟩ (
  And.intro ⟨ok_imul dX8_text_91 rfl, mo_bin⟩ (
  And.intro ⟨ok_aload_n dX8_text_92 rfl rfl, mo_aload⟩ (
  And.intro ⟨ok_getI dX8_text_93 hclX8 inWX8 (by decide) (by decide) wd_912 (fun _ _ _ => rfl) rfl, mo_getI⟩ (
  And.intro ⟨ok_nop, mo_nop⟩ (
  And.intro ⟨ok_nop, mo_nop⟩ (
  trivial))))))))))))))))
theorem rX8_text_6 : am_allR (fun pc o => am_ok am_tb0 cX8_text RX8 4 (some .int) false pc o ∧ am_mo o) 96 (am_nth [] tX8_text 6) :=
  And.intro ⟨ok_iadd dX8_text_96 rfl, mo_bin⟩ (
  And.intro ⟨ok_iast dX8_text_97 rfl, mo_iast⟩ (
  And.intro ⟨ok_aload_n dX8_text_98 rfl rfl, mo_aload⟩ (
  And.intro ⟨ok_getR dX8_text_99 hclX8 inWX8 (by decide) (by decide) wd_891 (fun _ _ _ => rfl) rfl, mo_getR⟩ (
  And.intro ⟨ok_nop, mo_nop⟩ (
  And.intro ⟨ok_nop, mo_nop⟩ (
  And.intro ⟨ok_bipush dX8_text_102 rfl bi_76, mo_push⟩ (
  And.intro ⟨ok_nop, mo_nop⟩ (
  And.intro ⟨ok_iconst dX8_text_104 rfl ic_2, mo_push⟩ (
  And.intro ⟨ok_iload_n dX8_text_105 rfl rfl, mo_iload⟩ (
  And.intro ⟨ok_imul dX8_text_106 rfl, mo_bin⟩ (
  And.intro ⟨ok_iadd dX8_text_107 rfl, mo_bin⟩ (
  And.intro ⟨ok_iconst dX8_text_108 rfl ic_1, mo_push⟩ (
  And.intro ⟨ok_iadd dX8_text_109 rfl, mo_bin⟩ (
  And.intro ⟨ok_aload_n dX8_text_110 rfl rfl, mo_aload⟩ (
  And.intro ⟨ok_getI dX8_text_111 hclX8 inWX8 (by decide) (by decide) wd_913 (fun _ _ _ => rfl) rfl, mo_getI⟩ (
  trivial))))))))))))))))
theorem rX8_text_7 : am_allR (fun pc o => am_ok am_tb0 cX8_text RX8 4 (some .int) false pc o ∧ am_mo o) 112 (am_nth [] tX8_text 7) :=
  And.intro ⟨ok_nop, mo_nop⟩ (
  And.intro ⟨ok_nop, mo_nop⟩ (
  And.intro ⟨ok_iast dX8_text_114 rfl, mo_iast⟩ (
  And.intro ⟨ok_iconst dX8_text_115 rfl ic_0, mo_push⟩ (
  And.intro ⟨ok_istore_n dX8_text_116 rfl (by decide) rfl, mo_istore⟩ (
  And.intro ⟨ok_iload_n dX8_text_117 rfl rfl, mo_iload⟩ (
  And.intro ⟨ok_aload_n dX8_text_118 rfl rfl, mo_aload⟩ (
  And.intro ⟨ok_getI dX8_text_119 hclX8 inWX8 (by decide) (by decide) wd_912 (fun _ _ _ => rfl) rfl, mo_getI⟩ (
  And.intro ⟨ok_nop, mo_nop⟩ (
  And.intro ⟨ok_nop, mo_nop⟩ (
  And.intro ⟨ok_icmp_ge dX8_text_122 (by decide) rfl, mo_icmp⟩ (
  And.intro ⟨ok_nop, mo_nop⟩ (
  And.intro ⟨ok_nop, mo_nop⟩ (
  And.intro ⟨ok_aload_n dX8_text_125 rfl rfl, mo_aload⟩ (
  And.intro ⟨ok_getR dX8_text_126 hclX8 inWX8 (by decide) (by decide) wd_891 (fun _ _ _ => rfl) rfl, mo_getR⟩ (
  And.intro ⟨ok_nop, mo_nop⟩ (
  trivial))))))))))))))))
theorem rX8_text_8 : am_allR (fun pc o => am_ok am_tb0 cX8_text RX8 4 (some .int) false pc o ∧ am_mo o) 128 (am_nth [] tX8_text 8) :=
  And.intro ⟨ok_nop, mo_nop⟩ (
  And.intro ⟨ok_bipush dX8_text_129 rfl bi_104, mo_push⟩ (
  And.intro ⟨ok_nop, mo_nop⟩ (
  And.intro ⟨ok_bipush dX8_text_131 rfl bi_96, mo_push⟩ (
  And.intro ⟨ok_nop, mo_nop⟩ (
  And.intro ⟨ok_iload_n dX8_text_133 rfl rfl, mo_iload⟩ (
  And.intro ⟨ok_imul dX8_text_134 rfl, mo_bin⟩ (
  And.intro ⟨ok_iadd dX8_text_135 rfl, mo_bin⟩ (
  And.intro ⟨ok_iload_n dX8_text_136 rfl rfl, mo_iload⟩ (
  And.intro ⟨ok_iadd dX8_text_137 rfl, mo_bin⟩ (
  And.intro ⟨ok_aload_n dX8_text_138 rfl rfl, mo_aload⟩ (
  And.intro ⟨ok_getR dX8_text_139 hclX8 inWX8 (by decide) (by decide) wd_911 (fun _ _ _ => rfl) rfl, mo_getR⟩ (
  And.intro ⟨ok_nop, mo_nop⟩ (
  And.intro ⟨ok_nop, mo_nop⟩ (
  And.intro ⟨ok_iload_n dX8_text_142 rfl rfl, mo_iload⟩ (
  And.intro ⟨ok_iald dX8_text_143 rfl, mo_iald⟩ (
  trivial))))))))))))))))
theorem rX8_text_9 : am_allR (fun pc o => am_ok am_tb0 cX8_text RX8 4 (some .int) false pc o ∧ am_mo o) 144 (am_nth [] tX8_text 9) :=
  And.intro ⟨ok_iast dX8_text_144 rfl, mo_iast⟩ (
  And.intro ⟨ok_iinc dX8_text_145 ic_1 (by decide) rfl, mo_iinc⟩ (
  And.intro ⟨ok_nop, mo_nop⟩ (
  And.intro ⟨ok_nop, mo_nop⟩ (
  And.intro ⟨ok_goto dX8_text_148 (by decide), mo_goto⟩ (
  And.intro ⟨ok_nop, mo_nop⟩ (
  And.intro ⟨ok_nop, mo_nop⟩ (
  And.intro ⟨ok_aload_n dX8_text_151 rfl rfl, mo_aload⟩ (
  And.intro ⟨ok_getR dX8_text_152 hclX8 inWX8 (by decide) (by decide) wd_891 (fun _ _ _ => rfl) rfl, mo_getR⟩ (
  And.intro ⟨ok_nop, mo_nop⟩ (
  And.intro ⟨ok_nop, mo_nop⟩ (
  And.intro ⟨ok_bipush dX8_text_155 rfl bi_8, mo_push⟩ (
  And.intro ⟨ok_nop, mo_nop⟩ (
  And.intro ⟨ok_dup2 dX8_text_157 rfl, mo_dup2⟩ (
  And.intro ⟨ok_iald dX8_text_158 rfl, mo_iald⟩ (
  And.intro ⟨ok_iconst dX8_text_159 rfl ic_1, mo_push⟩ (
  trivial))))))))))))))))
theorem rX8_text_10 : am_allR (fun pc o => am_ok am_tb0 cX8_text RX8 4 (some .int) false pc o ∧ am_mo o) 160 (am_nth [] tX8_text 10) :=
  And.intro ⟨ok_iadd dX8_text_160 rfl, mo_bin⟩ (
  And.intro ⟨ok_iast dX8_text_161 rfl, mo_iast⟩ (
  And.intro ⟨ok_iload_n dX8_text_162 rfl rfl, mo_iload⟩ (
  And.intro ⟨ok_iret dX8_text_163 rfl, mo_iret⟩ (
  And.intro ⟨ok_nop, mo_nop⟩ (
  And.intro ⟨ok_nop, mo_nop⟩ (
  And.intro ⟨ok_nop, mo_nop⟩ (
  And.intro ⟨ok_nop, mo_nop⟩ (
  And.intro ⟨ok_nop, mo_nop⟩ (
  And.intro ⟨ok_nop, mo_nop⟩ (
  And.intro ⟨ok_nop, mo_nop⟩ (
  And.intro ⟨ok_nop, mo_nop⟩ (
  And.intro ⟨ok_nop, mo_nop⟩ (
  And.intro ⟨ok_nop, mo_nop⟩ (
  And.intro ⟨ok_nop, mo_nop⟩ (
  And.intro ⟨ok_nop, mo_nop⟩ (
  trivial))))))))))))))))
theorem kX8_text : am_M1 am_tb0 cX8_text RX8 4 (some .int) false tX8_text := And.intro rX8_text_0 (And.intro rX8_text_1 (And.intro rX8_text_2 (And.intro rX8_text_3 (And.intro rX8_text_4 (And.intro rX8_text_5 (And.intro rX8_text_6 (And.intro rX8_text_7 (And.intro rX8_text_8 (And.intro rX8_text_9 (And.intro rX8_text_10 (trivial)))))))))))
def tX8_textTold : List (List am_Op) := [[o_iload 1 1, o_push (.int 0) 2, o_aload 0 3, o_getR 8 38 0 6, am_nop, am_nop, o_push (.int 8) 8, am_nop, o_iald 20 9, o_push (.int 1) 10, o_bin (fun x y => x - y) 11, o_cs 113 3 0 3 14, am_nop, am_nop, o_if (fun x => x = 0) 26 17, am_nop],
  [am_nop, o_iload 2 18, o_push (.int 0) 19, o_push (.int 1) 20, o_cs 113 3 0 3 23, am_nop, am_nop, o_if (fun x => ¬ x = 0) 29 26, am_nop, am_nop, o_push (.int (-1000000001)) 28, am_nop, o_iret, o_iload 2 30, o_if (fun x => ¬ x = 0) 51 33, am_nop],
  [am_nop, o_aload 0 34, o_getR 8 38 0 37, am_nop, am_nop, o_push (.int 76) 39, am_nop, o_push (.int 2) 40, o_iload 1 41, o_bin (fun x y => x * y) 42, o_bin (fun x y => x + y) 43, o_iald 20 44, o_push (.int 1000) 47, am_nop, am_nop, o_binS (fun x y => x / y) 48],
  [o_goto 64, am_nop, am_nop, o_aload 0 52, o_getR 8 38 0 55, am_nop, am_nop, o_push (.int 76) 57, am_nop, o_push (.int 2) 58, o_iload 1 59, o_bin (fun x y => x * y) 60, o_bin (fun x y => x + y) 61, o_push (.int 1) 62, o_bin (fun x y => x + y) 63, o_iald 20 64],
  [o_iret, am_nop, am_nop, am_nop, am_nop, am_nop, am_nop, am_nop, am_nop, am_nop, am_nop, am_nop, am_nop, am_nop, am_nop, am_nop]]
theorem rX8_textTold_0 : am_allR (fun pc o => am_ok am_tb0 cX8_textTold RX8 3 (some .int) false pc o ∧ am_mo o) 0 (am_nth [] tX8_textTold 0) :=
  And.intro ⟨ok_iload_n dX8_textTold_0 rfl rfl, mo_iload⟩ (
  And.intro ⟨ok_iconst dX8_textTold_1 rfl ic_0, mo_push⟩ (
  And.intro ⟨ok_aload_n dX8_textTold_2 rfl rfl, mo_aload⟩ (
  And.intro ⟨ok_getR dX8_textTold_3 hclX8 inWX8 (by decide) (by decide) wd_891 (fun _ _ _ => rfl) rfl, mo_getR⟩ (
  And.intro ⟨ok_nop, mo_nop⟩ (
  And.intro ⟨ok_nop, mo_nop⟩ (
  And.intro ⟨ok_bipush dX8_textTold_6 rfl bi_8, mo_push⟩ (
  And.intro ⟨ok_nop, mo_nop⟩ (
  And.intro ⟨ok_iald dX8_textTold_8 rfl, mo_iald⟩ (
  And.intro ⟨ok_iconst dX8_textTold_9 rfl ic_1, mo_push⟩ (
  And.intro ⟨ok_isub dX8_textTold_10 rfl, mo_bin⟩ (
  And.intro ⟨ok_cs (z := 113) dX8_textTold_11 wd_1012 wd_1013 wd_8 wd_1014 rfl (by decide) hy_X8_in rfl, mo_cs⟩ (
  And.intro ⟨ok_nop, mo_nop⟩ (
  And.intro ⟨ok_nop, mo_nop⟩ (
  And.intro ⟨ok_if_eq dX8_textTold_14 (by decide) rfl, mo_if⟩ (
  And.intro ⟨ok_nop, mo_nop⟩ (
  trivial))))))))))))))))
theorem rX8_textTold_1 : am_allR (fun pc o => am_ok am_tb0 cX8_textTold RX8 3 (some .int) false pc o ∧ am_mo o) 16 (am_nth [] tX8_textTold 1) :=
  And.intro ⟨ok_nop, mo_nop⟩ (
  And.intro ⟨ok_iload_n dX8_textTold_17 rfl rfl, mo_iload⟩ (
  And.intro ⟨ok_iconst dX8_textTold_18 rfl ic_0, mo_push⟩ (
  And.intro ⟨ok_iconst dX8_textTold_19 rfl ic_1, mo_push⟩ (
  And.intro ⟨ok_cs (z := 113) dX8_textTold_20 wd_1012 wd_1013 wd_8 wd_1014 rfl (by decide) hy_X8_in rfl, mo_cs⟩ (
  And.intro ⟨ok_nop, mo_nop⟩ (
  And.intro ⟨ok_nop, mo_nop⟩ (
  And.intro ⟨ok_if_ne dX8_textTold_23 (by decide) rfl, mo_if⟩ (
  And.intro ⟨ok_nop, mo_nop⟩ (
  And.intro ⟨ok_nop, mo_nop⟩ (
  And.intro ⟨ok_ldc dX8_textTold_26 rfl wd_1021, mo_push⟩ (
  And.intro ⟨ok_nop, mo_nop⟩ (
  And.intro ⟨ok_iret dX8_textTold_28 rfl, mo_iret⟩ (
  And.intro ⟨ok_iload_n dX8_textTold_29 rfl rfl, mo_iload⟩ (
  And.intro ⟨ok_if_ne dX8_textTold_30 (by decide) rfl, mo_if⟩ (
  And.intro ⟨ok_nop, mo_nop⟩ (
  trivial))))))))))))))))
theorem rX8_textTold_2 : am_allR (fun pc o => am_ok am_tb0 cX8_textTold RX8 3 (some .int) false pc o ∧ am_mo o) 32 (am_nth [] tX8_textTold 2) :=
  And.intro ⟨ok_nop, mo_nop⟩ (
  And.intro ⟨ok_aload_n dX8_textTold_33 rfl rfl, mo_aload⟩ (
  And.intro ⟨ok_getR dX8_textTold_34 hclX8 inWX8 (by decide) (by decide) wd_891 (fun _ _ _ => rfl) rfl, mo_getR⟩ (
  And.intro ⟨ok_nop, mo_nop⟩ (
  And.intro ⟨ok_nop, mo_nop⟩ (
  And.intro ⟨ok_bipush dX8_textTold_37 rfl bi_76, mo_push⟩ (
  And.intro ⟨ok_nop, mo_nop⟩ (
  And.intro ⟨ok_iconst dX8_textTold_39 rfl ic_2, mo_push⟩ (
  And.intro ⟨ok_iload_n dX8_textTold_40 rfl rfl, mo_iload⟩ (
  And.intro ⟨ok_imul dX8_textTold_41 rfl, mo_bin⟩ (
  And.intro ⟨ok_iadd dX8_textTold_42 rfl, mo_bin⟩ (
  And.intro ⟨ok_iald dX8_textTold_43 rfl, mo_iald⟩ (
  And.intro ⟨ok_sipush dX8_textTold_44 rfl si_1000, mo_push⟩ (
  And.intro ⟨ok_nop, mo_nop⟩ (
  And.intro ⟨ok_nop, mo_nop⟩ (
  And.intro ⟨ok_idiv dX8_textTold_47 rfl, mo_binS⟩ (
  trivial))))))))))))))))
theorem rX8_textTold_3 : am_allR (fun pc o => am_ok am_tb0 cX8_textTold RX8 3 (some .int) false pc o ∧ am_mo o) 48 (am_nth [] tX8_textTold 3) :=
  And.intro ⟨ok_goto dX8_textTold_48 (by decide), mo_goto⟩ (
  And.intro ⟨ok_nop, mo_nop⟩ (
  And.intro ⟨ok_nop, mo_nop⟩ (
  And.intro ⟨ok_aload_n dX8_textTold_51 rfl rfl, mo_aload⟩ (
  And.intro ⟨ok_getR dX8_textTold_52 hclX8 inWX8 (by decide) (by decide) wd_891 (fun _ _ _ => rfl) rfl, mo_getR⟩ (
  And.intro ⟨ok_nop, mo_nop⟩ (
  And.intro ⟨ok_nop, mo_nop⟩ (
  And.intro ⟨ok_bipush dX8_textTold_55 rfl bi_76, mo_push⟩ (
  And.intro ⟨ok_nop, mo_nop⟩ (
  And.intro ⟨ok_iconst dX8_textTold_57 rfl ic_2, mo_push⟩ (
  And.intro ⟨ok_iload_n dX8_textTold_58 rfl rfl, mo_iload⟩ (
  And.intro ⟨ok_imul dX8_textTold_59 rfl, mo_bin⟩ (
  And.intro ⟨ok_iadd dX8_textTold_60 rfl, mo_bin⟩ (
  And.intro ⟨ok_iconst dX8_textTold_61 rfl ic_1, mo_push⟩ (
  And.intro ⟨ok_iadd dX8_textTold_62 rfl, mo_bin⟩ (
  And.intro ⟨ok_iald dX8_textTold_63 rfl, mo_iald⟩ (
  trivial))))))))))))))))
theorem rX8_textTold_4 : am_allR (fun pc o => am_ok am_tb0 cX8_textTold RX8 3 (some .int) false pc o ∧ am_mo o) 64 (am_nth [] tX8_textTold 4) :=
  And.intro ⟨ok_iret dX8_textTold_64 rfl, mo_iret⟩ (
  And.intro ⟨ok_nop, mo_nop⟩ (
  And.intro ⟨ok_nop, mo_nop⟩ (
  And.intro ⟨ok_nop, mo_nop⟩ (
  And.intro ⟨ok_nop, mo_nop⟩ (
  And.intro ⟨ok_nop, mo_nop⟩ (
  And.intro ⟨ok_nop, mo_nop⟩ (
  And.intro ⟨ok_nop, mo_nop⟩ (
  And.intro ⟨ok_nop, mo_nop⟩ (
  And.intro ⟨ok_nop, mo_nop⟩ (
  And.intro ⟨ok_nop, mo_nop⟩ (
  And.intro ⟨ok_nop, mo_nop⟩ (
  And.intro ⟨ok_nop, mo_nop⟩ (
  And.intro ⟨ok_nop, mo_nop⟩ (
  And.intro ⟨ok_nop, mo_nop⟩ (
  And.intro ⟨ok_nop, mo_nop⟩ (
  trivial))))))))))))))))
theorem kX8_textTold : am_M1 am_tb0 cX8_textTold RX8 3 (some .int) false tX8_textTold := And.intro rX8_textTold_0 (And.intro rX8_textTold_1 (And.intro rX8_textTold_2 (And.intro rX8_textTold_3 (And.intro rX8_textTold_4 (trivial)))))
def tX8_counts : List (List am_Op) := [[o_aload 0 1, o_getR 8 38 0 4, am_nop, am_nop, o_push (.int 8) 6, am_nop, o_iald 20 7, o_push (.int 1) 8, o_bin (fun x y => x - y) 9, o_istore 2 10, o_iload 2 11, o_if (fun x => x < 0) 41 14, am_nop, am_nop, o_aload 0 15, o_getR 8 38 0 18],
  [am_nop, am_nop, o_push (.int 76) 20, am_nop, o_push (.int 2) 21, o_iload 2 22, o_bin (fun x y => x * y) 23, o_bin (fun x y => x + y) 24, o_iald 20 25, o_push (.int 1000) 28, am_nop, am_nop, o_binS (fun x y => x / y) 29, o_iload 1 30, o_icmp (fun x y => ¬ x = y) 35 33, am_nop],
  [am_nop, o_iload 2 34, o_iret, o_iinc 2 (-1) 38, am_nop, am_nop, o_goto 10, am_nop, am_nop, o_push (.int (-1)) 42, o_iret, am_nop, am_nop, am_nop, am_nop, am_nop]]
theorem rX8_counts_0 : am_allR (fun pc o => am_ok am_tb0 cX8_counts RX8 3 (some .int) false pc o ∧ am_mo o) 0 (am_nth [] tX8_counts 0) :=
  And.intro ⟨ok_aload_n dX8_counts_0 rfl rfl, mo_aload⟩ (
  And.intro ⟨ok_getR dX8_counts_1 hclX8 inWX8 (by decide) (by decide) wd_891 (fun _ _ _ => rfl) rfl, mo_getR⟩ (
  And.intro ⟨ok_nop, mo_nop⟩ (
  And.intro ⟨ok_nop, mo_nop⟩ (
  And.intro ⟨ok_bipush dX8_counts_4 rfl bi_8, mo_push⟩ (
  And.intro ⟨ok_nop, mo_nop⟩ (
  And.intro ⟨ok_iald dX8_counts_6 rfl, mo_iald⟩ (
  And.intro ⟨ok_iconst dX8_counts_7 rfl ic_1, mo_push⟩ (
  And.intro ⟨ok_isub dX8_counts_8 rfl, mo_bin⟩ (
  And.intro ⟨ok_istore_n dX8_counts_9 rfl (by decide) rfl, mo_istore⟩ (
  And.intro ⟨ok_iload_n dX8_counts_10 rfl rfl, mo_iload⟩ (
  And.intro ⟨ok_if_lt dX8_counts_11 (by decide) rfl, mo_if⟩ (
  And.intro ⟨ok_nop, mo_nop⟩ (
  And.intro ⟨ok_nop, mo_nop⟩ (
  And.intro ⟨ok_aload_n dX8_counts_14 rfl rfl, mo_aload⟩ (
  And.intro ⟨ok_getR dX8_counts_15 hclX8 inWX8 (by decide) (by decide) wd_891 (fun _ _ _ => rfl) rfl, mo_getR⟩ (
  trivial))))))))))))))))
theorem rX8_counts_1 : am_allR (fun pc o => am_ok am_tb0 cX8_counts RX8 3 (some .int) false pc o ∧ am_mo o) 16 (am_nth [] tX8_counts 1) :=
  And.intro ⟨ok_nop, mo_nop⟩ (
  And.intro ⟨ok_nop, mo_nop⟩ (
  And.intro ⟨ok_bipush dX8_counts_18 rfl bi_76, mo_push⟩ (
  And.intro ⟨ok_nop, mo_nop⟩ (
  And.intro ⟨ok_iconst dX8_counts_20 rfl ic_2, mo_push⟩ (
  And.intro ⟨ok_iload_n dX8_counts_21 rfl rfl, mo_iload⟩ (
  And.intro ⟨ok_imul dX8_counts_22 rfl, mo_bin⟩ (
  And.intro ⟨ok_iadd dX8_counts_23 rfl, mo_bin⟩ (
  And.intro ⟨ok_iald dX8_counts_24 rfl, mo_iald⟩ (
  And.intro ⟨ok_sipush dX8_counts_25 rfl si_1000, mo_push⟩ (
  And.intro ⟨ok_nop, mo_nop⟩ (
  And.intro ⟨ok_nop, mo_nop⟩ (
  And.intro ⟨ok_idiv dX8_counts_28 rfl, mo_binS⟩ (
  And.intro ⟨ok_iload_n dX8_counts_29 rfl rfl, mo_iload⟩ (
  And.intro ⟨ok_icmp_ne dX8_counts_30 (by decide) rfl, mo_icmp⟩ (
  And.intro ⟨ok_nop, mo_nop⟩ (
  trivial))))))))))))))))
theorem rX8_counts_2 : am_allR (fun pc o => am_ok am_tb0 cX8_counts RX8 3 (some .int) false pc o ∧ am_mo o) 32 (am_nth [] tX8_counts 2) :=
  And.intro ⟨ok_nop, mo_nop⟩ (
  And.intro ⟨ok_iload_n dX8_counts_33 rfl rfl, mo_iload⟩ (
  And.intro ⟨ok_iret dX8_counts_34 rfl, mo_iret⟩ (
  And.intro ⟨ok_iinc dX8_counts_35 ic_m1 (by decide) rfl, mo_iinc⟩ (
  And.intro ⟨ok_nop, mo_nop⟩ (
  And.intro ⟨ok_nop, mo_nop⟩ (
  And.intro ⟨ok_goto dX8_counts_38 (by decide), mo_goto⟩ (
  And.intro ⟨ok_nop, mo_nop⟩ (
  And.intro ⟨ok_nop, mo_nop⟩ (
  And.intro ⟨ok_iconst dX8_counts_41 rfl ic_m1, mo_push⟩ (
  And.intro ⟨ok_iret dX8_counts_42 rfl, mo_iret⟩ (
  And.intro ⟨ok_nop, mo_nop⟩ (
  And.intro ⟨ok_nop, mo_nop⟩ (
  And.intro ⟨ok_nop, mo_nop⟩ (
  And.intro ⟨ok_nop, mo_nop⟩ (
  And.intro ⟨ok_nop, mo_nop⟩ (
  trivial))))))))))))))))
theorem kX8_counts : am_M1 am_tb0 cX8_counts RX8 3 (some .int) false tX8_counts := And.intro rX8_counts_0 (And.intro rX8_counts_1 (And.intro rX8_counts_2 (trivial)))
def tX8_why : List (List am_Op) := [[o_iload 1 1, o_push (.int 0) 2, o_push (.int 2) 3, o_cs 113 3 0 3 6, am_nop, am_nop, o_if (fun x => ¬ x = 0) 12 9, am_nop, am_nop, o_push (.int (-1000000001)) 11, am_nop, o_iret, o_aload 0 13, o_iload 1 14, o_cv 8 38 185 3 0 1 17, am_nop],
  [am_nop, o_istore 2 18, o_iload 2 19, o_if (fun x => 0 ≤ x) 27 22, am_nop, am_nop, o_push (.int (-1000000005)) 24, am_nop, o_goto 28, am_nop, am_nop, o_iload 2 28, o_iret, am_nop, am_nop, am_nop]]
theorem rX8_why_0 : am_allR (fun pc o => am_ok am_tb0 cX8_why RX8 3 (some .int) false pc o ∧ am_mo o) 0 (am_nth [] tX8_why 0) :=
  And.intro ⟨ok_iload_n dX8_why_0 rfl rfl, mo_iload⟩ (
  And.intro ⟨ok_iconst dX8_why_1 rfl ic_0, mo_push⟩ (
  And.intro ⟨ok_iconst dX8_why_2 rfl ic_2, mo_push⟩ (
  And.intro ⟨ok_cs (z := 113) dX8_why_3 wd_1012 wd_1013 wd_8 wd_1014 rfl (by decide) hy_X8_in rfl, mo_cs⟩ (
  And.intro ⟨ok_nop, mo_nop⟩ (
  And.intro ⟨ok_nop, mo_nop⟩ (
  And.intro ⟨ok_if_ne dX8_why_6 (by decide) rfl, mo_if⟩ (
  And.intro ⟨ok_nop, mo_nop⟩ (
  And.intro ⟨ok_nop, mo_nop⟩ (
  And.intro ⟨ok_ldc dX8_why_9 rfl wd_1021, mo_push⟩ (
  And.intro ⟨ok_nop, mo_nop⟩ (
  And.intro ⟨ok_iret dX8_why_11 rfl, mo_iret⟩ (
  And.intro ⟨ok_aload_n dX8_why_12 rfl rfl, mo_aload⟩ (
  And.intro ⟨ok_iload_n dX8_why_13 rfl rfl, mo_iload⟩ (
  And.intro ⟨ok_cv (z := 185) dX8_why_14 hclX8 (by decide) wd_1079 wd_1081 wp_25 wd_8 wd_1082 rfl (by decide) ⟨rfl, hy_X8_counts⟩ rfl, mo_cv⟩ (
  And.intro ⟨ok_nop, mo_nop⟩ (
  trivial))))))))))))))))
theorem rX8_why_1 : am_allR (fun pc o => am_ok am_tb0 cX8_why RX8 3 (some .int) false pc o ∧ am_mo o) 16 (am_nth [] tX8_why 1) :=
  And.intro ⟨ok_nop, mo_nop⟩ (
  And.intro ⟨ok_istore_n dX8_why_17 rfl (by decide) rfl, mo_istore⟩ (
  And.intro ⟨ok_iload_n dX8_why_18 rfl rfl, mo_iload⟩ (
  And.intro ⟨ok_if_ge dX8_why_19 (by decide) rfl, mo_if⟩ (
  And.intro ⟨ok_nop, mo_nop⟩ (
  And.intro ⟨ok_nop, mo_nop⟩ (
  And.intro ⟨ok_ldc dX8_why_22 rfl wd_1173, mo_push⟩ (
  And.intro ⟨ok_nop, mo_nop⟩ (
  And.intro ⟨ok_goto dX8_why_24 (by decide), mo_goto⟩ (
  And.intro ⟨ok_nop, mo_nop⟩ (
  And.intro ⟨ok_nop, mo_nop⟩ (
  And.intro ⟨ok_iload_n dX8_why_27 rfl rfl, mo_iload⟩ (
  And.intro ⟨ok_iret dX8_why_28 rfl, mo_iret⟩ (
  And.intro ⟨ok_nop, mo_nop⟩ (
  And.intro ⟨ok_nop, mo_nop⟩ (
  And.intro ⟨ok_nop, mo_nop⟩ (
  trivial))))))))))))))))
theorem kX8_why : am_M1 am_tb0 cX8_why RX8 3 (some .int) false tX8_why := And.intro rX8_why_0 (And.intro rX8_why_1 (trivial))
def tX8_two : List (List am_Op) := [[o_iload 0 1, o_sw [((-8), 117), ((-7), 113), ((-6), 109), ((-5), 98), ((-4), 87), ((-3), 76), ((-2), 62), ((-1), 48)] 121, am_nop, am_nop, am_nop, am_nop, am_nop, am_nop, am_nop, am_nop, am_nop, am_nop, am_nop, am_nop, am_nop, am_nop],
  [am_nop, am_nop, am_nop, am_nop, am_nop, am_nop, am_nop, am_nop, am_nop, am_nop, am_nop, am_nop, am_nop, am_nop, am_nop, am_nop],
  [am_nop, am_nop, am_nop, am_nop, am_nop, am_nop, am_nop, am_nop, am_nop, am_nop, am_nop, am_nop, am_nop, am_nop, am_nop, am_nop],
  [o_iload 1 49, o_if (fun x => ¬ x = 0) 56 52, am_nop, am_nop, o_iload 2 53, o_if (fun x => x = 0) 60 56, am_nop, am_nop, o_push (.int 1) 57, o_goto 61, am_nop, am_nop, o_push (.int 0) 61, o_iret, o_iload 1 63, o_if (fun x => x = 0) 74 66],
  [am_nop, am_nop, o_iload 2 67, o_if (fun x => x = 0) 74 70, am_nop, am_nop, o_push (.int 1) 71, o_goto 75, am_nop, am_nop, o_push (.int 0) 75, o_iret, o_iload 1 77, o_iload 2 78, o_icmp (fun x y => y ≤ x) 85 81, am_nop],
  [am_nop, o_push (.int 1) 82, o_goto 86, am_nop, am_nop, o_push (.int 0) 86, o_iret, o_iload 1 88, o_iload 2 89, o_icmp (fun x y => ¬ x = y) 96 92, am_nop, am_nop, o_push (.int 1) 93, o_goto 97, am_nop, am_nop],
  [o_push (.int 0) 97, o_iret, o_iload 1 99, o_iload 2 100, o_icmp (fun x y => x ≤ y) 107 103, am_nop, am_nop, o_push (.int 1) 104, o_goto 108, am_nop, am_nop, o_push (.int 0) 108, o_iret, o_iload 1 110, o_iload 2 111, o_bin (fun x y => x + y) 112],
  [o_iret, o_iload 1 114, o_iload 2 115, o_bin (fun x y => x - y) 116, o_iret, o_iload 1 118, o_iload 2 119, o_bin (fun x y => x * y) 120, o_iret, o_iload 2 122, o_if (fun x => ¬ x = 0) 129 125, am_nop, am_nop, o_push (.int 0) 126, o_goto 132, am_nop],
  [am_nop, o_iload 1 130, o_iload 2 131, o_binS (fun x y => x / y) 132, o_iret, am_nop, am_nop, am_nop, am_nop, am_nop, am_nop, am_nop, am_nop, am_nop, am_nop, am_nop]]
theorem rX8_two_0 : am_allR (fun pc o => am_ok am_tb0 cX8_two RX8 3 (some .int) false pc o ∧ am_mo o) 0 (am_nth [] tX8_two 0) :=
  And.intro ⟨ok_iload_n dX8_two_0 rfl rfl, mo_iload⟩ (
  And.intro ⟨ok_table dX8_two_1 (by decide) (by decide +kernel) (by decide +kernel), mo_sw⟩ (
  And.intro ⟨ok_nop, mo_nop⟩ (
  And.intro ⟨ok_nop, mo_nop⟩ (
  And.intro ⟨ok_nop, mo_nop⟩ (
  And.intro ⟨ok_nop, mo_nop⟩ (
  And.intro ⟨ok_nop, mo_nop⟩ (
  And.intro ⟨ok_nop, mo_nop⟩ (
  And.intro ⟨ok_nop, mo_nop⟩ (
  And.intro ⟨ok_nop, mo_nop⟩ (
  And.intro ⟨ok_nop, mo_nop⟩ (
  And.intro ⟨ok_nop, mo_nop⟩ (
  And.intro ⟨ok_nop, mo_nop⟩ (
  And.intro ⟨ok_nop, mo_nop⟩ (
  And.intro ⟨ok_nop, mo_nop⟩ (
  And.intro ⟨ok_nop, mo_nop⟩ (
  trivial))))))))))))))))
theorem rX8_two_1 : am_allR (fun pc o => am_ok am_tb0 cX8_two RX8 3 (some .int) false pc o ∧ am_mo o) 16 (am_nth [] tX8_two 1) :=
  And.intro ⟨ok_nop, mo_nop⟩ (
  And.intro ⟨ok_nop, mo_nop⟩ (
  And.intro ⟨ok_nop, mo_nop⟩ (
  And.intro ⟨ok_nop, mo_nop⟩ (
  And.intro ⟨ok_nop, mo_nop⟩ (
  And.intro ⟨ok_nop, mo_nop⟩ (
  And.intro ⟨ok_nop, mo_nop⟩ (
  And.intro ⟨ok_nop, mo_nop⟩ (
  And.intro ⟨ok_nop, mo_nop⟩ (
  And.intro ⟨ok_nop, mo_nop⟩ (
  And.intro ⟨ok_nop, mo_nop⟩ (
  And.intro ⟨ok_nop, mo_nop⟩ (
  And.intro ⟨ok_nop, mo_nop⟩ (
  And.intro ⟨ok_nop, mo_nop⟩ (
  And.intro ⟨ok_nop, mo_nop⟩ (
  And.intro ⟨ok_nop, mo_nop⟩ (
  trivial))))))))))))))))
theorem rX8_two_2 : am_allR (fun pc o => am_ok am_tb0 cX8_two RX8 3 (some .int) false pc o ∧ am_mo o) 32 (am_nth [] tX8_two 2) :=
  And.intro ⟨ok_nop, mo_nop⟩ (
  And.intro ⟨ok_nop, mo_nop⟩ (
  And.intro ⟨ok_nop, mo_nop⟩ (
  And.intro ⟨ok_nop, mo_nop⟩ (
  And.intro ⟨ok_nop, mo_nop⟩ (
  And.intro ⟨ok_nop, mo_nop⟩ (
  And.intro ⟨ok_nop, mo_nop⟩ (
  And.intro ⟨ok_nop, mo_nop⟩ (
  And.intro ⟨ok_nop, mo_nop⟩ (
  And.intro ⟨ok_nop, mo_nop⟩ (
  And.intro ⟨ok_nop, mo_nop⟩ (
  And.intro ⟨ok_nop, mo_nop⟩ (
  And.intro ⟨ok_nop, mo_nop⟩ (
  And.intro ⟨ok_nop, mo_nop⟩ (
  And.intro ⟨ok_nop, mo_nop⟩ (
  And.intro ⟨ok_nop, mo_nop⟩ (
  trivial))))))))))))))))
theorem rX8_two_3 : am_allR (fun pc o => am_ok am_tb0 cX8_two RX8 3 (some .int) false pc o ∧ am_mo o) 48 (am_nth [] tX8_two 3) :=
  And.intro ⟨ok_iload_n dX8_two_48 rfl rfl, mo_iload⟩ (
  And.intro ⟨ok_if_ne dX8_two_49 (by decide) rfl, mo_if⟩ (
  And.intro ⟨ok_nop, mo_nop⟩ (
  And.intro ⟨ok_nop, mo_nop⟩ (
  And.intro ⟨ok_iload_n dX8_two_52 rfl rfl, mo_iload⟩ (
  And.intro ⟨ok_if_eq dX8_two_53 (by decide) rfl, mo_if⟩ (
  And.intro ⟨ok_nop, mo_nop⟩ (
  And.intro ⟨ok_nop, mo_nop⟩ (
  And.intro ⟨ok_iconst dX8_two_56 rfl ic_1, mo_push⟩ (
  And.intro ⟨ok_goto dX8_two_57 (by decide), mo_goto⟩ (
  And.intro ⟨ok_nop, mo_nop⟩ (
  And.intro ⟨ok_nop, mo_nop⟩ (
  And.intro ⟨ok_iconst dX8_two_60 rfl ic_0, mo_push⟩ (
  And.intro ⟨ok_iret dX8_two_61 rfl, mo_iret⟩ (
  And.intro ⟨ok_iload_n dX8_two_62 rfl rfl, mo_iload⟩ (
  And.intro ⟨ok_if_eq dX8_two_63 (by decide) rfl, mo_if⟩ (
  trivial))))))))))))))))
theorem rX8_two_4 : am_allR (fun pc o => am_ok am_tb0 cX8_two RX8 3 (some .int) false pc o ∧ am_mo o) 64 (am_nth [] tX8_two 4) :=
  And.intro ⟨ok_nop, mo_nop⟩ (
  And.intro ⟨ok_nop, mo_nop⟩ (
  And.intro ⟨ok_iload_n dX8_two_66 rfl rfl, mo_iload⟩ (
  And.intro ⟨ok_if_eq dX8_two_67 (by decide) rfl, mo_if⟩ (
  And.intro ⟨ok_nop, mo_nop⟩ (
  And.intro ⟨ok_nop, mo_nop⟩ (
  And.intro ⟨ok_iconst dX8_two_70 rfl ic_1, mo_push⟩ (
  And.intro ⟨ok_goto dX8_two_71 (by decide), mo_goto⟩ (
  And.intro ⟨ok_nop, mo_nop⟩ (
  And.intro ⟨ok_nop, mo_nop⟩ (
  And.intro ⟨ok_iconst dX8_two_74 rfl ic_0, mo_push⟩ (
  And.intro ⟨ok_iret dX8_two_75 rfl, mo_iret⟩ (
  And.intro ⟨ok_iload_n dX8_two_76 rfl rfl, mo_iload⟩ (
  And.intro ⟨ok_iload_n dX8_two_77 rfl rfl, mo_iload⟩ (
  And.intro ⟨ok_icmp_ge dX8_two_78 (by decide) rfl, mo_icmp⟩ (
  And.intro ⟨ok_nop, mo_nop⟩ (
  trivial))))))))))))))))
theorem rX8_two_5 : am_allR (fun pc o => am_ok am_tb0 cX8_two RX8 3 (some .int) false pc o ∧ am_mo o) 80 (am_nth [] tX8_two 5) :=
  And.intro ⟨ok_nop, mo_nop⟩ (
  And.intro ⟨ok_iconst dX8_two_81 rfl ic_1, mo_push⟩ (
  And.intro ⟨ok_goto dX8_two_82 (by decide), mo_goto⟩ (
  And.intro ⟨ok_nop, mo_nop⟩ (
  And.intro ⟨ok_nop, mo_nop⟩ (
  And.intro ⟨ok_iconst dX8_two_85 rfl ic_0, mo_push⟩ (
  And.intro ⟨ok_iret dX8_two_86 rfl, mo_iret⟩ (
  And.intro ⟨ok_iload_n dX8_two_87 rfl rfl, mo_iload⟩ (
  And.intro ⟨ok_iload_n dX8_two_88 rfl rfl, mo_iload⟩ (
  And.intro ⟨ok_icmp_ne dX8_two_89 (by decide) rfl, mo_icmp⟩ (
  And.intro ⟨ok_nop, mo_nop⟩ (
  And.intro ⟨ok_nop, mo_nop⟩ (
  And.intro ⟨ok_iconst dX8_two_92 rfl ic_1, mo_push⟩ (
  And.intro ⟨ok_goto dX8_two_93 (by decide), mo_goto⟩ (
  And.intro ⟨ok_nop, mo_nop⟩ (
  And.intro ⟨ok_nop, mo_nop⟩ (
  trivial))))))))))))))))
theorem rX8_two_6 : am_allR (fun pc o => am_ok am_tb0 cX8_two RX8 3 (some .int) false pc o ∧ am_mo o) 96 (am_nth [] tX8_two 6) :=
  And.intro ⟨ok_iconst dX8_two_96 rfl ic_0, mo_push⟩ (
  And.intro ⟨ok_iret dX8_two_97 rfl, mo_iret⟩ (
  And.intro ⟨ok_iload_n dX8_two_98 rfl rfl, mo_iload⟩ (
  And.intro ⟨ok_iload_n dX8_two_99 rfl rfl, mo_iload⟩ (
  And.intro ⟨ok_icmp_le dX8_two_100 (by decide) rfl, mo_icmp⟩ (
  And.intro ⟨ok_nop, mo_nop⟩ (
  And.intro ⟨ok_nop, mo_nop⟩ (
  And.intro ⟨ok_iconst dX8_two_103 rfl ic_1, mo_push⟩ (
  And.intro ⟨ok_goto dX8_two_104 (by decide), mo_goto⟩ (
  And.intro ⟨ok_nop, mo_nop⟩ (
  And.intro ⟨ok_nop, mo_nop⟩ (
  And.intro ⟨ok_iconst dX8_two_107 rfl ic_0, mo_push⟩ (
  And.intro ⟨ok_iret dX8_two_108 rfl, mo_iret⟩ (
  And.intro ⟨ok_iload_n dX8_two_109 rfl rfl, mo_iload⟩ (
  And.intro ⟨ok_iload_n dX8_two_110 rfl rfl, mo_iload⟩ (
  And.intro ⟨ok_iadd dX8_two_111 rfl, mo_bin⟩ (
  trivial))))))))))))))))
theorem rX8_two_7 : am_allR (fun pc o => am_ok am_tb0 cX8_two RX8 3 (some .int) false pc o ∧ am_mo o) 112 (am_nth [] tX8_two 7) :=
  And.intro ⟨ok_iret dX8_two_112 rfl, mo_iret⟩ (
  And.intro ⟨ok_iload_n dX8_two_113 rfl rfl, mo_iload⟩ (
  And.intro ⟨ok_iload_n dX8_two_114 rfl rfl, mo_iload⟩ (
  And.intro ⟨ok_isub dX8_two_115 rfl, mo_bin⟩ (
  And.intro ⟨ok_iret dX8_two_116 rfl, mo_iret⟩ (
  And.intro ⟨ok_iload_n dX8_two_117 rfl rfl, mo_iload⟩ (
  And.intro ⟨ok_iload_n dX8_two_118 rfl rfl, mo_iload⟩ (
  And.intro ⟨ok_imul dX8_two_119 rfl, mo_bin⟩ (
  And.intro ⟨ok_iret dX8_two_120 rfl, mo_iret⟩ (
  And.intro ⟨ok_iload_n dX8_two_121 rfl rfl, mo_iload⟩ (
  And.intro ⟨ok_if_ne dX8_two_122 (by decide) rfl, mo_if⟩ (
  And.intro ⟨ok_nop, mo_nop⟩ (
  And.intro ⟨ok_nop, mo_nop⟩ (
  And.intro ⟨ok_iconst dX8_two_125 rfl ic_0, mo_push⟩ (
  And.intro ⟨ok_goto dX8_two_126 (by decide), mo_goto⟩ (
  And.intro ⟨ok_nop, mo_nop⟩ (
  trivial))))))))))))))))
theorem rX8_two_8 : am_allR (fun pc o => am_ok am_tb0 cX8_two RX8 3 (some .int) false pc o ∧ am_mo o) 128 (am_nth [] tX8_two 8) :=
  And.intro ⟨ok_nop, mo_nop⟩ (
  And.intro ⟨ok_iload_n dX8_two_129 rfl rfl, mo_iload⟩ (
  And.intro ⟨ok_iload_n dX8_two_130 rfl rfl, mo_iload⟩ (
  And.intro ⟨ok_idiv dX8_two_131 rfl, mo_binS⟩ (
  And.intro ⟨ok_iret dX8_two_132 rfl, mo_iret⟩ (
  And.intro ⟨ok_nop, mo_nop⟩ (
  And.intro ⟨ok_nop, mo_nop⟩ (
  And.intro ⟨ok_nop, mo_nop⟩ (
  And.intro ⟨ok_nop, mo_nop⟩ (
  And.intro ⟨ok_nop, mo_nop⟩ (
  And.intro ⟨ok_nop, mo_nop⟩ (
  And.intro ⟨ok_nop, mo_nop⟩ (
  And.intro ⟨ok_nop, mo_nop⟩ (
  And.intro ⟨ok_nop, mo_nop⟩ (
  And.intro ⟨ok_nop, mo_nop⟩ (
  And.intro ⟨ok_nop, mo_nop⟩ (
  trivial))))))))))))))))
theorem kX8_two : am_M1 am_tb0 cX8_two RX8 3 (some .int) false tX8_two := And.intro rX8_two_0 (And.intro rX8_two_1 (And.intro rX8_two_2 (And.intro rX8_two_3 (And.intro rX8_two_4 (And.intro rX8_two_5 (And.intro rX8_two_6 (And.intro rX8_two_7 (And.intro rX8_two_8 (trivial)))))))))
def tX8_worksOut : List (List am_Op) := [[o_push (.int 0) 1, o_istore 2 2, o_aload 0 3, o_getR 8 38 0 6, am_nop, am_nop, o_push (.int 76) 8, am_nop, o_push (.int 2) 9, o_iload 1 10, o_bin (fun x y => x * y) 11, o_bin (fun x y => x + y) 12, o_iald 20 13, o_push (.int 1000) 16, am_nop, am_nop],
  [o_binS (fun x y => x - x / y * y) 17, o_istore 3 18, o_push (.int 0) 19, o_istore 4 21, am_nop, o_iload 4 23, am_nop, o_iload 3 24, o_icmp (fun x y => y ≤ x) 155 27, am_nop, am_nop, o_aload 0 28, o_getR 8 38 0 31, am_nop, am_nop, o_push (.int 104) 33],
  [am_nop, o_push (.int 96) 35, am_nop, o_iload 1 36, o_bin (fun x y => x * y) 37, o_bin (fun x y => x + y) 38, o_iload 4 40, am_nop, o_bin (fun x y => x + y) 41, o_iald 20 42, o_istore 5 44, am_nop, o_iload 5 46, am_nop, o_if (fun x => x < 0) 85 49, am_nop],
  [am_nop, o_aload 0 50, o_getR 8 38 26 53, am_nop, am_nop, o_iload 2 54, o_iload 5 56, am_nop, o_push (.int 10000) 59, am_nop, am_nop, o_icmp (fun x y => y ≤ x) 67 62, am_nop, am_nop, o_iload 5 64, am_nop],
  [o_goto 78, am_nop, am_nop, o_aload 0 68, o_getR 8 38 27 71, am_nop, am_nop, o_iload 5 73, am_nop, o_push (.int 10000) 76, am_nop, am_nop, o_bin (fun x y => x - y) 77, o_iald 20 78, o_iast 79, o_iinc 2 1 82],
  [am_nop, am_nop, o_goto 149, am_nop, am_nop, o_iload 5 87, am_nop, o_push (.int (-10)) 89, am_nop, o_icmp (fun x y => ¬ x = y) 119 92, am_nop, am_nop, o_aload 0 93, o_getR 8 38 26 96, am_nop, am_nop],
  [o_iload 2 97, o_push (.int 1) 98, o_bin (fun x y => x - y) 99, o_aload 0 100, o_getR 8 38 26 103, am_nop, am_nop, o_iload 2 104, o_push (.int 1) 105, o_bin (fun x y => x - y) 106, o_iald 20 107, o_if (fun x => ¬ x = 0) 114 110, am_nop, am_nop, o_push (.int 1) 111, o_goto 115],
  [am_nop, am_nop, o_push (.int 0) 115, o_iast 116, o_goto 149, am_nop, am_nop, o_iinc 2 (-1) 122, am_nop, am_nop, o_aload 0 123, o_getR 8 38 26 126, am_nop, am_nop, o_iload 2 127, o_push (.int 1) 128],
  [o_bin (fun x y => x - y) 129, o_iload 5 131, am_nop, o_aload 0 132, o_getR 8 38 26 135, am_nop, am_nop, o_iload 2 136, o_push (.int 1) 137, o_bin (fun x y => x - y) 138, o_iald 20 139, o_aload 0 140, o_getR 8 38 26 143, am_nop, am_nop, o_iload 2 144],
  [o_iald 20 145, o_cs 187 3 0 3 148, am_nop, am_nop, o_iast 149, o_iinc 4 1 152, am_nop, am_nop, o_goto 21, am_nop, am_nop, o_aload 0 156, o_getR 8 38 26 159, am_nop, am_nop, o_push (.int 0) 160],
  [o_iald 20 161, o_iret, am_nop, am_nop, am_nop, am_nop, am_nop, am_nop, am_nop, am_nop, am_nop, am_nop, am_nop, am_nop, am_nop, am_nop]]
theorem rX8_worksOut_0 : am_allR (fun pc o => am_ok am_tb0 cX8_worksOut RX8 6 (some .int) false pc o ∧ am_mo o) 0 (am_nth [] tX8_worksOut 0) :=
  And.intro ⟨ok_iconst dX8_worksOut_0 rfl ic_0, mo_push⟩ (
  And.intro ⟨ok_istore_n dX8_worksOut_1 rfl (by decide) rfl, mo_istore⟩ (
  And.intro ⟨ok_aload_n dX8_worksOut_2 rfl rfl, mo_aload⟩ (
  And.intro ⟨ok_getR dX8_worksOut_3 hclX8 inWX8 (by decide) (by decide) wd_891 (fun _ _ _ => rfl) rfl, mo_getR⟩ (
  And.intro ⟨ok_nop, mo_nop⟩ (
  And.intro ⟨ok_nop, mo_nop⟩ (
  And.intro ⟨ok_bipush dX8_worksOut_6 rfl bi_76, mo_push⟩ (
  And.intro ⟨ok_nop, mo_nop⟩ (
  And.intro ⟨ok_iconst dX8_worksOut_8 rfl ic_2, mo_push⟩ (
  And.intro ⟨ok_iload_n dX8_worksOut_9 rfl rfl, mo_iload⟩ (
  And.intro ⟨ok_imul dX8_worksOut_10 rfl, mo_bin⟩ (
  And.intro ⟨ok_iadd dX8_worksOut_11 rfl, mo_bin⟩ (
  And.intro ⟨ok_iald dX8_worksOut_12 rfl, mo_iald⟩ (
  And.intro ⟨ok_sipush dX8_worksOut_13 rfl si_1000, mo_push⟩ (
  And.intro ⟨ok_nop, mo_nop⟩ (
  And.intro ⟨ok_nop, mo_nop⟩ (
  trivial))))))))))))))))
theorem rX8_worksOut_1 : am_allR (fun pc o => am_ok am_tb0 cX8_worksOut RX8 6 (some .int) false pc o ∧ am_mo o) 16 (am_nth [] tX8_worksOut 1) :=
  And.intro ⟨ok_irem dX8_worksOut_16 rfl, mo_binS⟩ (
  And.intro ⟨ok_istore_n dX8_worksOut_17 rfl (by decide) rfl, mo_istore⟩ (
  And.intro ⟨ok_iconst dX8_worksOut_18 rfl ic_0, mo_push⟩ (
  And.intro ⟨ok_istore dX8_worksOut_19 (by decide) rfl, mo_istore⟩ (
  And.intro ⟨ok_nop, mo_nop⟩ (
  And.intro ⟨ok_iload dX8_worksOut_21 rfl, mo_iload⟩ (
  And.intro ⟨ok_nop, mo_nop⟩ (
  And.intro ⟨ok_iload_n dX8_worksOut_23 rfl rfl, mo_iload⟩ (
  And.intro ⟨ok_icmp_ge dX8_worksOut_24 (by decide) rfl, mo_icmp⟩ (
  And.intro ⟨ok_nop, mo_nop⟩ (
  And.intro ⟨ok_nop, mo_nop⟩ (
  And.intro ⟨ok_aload_n dX8_worksOut_27 rfl rfl, mo_aload⟩ (
  And.intro ⟨ok_getR dX8_worksOut_28 hclX8 inWX8 (by decide) (by decide) wd_891 (fun _ _ _ => rfl) rfl, mo_getR⟩ (
  And.intro ⟨ok_nop, mo_nop⟩ (
  And.intro ⟨ok_nop, mo_nop⟩ (
  And.intro ⟨ok_bipush dX8_worksOut_31 rfl bi_104, mo_push⟩ (
  trivial))))))))))))))))
theorem rX8_worksOut_2 : am_allR (fun pc o => am_ok am_tb0 cX8_worksOut RX8 6 (some .int) false pc o ∧ am_mo o) 32 (am_nth [] tX8_worksOut 2) :=
  And.intro ⟨ok_nop, mo_nop⟩ (
  And.intro ⟨ok_bipush dX8_worksOut_33 rfl bi_96, mo_push⟩ (
  And.intro ⟨ok_nop, mo_nop⟩ (
  And.intro ⟨ok_iload_n dX8_worksOut_35 rfl rfl, mo_iload⟩ (
  And.intro ⟨ok_imul dX8_worksOut_36 rfl, mo_bin⟩ (
  And.intro ⟨ok_iadd dX8_worksOut_37 rfl, mo_bin⟩ (
  And.intro ⟨ok_iload dX8_worksOut_38 rfl, mo_iload⟩ (
  And.intro ⟨ok_nop, mo_nop⟩ (
  And.intro ⟨ok_iadd dX8_worksOut_40 rfl, mo_bin⟩ (
  And.intro ⟨ok_iald dX8_worksOut_41 rfl, mo_iald⟩ (
  And.intro ⟨ok_istore dX8_worksOut_42 (by decide) rfl, mo_istore⟩ (
  And.intro ⟨ok_nop, mo_nop⟩ (
  And.intro ⟨ok_iload dX8_worksOut_44 rfl, mo_iload⟩ (
  And.intro ⟨ok_nop, mo_nop⟩ (
  And.intro ⟨ok_if_lt dX8_worksOut_46 (by decide) rfl, mo_if⟩ (
  And.intro ⟨ok_nop, mo_nop⟩ (
  trivial))))))))))))))))
theorem rX8_worksOut_3 : am_allR (fun pc o => am_ok am_tb0 cX8_worksOut RX8 6 (some .int) false pc o ∧ am_mo o) 48 (am_nth [] tX8_worksOut 3) :=
  And.intro ⟨ok_nop, mo_nop⟩ (
  And.intro ⟨ok_aload_n dX8_worksOut_49 rfl rfl, mo_aload⟩ (
  And.intro ⟨ok_getR dX8_worksOut_50 hclX8 inWX8 (by decide) (by decide) wd_917 (fun _ _ _ => rfl) rfl, mo_getR⟩ (
  And.intro ⟨ok_nop, mo_nop⟩ (
  And.intro ⟨ok_nop, mo_nop⟩ (
  And.intro ⟨ok_iload_n dX8_worksOut_53 rfl rfl, mo_iload⟩ (
  And.intro ⟨ok_iload dX8_worksOut_54 rfl, mo_iload⟩ (
  And.intro ⟨ok_nop, mo_nop⟩ (
  And.intro ⟨ok_sipush dX8_worksOut_56 rfl si_10000, mo_push⟩ (
  And.intro ⟨ok_nop, mo_nop⟩ (
  And.intro ⟨ok_nop, mo_nop⟩ (
  And.intro ⟨ok_icmp_ge dX8_worksOut_59 (by decide) rfl, mo_icmp⟩ (
  And.intro ⟨ok_nop, mo_nop⟩ (
  And.intro ⟨ok_nop, mo_nop⟩ (
  And.intro ⟨ok_iload dX8_worksOut_62 rfl, mo_iload⟩ (
  And.intro ⟨ok_nop, mo_nop⟩ (
  trivial))))))))))))))))
theorem rX8_worksOut_4 : am_allR (fun pc o => am_ok am_tb0 cX8_worksOut RX8 6 (some .int) false pc o ∧ am_mo o) 64 (am_nth [] tX8_worksOut 4) :=
  And.intro ⟨ok_goto dX8_worksOut_64 (by decide), mo_goto⟩ (
  And.intro ⟨ok_nop, mo_nop⟩ (
  And.intro ⟨ok_nop, mo_nop⟩ (
  And.intro ⟨ok_aload_n dX8_worksOut_67 rfl rfl, mo_aload⟩ (
  And.intro ⟨ok_getR dX8_worksOut_68 hclX8 inWX8 (by decide) (by decide) wd_918 (fun _ _ _ => rfl) rfl, mo_getR⟩ (
  And.intro ⟨ok_nop, mo_nop⟩ (
  And.intro ⟨ok_nop, mo_nop⟩ (
  And.intro ⟨ok_iload dX8_worksOut_71 rfl, mo_iload⟩ (
  And.intro ⟨ok_nop, mo_nop⟩ (
  And.intro ⟨ok_sipush dX8_worksOut_73 rfl si_10000, mo_push⟩ (
  And.intro ⟨ok_nop, mo_nop⟩ (
  And.intro ⟨ok_nop, mo_nop⟩ (
  And.intro ⟨ok_isub dX8_worksOut_76 rfl, mo_bin⟩ (
  And.intro ⟨ok_iald dX8_worksOut_77 rfl, mo_iald⟩ (
  And.intro ⟨ok_iast dX8_worksOut_78 rfl, mo_iast⟩ (
  And.intro ⟨ok_iinc dX8_worksOut_79 ic_1 (by decide) rfl, mo_iinc⟩ (
  trivial))))))))))))))))
theorem rX8_worksOut_5 : am_allR (fun pc o => am_ok am_tb0 cX8_worksOut RX8 6 (some .int) false pc o ∧ am_mo o) 80 (am_nth [] tX8_worksOut 5) :=
  And.intro ⟨ok_nop, mo_nop⟩ (
  And.intro ⟨ok_nop, mo_nop⟩ (
  And.intro ⟨ok_goto dX8_worksOut_82 (by decide), mo_goto⟩ (
  And.intro ⟨ok_nop, mo_nop⟩ (
  And.intro ⟨ok_nop, mo_nop⟩ (
  And.intro ⟨ok_iload dX8_worksOut_85 rfl, mo_iload⟩ (
  And.intro ⟨ok_nop, mo_nop⟩ (
  And.intro ⟨ok_bipush dX8_worksOut_87 rfl bi_m10, mo_push⟩ (
  And.intro ⟨ok_nop, mo_nop⟩ (
  And.intro ⟨ok_icmp_ne dX8_worksOut_89 (by decide) rfl, mo_icmp⟩ (
  And.intro ⟨ok_nop, mo_nop⟩ (
  And.intro ⟨ok_nop, mo_nop⟩ (
  And.intro ⟨ok_aload_n dX8_worksOut_92 rfl rfl, mo_aload⟩ (
  And.intro ⟨ok_getR dX8_worksOut_93 hclX8 inWX8 (by decide) (by decide) wd_917 (fun _ _ _ => rfl) rfl, mo_getR⟩ (
  And.intro ⟨ok_nop, mo_nop⟩ (
  And.intro ⟨ok_nop, mo_nop⟩ (
  trivial))))))))))))))))
theorem rX8_worksOut_6 : am_allR (fun pc o => am_ok am_tb0 cX8_worksOut RX8 6 (some .int) false pc o ∧ am_mo o) 96 (am_nth [] tX8_worksOut 6) :=
  And.intro ⟨ok_iload_n dX8_worksOut_96 rfl rfl, mo_iload⟩ (
  And.intro ⟨ok_iconst dX8_worksOut_97 rfl ic_1, mo_push⟩ (
  And.intro ⟨ok_isub dX8_worksOut_98 rfl, mo_bin⟩ (
  And.intro ⟨ok_aload_n dX8_worksOut_99 rfl rfl, mo_aload⟩ (
  And.intro ⟨ok_getR dX8_worksOut_100 hclX8 inWX8 (by decide) (by decide) wd_917 (fun _ _ _ => rfl) rfl, mo_getR⟩ (
  And.intro ⟨ok_nop, mo_nop⟩ (
  And.intro ⟨ok_nop, mo_nop⟩ (
  And.intro ⟨ok_iload_n dX8_worksOut_103 rfl rfl, mo_iload⟩ (
  And.intro ⟨ok_iconst dX8_worksOut_104 rfl ic_1, mo_push⟩ (
  And.intro ⟨ok_isub dX8_worksOut_105 rfl, mo_bin⟩ (
  And.intro ⟨ok_iald dX8_worksOut_106 rfl, mo_iald⟩ (
  And.intro ⟨ok_if_ne dX8_worksOut_107 (by decide) rfl, mo_if⟩ (
  And.intro ⟨ok_nop, mo_nop⟩ (
  And.intro ⟨ok_nop, mo_nop⟩ (
  And.intro ⟨ok_iconst dX8_worksOut_110 rfl ic_1, mo_push⟩ (
  And.intro ⟨ok_goto dX8_worksOut_111 (by decide), mo_goto⟩ (
  trivial))))))))))))))))
theorem rX8_worksOut_7 : am_allR (fun pc o => am_ok am_tb0 cX8_worksOut RX8 6 (some .int) false pc o ∧ am_mo o) 112 (am_nth [] tX8_worksOut 7) :=
  And.intro ⟨ok_nop, mo_nop⟩ (
  And.intro ⟨ok_nop, mo_nop⟩ (
  And.intro ⟨ok_iconst dX8_worksOut_114 rfl ic_0, mo_push⟩ (
  And.intro ⟨ok_iast dX8_worksOut_115 rfl, mo_iast⟩ (
  And.intro ⟨ok_goto dX8_worksOut_116 (by decide), mo_goto⟩ (
  And.intro ⟨ok_nop, mo_nop⟩ (
  And.intro ⟨ok_nop, mo_nop⟩ (
  And.intro ⟨ok_iinc dX8_worksOut_119 ic_m1 (by decide) rfl, mo_iinc⟩ (
  And.intro ⟨ok_nop, mo_nop⟩ (
  And.intro ⟨ok_nop, mo_nop⟩ (
  And.intro ⟨ok_aload_n dX8_worksOut_122 rfl rfl, mo_aload⟩ (
  And.intro ⟨ok_getR dX8_worksOut_123 hclX8 inWX8 (by decide) (by decide) wd_917 (fun _ _ _ => rfl) rfl, mo_getR⟩ (
  And.intro ⟨ok_nop, mo_nop⟩ (
  And.intro ⟨ok_nop, mo_nop⟩ (
  And.intro ⟨ok_iload_n dX8_worksOut_126 rfl rfl, mo_iload⟩ (
  And.intro ⟨ok_iconst dX8_worksOut_127 rfl ic_1, mo_push⟩ (
  trivial))))))))))))))))
theorem rX8_worksOut_8 : am_allR (fun pc o => am_ok am_tb0 cX8_worksOut RX8 6 (some .int) false pc o ∧ am_mo o) 128 (am_nth [] tX8_worksOut 8) :=
  And.intro ⟨ok_isub dX8_worksOut_128 rfl, mo_bin⟩ (
  And.intro ⟨ok_iload dX8_worksOut_129 rfl, mo_iload⟩ (
  And.intro ⟨ok_nop, mo_nop⟩ (
  And.intro ⟨ok_aload_n dX8_worksOut_131 rfl rfl, mo_aload⟩ (
  And.intro ⟨ok_getR dX8_worksOut_132 hclX8 inWX8 (by decide) (by decide) wd_917 (fun _ _ _ => rfl) rfl, mo_getR⟩ (
  And.intro ⟨ok_nop, mo_nop⟩ (
  And.intro ⟨ok_nop, mo_nop⟩ (
  And.intro ⟨ok_iload_n dX8_worksOut_135 rfl rfl, mo_iload⟩ (
  And.intro ⟨ok_iconst dX8_worksOut_136 rfl ic_1, mo_push⟩ (
  And.intro ⟨ok_isub dX8_worksOut_137 rfl, mo_bin⟩ (
  And.intro ⟨ok_iald dX8_worksOut_138 rfl, mo_iald⟩ (
  And.intro ⟨ok_aload_n dX8_worksOut_139 rfl rfl, mo_aload⟩ (
  And.intro ⟨ok_getR dX8_worksOut_140 hclX8 inWX8 (by decide) (by decide) wd_917 (fun _ _ _ => rfl) rfl, mo_getR⟩ (
  And.intro ⟨ok_nop, mo_nop⟩ (
  And.intro ⟨ok_nop, mo_nop⟩ (
  And.intro ⟨ok_iload_n dX8_worksOut_143 rfl rfl, mo_iload⟩ (
  trivial))))))))))))))))
theorem rX8_worksOut_9 : am_allR (fun pc o => am_ok am_tb0 cX8_worksOut RX8 6 (some .int) false pc o ∧ am_mo o) 144 (am_nth [] tX8_worksOut 9) :=
  And.intro ⟨ok_iald dX8_worksOut_144 rfl, mo_iald⟩ (
  And.intro ⟨ok_cs (z := 187) dX8_worksOut_145 wd_1087 wd_1088 wd_8 wd_1089 rfl (by decide) hy_X8_two rfl, mo_cs⟩ (
  And.intro ⟨ok_nop, mo_nop⟩ (
  And.intro ⟨ok_nop, mo_nop⟩ (
  And.intro ⟨ok_iast dX8_worksOut_148 rfl, mo_iast⟩ (
  And.intro ⟨ok_iinc dX8_worksOut_149 ic_1 (by decide) rfl, mo_iinc⟩ (
  And.intro ⟨ok_nop, mo_nop⟩ (
  And.intro ⟨ok_nop, mo_nop⟩ (
  And.intro ⟨ok_goto dX8_worksOut_152 (by decide), mo_goto⟩ (
  And.intro ⟨ok_nop, mo_nop⟩ (
  And.intro ⟨ok_nop, mo_nop⟩ (
  And.intro ⟨ok_aload_n dX8_worksOut_155 rfl rfl, mo_aload⟩ (
  And.intro ⟨ok_getR dX8_worksOut_156 hclX8 inWX8 (by decide) (by decide) wd_917 (fun _ _ _ => rfl) rfl, mo_getR⟩ (
  And.intro ⟨ok_nop, mo_nop⟩ (
  And.intro ⟨ok_nop, mo_nop⟩ (
  And.intro ⟨ok_iconst dX8_worksOut_159 rfl ic_0, mo_push⟩ (
  trivial))))))))))))))))
theorem rX8_worksOut_10 : am_allR (fun pc o => am_ok am_tb0 cX8_worksOut RX8 6 (some .int) false pc o ∧ am_mo o) 160 (am_nth [] tX8_worksOut 10) :=
  And.intro ⟨ok_iald dX8_worksOut_160 rfl, mo_iald⟩ (
  And.intro ⟨ok_iret dX8_worksOut_161 rfl, mo_iret⟩ (
  And.intro ⟨ok_nop, mo_nop⟩ (
  And.intro ⟨ok_nop, mo_nop⟩ (
  And.intro ⟨ok_nop, mo_nop⟩ (
  And.intro ⟨ok_nop, mo_nop⟩ (
  And.intro ⟨ok_nop, mo_nop⟩ (
  And.intro ⟨ok_nop, mo_nop⟩ (
  And.intro ⟨ok_nop, mo_nop⟩ (
  And.intro ⟨ok_nop, mo_nop⟩ (
  And.intro ⟨ok_nop, mo_nop⟩ (
  And.intro ⟨ok_nop, mo_nop⟩ (
  And.intro ⟨ok_nop, mo_nop⟩ (
  And.intro ⟨ok_nop, mo_nop⟩ (
  And.intro ⟨ok_nop, mo_nop⟩ (
  And.intro ⟨ok_nop, mo_nop⟩ (
  trivial))))))))))))))))
theorem kX8_worksOut : am_M1 am_tb0 cX8_worksOut RX8 6 (some .int) false tX8_worksOut := And.intro rX8_worksOut_0 (And.intro rX8_worksOut_1 (And.intro rX8_worksOut_2 (And.intro rX8_worksOut_3 (And.intro rX8_worksOut_4 (And.intro rX8_worksOut_5 (And.intro rX8_worksOut_6 (And.intro rX8_worksOut_7 (And.intro rX8_worksOut_8 (And.intro rX8_worksOut_9 (And.intro rX8_worksOut_10 (trivial)))))))))))
def tX8_isSheet : List (List am_Op) := [[o_iload 0 1, o_push (.int 0) 2, o_push (.int 3) 3, o_cs 113 3 0 3 6, am_nop, am_nop, o_nret .boolean]]
theorem rX8_isSheet_0 : am_allR (fun pc o => am_ok am_tb0 cX8_isSheet RX8 1 (some .boolean) false pc o ∧ am_mo o) 0 (am_nth [] tX8_isSheet 0) :=
  And.intro ⟨ok_iload_n dX8_isSheet_0 rfl rfl, mo_iload⟩ (
  And.intro ⟨ok_iconst dX8_isSheet_1 rfl ic_0, mo_push⟩ (
  And.intro ⟨ok_iconst dX8_isSheet_2 rfl ic_3, mo_push⟩ (
  And.intro ⟨ok_cs (z := 113) dX8_isSheet_3 wd_1012 wd_1013 wd_8 wd_1014 rfl (by decide) hy_X8_in rfl, mo_cs⟩ (
  And.intro ⟨ok_nop, mo_nop⟩ (
  And.intro ⟨ok_nop, mo_nop⟩ (
  And.intro ⟨ok_nret dX8_isSheet_6 rfl, mo_nret⟩ (
  trivial)))))))
theorem kX8_isSheet : am_M1 am_tb0 cX8_isSheet RX8 1 (some .boolean) false tX8_isSheet := And.intro rX8_isSheet_0 (trivial)
def tX8_isSlot : List (List am_Op) := [[o_iload 0 1, o_push (.int 0) 2, o_push (.int 4) 3, o_cs 113 3 0 3 6, am_nop, am_nop, o_nret .boolean]]
theorem rX8_isSlot_0 : am_allR (fun pc o => am_ok am_tb0 cX8_isSlot RX8 1 (some .boolean) false pc o ∧ am_mo o) 0 (am_nth [] tX8_isSlot 0) :=
  And.intro ⟨ok_iload_n dX8_isSlot_0 rfl rfl, mo_iload⟩ (
  And.intro ⟨ok_iconst dX8_isSlot_1 rfl ic_0, mo_push⟩ (
  And.intro ⟨ok_iconst dX8_isSlot_2 rfl ic_4, mo_push⟩ (
  And.intro ⟨ok_cs (z := 113) dX8_isSlot_3 wd_1012 wd_1013 wd_8 wd_1014 rfl (by decide) hy_X8_in rfl, mo_cs⟩ (
  And.intro ⟨ok_nop, mo_nop⟩ (
  And.intro ⟨ok_nop, mo_nop⟩ (
  And.intro ⟨ok_nret dX8_isSlot_6 rfl, mo_nret⟩ (
  trivial)))))))
theorem kX8_isSlot : am_M1 am_tb0 cX8_isSlot RX8 1 (some .boolean) false tX8_isSlot := And.intro rX8_isSlot_0 (trivial)
def tX8_sheet : List (List am_Op) := [[o_iload 1 1, o_cs 189 1 1 1 4, am_nop, am_nop, o_if (fun x => x = 0) 26 7, am_nop, am_nop, o_iload 2 8, o_push (.int (-1)) 9, o_push (.int 1) 10, o_cs 113 3 0 3 13, am_nop, am_nop, o_if (fun x => x = 0) 26 16, am_nop, am_nop],
  [o_iload 2 17, o_if (fun x => x < 0) 29 20, am_nop, am_nop, o_iload 3 21, o_push (.int 24) 23, am_nop, o_icmp (fun x y => x ≤ y) 29 26, am_nop, am_nop, o_push (.int (-1000000001)) 28, am_nop, o_iret, o_iload 2 30, o_if (fun x => x < 0) 41 33, am_nop],
  [am_nop, o_iload 3 34, o_if (fun x => 0 ≤ x) 41 37, am_nop, am_nop, o_push (.int (-1000000014)) 40, am_nop, am_nop, o_iret, o_aload 0 42, o_getR 8 38 28 45, am_nop, am_nop, o_iload 1 46, o_iload 2 47, o_iast 48],
  [o_aload 0 49, o_getR 8 38 29 52, am_nop, am_nop, o_iload 1 53, o_iload 2 54, o_if (fun x => 0 ≤ x) 61 57, am_nop, am_nop, o_push (.int 0) 58, o_goto 62, am_nop, am_nop, o_iload 3 62, o_iast 63, o_push (.int 0) 64],
  [o_istore 4 66, am_nop, o_iload 4 68, am_nop, o_push (.int 24) 70, am_nop, o_icmp (fun x y => y ≤ x) 92 73, am_nop, am_nop, o_aload 0 74, o_getR 8 38 30 77, am_nop, am_nop, o_push (.int 24) 79, am_nop, o_iload 1 80],
  [o_bin (fun x y => x * y) 81, o_iload 4 83, am_nop, o_bin (fun x y => x + y) 84, o_push (.int 0) 85, o_iast 86, o_iinc 4 1 89, am_nop, am_nop, o_goto 66, am_nop, am_nop, o_aload 0 93, o_getR 8 38 29 96, am_nop, am_nop],
  [o_iload 1 97, o_iald 20 98, o_iret, am_nop, am_nop, am_nop, am_nop, am_nop, am_nop, am_nop, am_nop, am_nop, am_nop, am_nop, am_nop, am_nop]]
theorem rX8_sheet_0 : am_allR (fun pc o => am_ok am_tb0 cX8_sheet RX8 5 (some .int) false pc o ∧ am_mo o) 0 (am_nth [] tX8_sheet 0) :=
  And.intro ⟨ok_iload_n dX8_sheet_0 rfl rfl, mo_iload⟩ (
  And.intro ⟨ok_cs (z := 189) dX8_sheet_1 wd_1238 wd_1239 wd_8 wd_1240 rfl (by decide) hy_X8_isSheet rfl, mo_cs⟩ (
  And.intro ⟨ok_nop, mo_nop⟩ (
  And.intro ⟨ok_nop, mo_nop⟩ (
  And.intro ⟨ok_if_eq dX8_sheet_4 (by decide) rfl, mo_if⟩ (
  And.intro ⟨ok_nop, mo_nop⟩ (
  And.intro ⟨ok_nop, mo_nop⟩ (
  And.intro ⟨ok_iload_n dX8_sheet_7 rfl rfl, mo_iload⟩ (
  And.intro ⟨ok_iconst dX8_sheet_8 rfl ic_m1, mo_push⟩ (
  And.intro ⟨ok_iconst dX8_sheet_9 rfl ic_1, mo_push⟩ (
  And.intro ⟨ok_cs (z := 113) dX8_sheet_10 wd_1012 wd_1013 wd_8 wd_1014 rfl (by decide) hy_X8_in rfl, mo_cs⟩ (
  And.intro ⟨ok_nop, mo_nop⟩ (
  And.intro ⟨ok_nop, mo_nop⟩ (
  And.intro ⟨ok_if_eq dX8_sheet_13 (by decide) rfl, mo_if⟩ (
  And.intro ⟨ok_nop, mo_nop⟩ (
  And.intro ⟨ok_nop, mo_nop⟩ (
  trivial))))))))))))))))
theorem rX8_sheet_1 : am_allR (fun pc o => am_ok am_tb0 cX8_sheet RX8 5 (some .int) false pc o ∧ am_mo o) 16 (am_nth [] tX8_sheet 1) :=
  And.intro ⟨ok_iload_n dX8_sheet_16 rfl rfl, mo_iload⟩ (
  And.intro ⟨ok_if_lt dX8_sheet_17 (by decide) rfl, mo_if⟩ (
  And.intro ⟨ok_nop, mo_nop⟩ (
  And.intro ⟨ok_nop, mo_nop⟩ (
  And.intro ⟨ok_iload_n dX8_sheet_20 rfl rfl, mo_iload⟩ (
  And.intro ⟨ok_bipush dX8_sheet_21 rfl bi_24, mo_push⟩ (
  And.intro ⟨ok_nop, mo_nop⟩ (
  And.intro ⟨ok_icmp_le dX8_sheet_23 (by decide) rfl, mo_icmp⟩ (
  And.intro ⟨ok_nop, mo_nop⟩ (
  And.intro ⟨ok_nop, mo_nop⟩ (
  And.intro ⟨ok_ldc dX8_sheet_26 rfl wd_1021, mo_push⟩ (
  And.intro ⟨ok_nop, mo_nop⟩ (
  And.intro ⟨ok_iret dX8_sheet_28 rfl, mo_iret⟩ (
  And.intro ⟨ok_iload_n dX8_sheet_29 rfl rfl, mo_iload⟩ (
  And.intro ⟨ok_if_lt dX8_sheet_30 (by decide) rfl, mo_if⟩ (
  And.intro ⟨ok_nop, mo_nop⟩ (
  trivial))))))))))))))))
theorem rX8_sheet_2 : am_allR (fun pc o => am_ok am_tb0 cX8_sheet RX8 5 (some .int) false pc o ∧ am_mo o) 32 (am_nth [] tX8_sheet 2) :=
  And.intro ⟨ok_nop, mo_nop⟩ (
  And.intro ⟨ok_iload_n dX8_sheet_33 rfl rfl, mo_iload⟩ (
  And.intro ⟨ok_if_ge dX8_sheet_34 (by decide) rfl, mo_if⟩ (
  And.intro ⟨ok_nop, mo_nop⟩ (
  And.intro ⟨ok_nop, mo_nop⟩ (
  And.intro ⟨ok_ldcw dX8_sheet_37 rfl wd_1313, mo_push⟩ (
  And.intro ⟨ok_nop, mo_nop⟩ (
  And.intro ⟨ok_nop, mo_nop⟩ (
  And.intro ⟨ok_iret dX8_sheet_40 rfl, mo_iret⟩ (
  And.intro ⟨ok_aload_n dX8_sheet_41 rfl rfl, mo_aload⟩ (
  And.intro ⟨ok_getR dX8_sheet_42 hclX8 inWX8 (by decide) (by decide) wd_919 (fun _ _ _ => rfl) rfl, mo_getR⟩ (
  And.intro ⟨ok_nop, mo_nop⟩ (
  And.intro ⟨ok_nop, mo_nop⟩ (
  And.intro ⟨ok_iload_n dX8_sheet_45 rfl rfl, mo_iload⟩ (
  And.intro ⟨ok_iload_n dX8_sheet_46 rfl rfl, mo_iload⟩ (
  And.intro ⟨ok_iast dX8_sheet_47 rfl, mo_iast⟩ (
  trivial))))))))))))))))
theorem rX8_sheet_3 : am_allR (fun pc o => am_ok am_tb0 cX8_sheet RX8 5 (some .int) false pc o ∧ am_mo o) 48 (am_nth [] tX8_sheet 3) :=
  And.intro ⟨ok_aload_n dX8_sheet_48 rfl rfl, mo_aload⟩ (
  And.intro ⟨ok_getR dX8_sheet_49 hclX8 inWX8 (by decide) (by decide) wd_920 (fun _ _ _ => rfl) rfl, mo_getR⟩ (
  And.intro ⟨ok_nop, mo_nop⟩ (
  And.intro ⟨ok_nop, mo_nop⟩ (
  And.intro ⟨ok_iload_n dX8_sheet_52 rfl rfl, mo_iload⟩ (
  And.intro ⟨ok_iload_n dX8_sheet_53 rfl rfl, mo_iload⟩ (
  And.intro ⟨ok_if_ge dX8_sheet_54 (by decide) rfl, mo_if⟩ (
  And.intro ⟨ok_nop, mo_nop⟩ (
  And.intro ⟨ok_nop, mo_nop⟩ (
  And.intro ⟨ok_iconst dX8_sheet_57 rfl ic_0, mo_push⟩ (
  And.intro ⟨ok_goto dX8_sheet_58 (by decide), mo_goto⟩ (
  And.intro ⟨ok_nop, mo_nop⟩ (
  And.intro ⟨ok_nop, mo_nop⟩ (
  And.intro ⟨ok_iload_n dX8_sheet_61 rfl rfl, mo_iload⟩ (
  And.intro ⟨ok_iast dX8_sheet_62 rfl, mo_iast⟩ (
  And.intro ⟨ok_iconst dX8_sheet_63 rfl ic_0, mo_push⟩ (
  trivial))))))))))))))))
theorem rX8_sheet_4 : am_allR (fun pc o => am_ok am_tb0 cX8_sheet RX8 5 (some .int) false pc o ∧ am_mo o) 64 (am_nth [] tX8_sheet 4) :=
  And.intro ⟨ok_istore dX8_sheet_64 (by decide) rfl, mo_istore⟩ (
  And.intro ⟨ok_nop, mo_nop⟩ (
  And.intro ⟨ok_iload dX8_sheet_66 rfl, mo_iload⟩ (
  And.intro ⟨ok_nop, mo_nop⟩ (
  And.intro ⟨ok_bipush dX8_sheet_68 rfl bi_24, mo_push⟩ (
  And.intro ⟨ok_nop, mo_nop⟩ (
  And.intro ⟨ok_icmp_ge dX8_sheet_70 (by decide) rfl, mo_icmp⟩ (
  And.intro ⟨ok_nop, mo_nop⟩ (
  And.intro ⟨ok_nop, mo_nop⟩ (
  And.intro ⟨ok_aload_n dX8_sheet_73 rfl rfl, mo_aload⟩ (
  And.intro ⟨ok_getR dX8_sheet_74 hclX8 inWX8 (by decide) (by decide) wd_921 (fun _ _ _ => rfl) rfl, mo_getR⟩ (
  And.intro ⟨ok_nop, mo_nop⟩ (
  And.intro ⟨ok_nop, mo_nop⟩ (
  And.intro ⟨ok_bipush dX8_sheet_77 rfl bi_24, mo_push⟩ (
  And.intro ⟨ok_nop, mo_nop⟩ (
  And.intro ⟨ok_iload_n dX8_sheet_79 rfl rfl, mo_iload⟩ (
  trivial))))))))))))))))
theorem rX8_sheet_5 : am_allR (fun pc o => am_ok am_tb0 cX8_sheet RX8 5 (some .int) false pc o ∧ am_mo o) 80 (am_nth [] tX8_sheet 5) :=
  And.intro ⟨ok_imul dX8_sheet_80 rfl, mo_bin⟩ (
  And.intro ⟨ok_iload dX8_sheet_81 rfl, mo_iload⟩ (
  And.intro ⟨ok_nop, mo_nop⟩ (
  And.intro ⟨ok_iadd dX8_sheet_83 rfl, mo_bin⟩ (
  And.intro ⟨ok_iconst dX8_sheet_84 rfl ic_0, mo_push⟩ (
  And.intro ⟨ok_iast dX8_sheet_85 rfl, mo_iast⟩ (
  And.intro ⟨ok_iinc dX8_sheet_86 ic_1 (by decide) rfl, mo_iinc⟩ (
  And.intro ⟨ok_nop, mo_nop⟩ (
  And.intro ⟨ok_nop, mo_nop⟩ (
  And.intro ⟨ok_goto dX8_sheet_89 (by decide), mo_goto⟩ (
  And.intro ⟨ok_nop, mo_nop⟩ (
  And.intro ⟨ok_nop, mo_nop⟩ (
  And.intro ⟨ok_aload_n dX8_sheet_92 rfl rfl, mo_aload⟩ (
  And.intro ⟨ok_getR dX8_sheet_93 hclX8 inWX8 (by decide) (by decide) wd_920 (fun _ _ _ => rfl) rfl, mo_getR⟩ (
  And.intro ⟨ok_nop, mo_nop⟩ (
  And.intro ⟨ok_nop, mo_nop⟩ (
  trivial))))))))))))))))
theorem rX8_sheet_6 : am_allR (fun pc o => am_ok am_tb0 cX8_sheet RX8 5 (some .int) false pc o ∧ am_mo o) 96 (am_nth [] tX8_sheet 6) :=
  And.intro ⟨ok_iload_n dX8_sheet_96 rfl rfl, mo_iload⟩ (
  And.intro ⟨ok_iald dX8_sheet_97 rfl, mo_iald⟩ (
  And.intro ⟨ok_iret dX8_sheet_98 rfl, mo_iret⟩ (
  And.intro ⟨ok_nop, mo_nop⟩ (
  And.intro ⟨ok_nop, mo_nop⟩ (
  And.intro ⟨ok_nop, mo_nop⟩ (
  And.intro ⟨ok_nop, mo_nop⟩ (
  And.intro ⟨ok_nop, mo_nop⟩ (
  And.intro ⟨ok_nop, mo_nop⟩ (
  And.intro ⟨ok_nop, mo_nop⟩ (
  And.intro ⟨ok_nop, mo_nop⟩ (
  And.intro ⟨ok_nop, mo_nop⟩ (
  And.intro ⟨ok_nop, mo_nop⟩ (
  And.intro ⟨ok_nop, mo_nop⟩ (
  And.intro ⟨ok_nop, mo_nop⟩ (
  And.intro ⟨ok_nop, mo_nop⟩ (
  trivial))))))))))))))))
theorem kX8_sheet : am_M1 am_tb0 cX8_sheet RX8 5 (some .int) false tX8_sheet := And.intro rX8_sheet_0 (And.intro rX8_sheet_1 (And.intro rX8_sheet_2 (And.intro rX8_sheet_3 (And.intro rX8_sheet_4 (And.intro rX8_sheet_5 (And.intro rX8_sheet_6 (trivial)))))))
def tX8_mark : List (List am_Op) := [[o_iload 1 1, o_cs 189 1 1 1 4, am_nop, am_nop, o_if (fun x => ¬ x = 0) 10 7, am_nop, am_nop, o_push (.int (-1000000001)) 9, am_nop, o_iret, o_aload 0 11, o_getR 8 38 28 14, am_nop, am_nop, o_iload 1 15, o_iald 20 16],
  [o_if (fun x => 0 ≤ x) 22 19, am_nop, am_nop, o_push (.int (-1000000011)) 21, am_nop, o_iret, o_iload 2 23, o_push (.int 0) 24, o_aload 0 25, o_getR 8 38 29 28, am_nop, am_nop, o_iload 1 29, o_iald 20 30, o_push (.int 1) 31, o_bin (fun x y => x - y) 32],
  [o_cs 113 3 0 3 35, am_nop, am_nop, o_if (fun x => ¬ x = 0) 42 38, am_nop, am_nop, o_push (.int (-1000000013)) 41, am_nop, am_nop, o_iret, o_aload 0 43, o_getR 8 38 28 46, am_nop, am_nop, o_iload 1 47, o_iald 20 48],
  [o_if (fun x => ¬ x = 0) 60 51, am_nop, am_nop, o_iload 3 52, o_push (.int (-1000000005)) 54, am_nop, o_icmp (fun x y => ¬ x = y) 60 57, am_nop, am_nop, o_push (.int (-1000000012)) 59, am_nop, o_iret, o_aload 0 61, o_getR 8 38 28 64, am_nop, am_nop],
  [o_iload 1 65, o_iald 20 66, o_push (.int 1) 67, o_icmp (fun x y => ¬ x = y) 92 70, am_nop, am_nop, o_iload 3 71, o_push (.int (-1000000005)) 73, am_nop, o_icmp (fun x y => x = y) 92 76, am_nop, am_nop, o_iload 3 77, o_push (.int (-99999)) 80, am_nop, am_nop],
  [o_push (.int 99999) 83, am_nop, am_nop, o_cs 113 3 0 3 86, am_nop, am_nop, o_if (fun x => ¬ x = 0) 92 89, am_nop, am_nop, o_push (.int (-1000000001)) 91, am_nop, o_iret, o_aload 0 93, o_getR 8 38 30 96, am_nop, am_nop],
  [o_push (.int 24) 98, am_nop, o_iload 1 99, o_bin (fun x y => x * y) 100, o_iload 2 101, o_bin (fun x y => x + y) 102, o_aload 0 103, o_getR 8 38 28 106, am_nop, am_nop, o_iload 1 107, o_iald 20 108, o_if (fun x => ¬ x = 0) 116 111, am_nop, am_nop, o_iload 3 112],
  [o_un (fun x => x.toInt16.toInt32) 113, o_goto 117, am_nop, am_nop, o_iload 3 117, o_iast 118, o_push (.int 1) 119, o_iret, am_nop, am_nop, am_nop, am_nop, am_nop, am_nop, am_nop, am_nop]]
theorem rX8_mark_0 : am_allR (fun pc o => am_ok am_tb0 cX8_mark RX8 4 (some .int) false pc o ∧ am_mo o) 0 (am_nth [] tX8_mark 0) :=
  And.intro ⟨ok_iload_n dX8_mark_0 rfl rfl, mo_iload⟩ (
  And.intro ⟨ok_cs (z := 189) dX8_mark_1 wd_1238 wd_1239 wd_8 wd_1240 rfl (by decide) hy_X8_isSheet rfl, mo_cs⟩ (
  And.intro ⟨ok_nop, mo_nop⟩ (
  And.intro ⟨ok_nop, mo_nop⟩ (
  And.intro ⟨ok_if_ne dX8_mark_4 (by decide) rfl, mo_if⟩ (
  And.intro ⟨ok_nop, mo_nop⟩ (
  And.intro ⟨ok_nop, mo_nop⟩ (
  And.intro ⟨ok_ldc dX8_mark_7 rfl wd_1021, mo_push⟩ (
  And.intro ⟨ok_nop, mo_nop⟩ (
  And.intro ⟨ok_iret dX8_mark_9 rfl, mo_iret⟩ (
  And.intro ⟨ok_aload_n dX8_mark_10 rfl rfl, mo_aload⟩ (
  And.intro ⟨ok_getR dX8_mark_11 hclX8 inWX8 (by decide) (by decide) wd_919 (fun _ _ _ => rfl) rfl, mo_getR⟩ (
  And.intro ⟨ok_nop, mo_nop⟩ (
  And.intro ⟨ok_nop, mo_nop⟩ (
  And.intro ⟨ok_iload_n dX8_mark_14 rfl rfl, mo_iload⟩ (
  And.intro ⟨ok_iald dX8_mark_15 rfl, mo_iald⟩ (
  trivial))))))))))))))))
theorem rX8_mark_1 : am_allR (fun pc o => am_ok am_tb0 cX8_mark RX8 4 (some .int) false pc o ∧ am_mo o) 16 (am_nth [] tX8_mark 1) :=
  And.intro ⟨ok_if_ge dX8_mark_16 (by decide) rfl, mo_if⟩ (
  And.intro ⟨ok_nop, mo_nop⟩ (
  And.intro ⟨ok_nop, mo_nop⟩ (
  And.intro ⟨ok_ldc dX8_mark_19 rfl wd_1241, mo_push⟩ (
  And.intro ⟨ok_nop, mo_nop⟩ (
  And.intro ⟨ok_iret dX8_mark_21 rfl, mo_iret⟩ (
  And.intro ⟨ok_iload_n dX8_mark_22 rfl rfl, mo_iload⟩ (
  And.intro ⟨ok_iconst dX8_mark_23 rfl ic_0, mo_push⟩ (
  And.intro ⟨ok_aload_n dX8_mark_24 rfl rfl, mo_aload⟩ (
  And.intro ⟨ok_getR dX8_mark_25 hclX8 inWX8 (by decide) (by decide) wd_920 (fun _ _ _ => rfl) rfl, mo_getR⟩ (
  And.intro ⟨ok_nop, mo_nop⟩ (
  And.intro ⟨ok_nop, mo_nop⟩ (
  And.intro ⟨ok_iload_n dX8_mark_28 rfl rfl, mo_iload⟩ (
  And.intro ⟨ok_iald dX8_mark_29 rfl, mo_iald⟩ (
  And.intro ⟨ok_iconst dX8_mark_30 rfl ic_1, mo_push⟩ (
  And.intro ⟨ok_isub dX8_mark_31 rfl, mo_bin⟩ (
  trivial))))))))))))))))
theorem rX8_mark_2 : am_allR (fun pc o => am_ok am_tb0 cX8_mark RX8 4 (some .int) false pc o ∧ am_mo o) 32 (am_nth [] tX8_mark 2) :=
  And.intro ⟨ok_cs (z := 113) dX8_mark_32 wd_1012 wd_1013 wd_8 wd_1014 rfl (by decide) hy_X8_in rfl, mo_cs⟩ (
  And.intro ⟨ok_nop, mo_nop⟩ (
  And.intro ⟨ok_nop, mo_nop⟩ (
  And.intro ⟨ok_if_ne dX8_mark_35 (by decide) rfl, mo_if⟩ (
  And.intro ⟨ok_nop, mo_nop⟩ (
  And.intro ⟨ok_nop, mo_nop⟩ (
  And.intro ⟨ok_ldcw dX8_mark_38 rfl wd_1318, mo_push⟩ (
  And.intro ⟨ok_nop, mo_nop⟩ (
  And.intro ⟨ok_nop, mo_nop⟩ (
  And.intro ⟨ok_iret dX8_mark_41 rfl, mo_iret⟩ (
  And.intro ⟨ok_aload_n dX8_mark_42 rfl rfl, mo_aload⟩ (
  And.intro ⟨ok_getR dX8_mark_43 hclX8 inWX8 (by decide) (by decide) wd_919 (fun _ _ _ => rfl) rfl, mo_getR⟩ (
  And.intro ⟨ok_nop, mo_nop⟩ (
  And.intro ⟨ok_nop, mo_nop⟩ (
  And.intro ⟨ok_iload_n dX8_mark_46 rfl rfl, mo_iload⟩ (
  And.intro ⟨ok_iald dX8_mark_47 rfl, mo_iald⟩ (
  trivial))))))))))))))))
theorem rX8_mark_3 : am_allR (fun pc o => am_ok am_tb0 cX8_mark RX8 4 (some .int) false pc o ∧ am_mo o) 48 (am_nth [] tX8_mark 3) :=
  And.intro ⟨ok_if_ne dX8_mark_48 (by decide) rfl, mo_if⟩ (
  And.intro ⟨ok_nop, mo_nop⟩ (
  And.intro ⟨ok_nop, mo_nop⟩ (
  And.intro ⟨ok_iload_n dX8_mark_51 rfl rfl, mo_iload⟩ (
  And.intro ⟨ok_ldc dX8_mark_52 rfl wd_1173, mo_push⟩ (
  And.intro ⟨ok_nop, mo_nop⟩ (
  And.intro ⟨ok_icmp_ne dX8_mark_54 (by decide) rfl, mo_icmp⟩ (
  And.intro ⟨ok_nop, mo_nop⟩ (
  And.intro ⟨ok_nop, mo_nop⟩ (
  And.intro ⟨ok_ldc dX8_mark_57 rfl wd_1058, mo_push⟩ (
  And.intro ⟨ok_nop, mo_nop⟩ (
  And.intro ⟨ok_iret dX8_mark_59 rfl, mo_iret⟩ (
  And.intro ⟨ok_aload_n dX8_mark_60 rfl rfl, mo_aload⟩ (
  And.intro ⟨ok_getR dX8_mark_61 hclX8 inWX8 (by decide) (by decide) wd_919 (fun _ _ _ => rfl) rfl, mo_getR⟩ (
  And.intro ⟨ok_nop, mo_nop⟩ (
  And.intro ⟨ok_nop, mo_nop⟩ (
  trivial))))))))))))))))
theorem rX8_mark_4 : am_allR (fun pc o => am_ok am_tb0 cX8_mark RX8 4 (some .int) false pc o ∧ am_mo o) 64 (am_nth [] tX8_mark 4) :=
  And.intro ⟨ok_iload_n dX8_mark_64 rfl rfl, mo_iload⟩ (
  And.intro ⟨ok_iald dX8_mark_65 rfl, mo_iald⟩ (
  And.intro ⟨ok_iconst dX8_mark_66 rfl ic_1, mo_push⟩ (
  And.intro ⟨ok_icmp_ne dX8_mark_67 (by decide) rfl, mo_icmp⟩ (
  And.intro ⟨ok_nop, mo_nop⟩ (
  And.intro ⟨ok_nop, mo_nop⟩ (
  And.intro ⟨ok_iload_n dX8_mark_70 rfl rfl, mo_iload⟩ (
  And.intro ⟨ok_ldc dX8_mark_71 rfl wd_1173, mo_push⟩ (
  And.intro ⟨ok_nop, mo_nop⟩ (
  And.intro ⟨ok_icmp_eq dX8_mark_73 (by decide) rfl, mo_icmp⟩ (
  And.intro ⟨ok_nop, mo_nop⟩ (
  And.intro ⟨ok_nop, mo_nop⟩ (
  And.intro ⟨ok_iload_n dX8_mark_76 rfl rfl, mo_iload⟩ (
  And.intro ⟨ok_ldcw dX8_mark_77 rfl wd_1319, mo_push⟩ (
  And.intro ⟨ok_nop, mo_nop⟩ (
  And.intro ⟨ok_nop, mo_nop⟩ (
  trivial))))))))))))))))
theorem rX8_mark_5 : am_allR (fun pc o => am_ok am_tb0 cX8_mark RX8 4 (some .int) false pc o ∧ am_mo o) 80 (am_nth [] tX8_mark 5) :=
  And.intro ⟨ok_ldcw dX8_mark_80 rfl wd_1320, mo_push⟩ (
  And.intro ⟨ok_nop, mo_nop⟩ (
  And.intro ⟨ok_nop, mo_nop⟩ (
  And.intro ⟨ok_cs (z := 113) dX8_mark_83 wd_1012 wd_1013 wd_8 wd_1014 rfl (by decide) hy_X8_in rfl, mo_cs⟩ (
  And.intro ⟨ok_nop, mo_nop⟩ (
  And.intro ⟨ok_nop, mo_nop⟩ (
  And.intro ⟨ok_if_ne dX8_mark_86 (by decide) rfl, mo_if⟩ (
  And.intro ⟨ok_nop, mo_nop⟩ (
  And.intro ⟨ok_nop, mo_nop⟩ (
  And.intro ⟨ok_ldc dX8_mark_89 rfl wd_1021, mo_push⟩ (
  And.intro ⟨ok_nop, mo_nop⟩ (
  And.intro ⟨ok_iret dX8_mark_91 rfl, mo_iret⟩ (
  And.intro ⟨ok_aload_n dX8_mark_92 rfl rfl, mo_aload⟩ (
  And.intro ⟨ok_getR dX8_mark_93 hclX8 inWX8 (by decide) (by decide) wd_921 (fun _ _ _ => rfl) rfl, mo_getR⟩ (
  And.intro ⟨ok_nop, mo_nop⟩ (
  And.intro ⟨ok_nop, mo_nop⟩ (
  trivial))))))))))))))))
theorem rX8_mark_6 : am_allR (fun pc o => am_ok am_tb0 cX8_mark RX8 4 (some .int) false pc o ∧ am_mo o) 96 (am_nth [] tX8_mark 6) :=
  And.intro ⟨ok_bipush dX8_mark_96 rfl bi_24, mo_push⟩ (
  And.intro ⟨ok_nop, mo_nop⟩ (
  And.intro ⟨ok_iload_n dX8_mark_98 rfl rfl, mo_iload⟩ (
  And.intro ⟨ok_imul dX8_mark_99 rfl, mo_bin⟩ (
  And.intro ⟨ok_iload_n dX8_mark_100 rfl rfl, mo_iload⟩ (
  And.intro ⟨ok_iadd dX8_mark_101 rfl, mo_bin⟩ (
  And.intro ⟨ok_aload_n dX8_mark_102 rfl rfl, mo_aload⟩ (
  And.intro ⟨ok_getR dX8_mark_103 hclX8 inWX8 (by decide) (by decide) wd_919 (fun _ _ _ => rfl) rfl, mo_getR⟩ (
  And.intro ⟨ok_nop, mo_nop⟩ (
  And.intro ⟨ok_nop, mo_nop⟩ (
  And.intro ⟨ok_iload_n dX8_mark_106 rfl rfl, mo_iload⟩ (
  And.intro ⟨ok_iald dX8_mark_107 rfl, mo_iald⟩ (
  And.intro ⟨ok_if_ne dX8_mark_108 (by decide) rfl, mo_if⟩ (
  And.intro ⟨ok_nop, mo_nop⟩ (
  And.intro ⟨ok_nop, mo_nop⟩ (
  And.intro ⟨ok_iload_n dX8_mark_111 rfl rfl, mo_iload⟩ (
  trivial))))))))))))))))
theorem rX8_mark_7 : am_allR (fun pc o => am_ok am_tb0 cX8_mark RX8 4 (some .int) false pc o ∧ am_mo o) 112 (am_nth [] tX8_mark 7) :=
  And.intro ⟨ok_i2s dX8_mark_112 rfl, mo_un⟩ (
  And.intro ⟨ok_goto dX8_mark_113 (by decide), mo_goto⟩ (
  And.intro ⟨ok_nop, mo_nop⟩ (
  And.intro ⟨ok_nop, mo_nop⟩ (
  And.intro ⟨ok_iload_n dX8_mark_116 rfl rfl, mo_iload⟩ (
  And.intro ⟨ok_iast dX8_mark_117 rfl, mo_iast⟩ (
  And.intro ⟨ok_iconst dX8_mark_118 rfl ic_1, mo_push⟩ (
  And.intro ⟨ok_iret dX8_mark_119 rfl, mo_iret⟩ (
  And.intro ⟨ok_nop, mo_nop⟩ (
  And.intro ⟨ok_nop, mo_nop⟩ (
  And.intro ⟨ok_nop, mo_nop⟩ (
  And.intro ⟨ok_nop, mo_nop⟩ (
  And.intro ⟨ok_nop, mo_nop⟩ (
  And.intro ⟨ok_nop, mo_nop⟩ (
  And.intro ⟨ok_nop, mo_nop⟩ (
  And.intro ⟨ok_nop, mo_nop⟩ (
  trivial))))))))))))))))
theorem kX8_mark : am_M1 am_tb0 cX8_mark RX8 4 (some .int) false tX8_mark := And.intro rX8_mark_0 (And.intro rX8_mark_1 (And.intro rX8_mark_2 (And.intro rX8_mark_3 (And.intro rX8_mark_4 (And.intro rX8_mark_5 (And.intro rX8_mark_6 (And.intro rX8_mark_7 (trivial))))))))
def tX8_pour : List (List am_Op) := [[o_iload 1 1, o_cs 189 1 1 1 4, am_nop, am_nop, o_if (fun x => ¬ x = 0) 10 7, am_nop, am_nop, o_push (.int (-1000000001)) 9, am_nop, o_iret, o_aload 0 11, o_getR 8 38 28 14, am_nop, am_nop, o_iload 1 15, o_iald 20 16],
  [o_if (fun x => 0 ≤ x) 22 19, am_nop, am_nop, o_push (.int (-1000000011)) 21, am_nop, o_iret, o_push (.int 0) 23, o_istore 2 24, o_push (.int 0) 25, o_istore 3 26, o_iload 3 27, o_aload 0 28, o_getR 8 38 29 31, am_nop, am_nop, o_iload 1 32],
  [o_iald 20 33, o_icmp (fun x y => y ≤ x) 118 36, am_nop, am_nop, o_iload 3 37, o_aload 0 38, o_getR 8 38 0 41, am_nop, am_nop, o_push (.int 1) 42, o_iald 20 43, o_icmp (fun x y => y ≤ x) 118 46, am_nop, am_nop, o_aload 0 47, o_getR 8 38 30 50],
  [am_nop, am_nop, o_push (.int 24) 52, am_nop, o_iload 1 53, o_bin (fun x y => x * y) 54, o_iload 3 55, o_bin (fun x y => x + y) 56, o_iald 20 57, o_istore 4 59, am_nop, o_iload 4 61, am_nop, o_push (.int (-1000000005)) 63, am_nop, o_icmp (fun x y => ¬ x = y) 75 66],
  [am_nop, am_nop, o_aload 0 67, o_iload 3 68, o_push (.int 2) 69, o_cv 8 38 121 3 0 2 72, am_nop, am_nop, o_goto 83, am_nop, am_nop, o_iload 4 77, am_nop, o_push (.int 0) 78, o_push (.int 99) 80, am_nop],
  [o_cs 114 3 0 3 83, am_nop, am_nop, o_istore 5 85, am_nop, o_iload 2 86, o_aload 0 87, o_push (.int 21) 89, am_nop, o_push (.int 5) 90, o_iload 3 91, o_bin (fun x y => x * y) 92, o_bin (fun x y => x + y) 93, o_push (.int 2) 94, o_bin (fun x y => x + y) 95, o_iload 5 97],
  [am_nop, o_cv 8 38 123 4 0 2 100, am_nop, am_nop, o_iload 5 102, am_nop, o_icmp (fun x y => ¬ x = y) 109 105, am_nop, am_nop, o_push (.int 0) 106, o_goto 110, am_nop, am_nop, o_push (.int 1) 110, o_bin (fun x y => x + y) 111, o_istore 2 112],
  [o_iinc 3 1 115, am_nop, am_nop, o_goto 26, am_nop, am_nop, o_iload 2 119, o_iret, am_nop, am_nop, am_nop, am_nop, am_nop, am_nop, am_nop, am_nop]]
theorem rX8_pour_0 : am_allR (fun pc o => am_ok am_tb0 cX8_pour RX8 6 (some .int) false pc o ∧ am_mo o) 0 (am_nth [] tX8_pour 0) :=
  And.intro ⟨ok_iload_n dX8_pour_0 rfl rfl, mo_iload⟩ (
  And.intro ⟨ok_cs (z := 189) dX8_pour_1 wd_1238 wd_1239 wd_8 wd_1240 rfl (by decide) hy_X8_isSheet rfl, mo_cs⟩ (
  And.intro ⟨ok_nop, mo_nop⟩ (
  And.intro ⟨ok_nop, mo_nop⟩ (
  And.intro ⟨ok_if_ne dX8_pour_4 (by decide) rfl, mo_if⟩ (
  And.intro ⟨ok_nop, mo_nop⟩ (
  And.intro ⟨ok_nop, mo_nop⟩ (
  And.intro ⟨ok_ldc dX8_pour_7 rfl wd_1021, mo_push⟩ (
  And.intro ⟨ok_nop, mo_nop⟩ (
  And.intro ⟨ok_iret dX8_pour_9 rfl, mo_iret⟩ (
  And.intro ⟨ok_aload_n dX8_pour_10 rfl rfl, mo_aload⟩ (
  And.intro ⟨ok_getR dX8_pour_11 hclX8 inWX8 (by decide) (by decide) wd_919 (fun _ _ _ => rfl) rfl, mo_getR⟩ (
  And.intro ⟨ok_nop, mo_nop⟩ (
  And.intro ⟨ok_nop, mo_nop⟩ (
  And.intro ⟨ok_iload_n dX8_pour_14 rfl rfl, mo_iload⟩ (
  And.intro ⟨ok_iald dX8_pour_15 rfl, mo_iald⟩ (
  trivial))))))))))))))))
theorem rX8_pour_1 : am_allR (fun pc o => am_ok am_tb0 cX8_pour RX8 6 (some .int) false pc o ∧ am_mo o) 16 (am_nth [] tX8_pour 1) :=
  And.intro ⟨ok_if_ge dX8_pour_16 (by decide) rfl, mo_if⟩ (
  And.intro ⟨ok_nop, mo_nop⟩ (
  And.intro ⟨ok_nop, mo_nop⟩ (
  And.intro ⟨ok_ldc dX8_pour_19 rfl wd_1241, mo_push⟩ (
  And.intro ⟨ok_nop, mo_nop⟩ (
  And.intro ⟨ok_iret dX8_pour_21 rfl, mo_iret⟩ (
  And.intro ⟨ok_iconst dX8_pour_22 rfl ic_0, mo_push⟩ (
  And.intro ⟨ok_istore_n dX8_pour_23 rfl (by decide) rfl, mo_istore⟩ (
  And.intro ⟨ok_iconst dX8_pour_24 rfl ic_0, mo_push⟩ (
  And.intro ⟨ok_istore_n dX8_pour_25 rfl (by decide) rfl, mo_istore⟩ (
  And.intro ⟨ok_iload_n dX8_pour_26 rfl rfl, mo_iload⟩ (
  And.intro ⟨ok_aload_n dX8_pour_27 rfl rfl, mo_aload⟩ (
  And.intro ⟨ok_getR dX8_pour_28 hclX8 inWX8 (by decide) (by decide) wd_920 (fun _ _ _ => rfl) rfl, mo_getR⟩ (
  And.intro ⟨ok_nop, mo_nop⟩ (
  And.intro ⟨ok_nop, mo_nop⟩ (
  And.intro ⟨ok_iload_n dX8_pour_31 rfl rfl, mo_iload⟩ (
  trivial))))))))))))))))
theorem rX8_pour_2 : am_allR (fun pc o => am_ok am_tb0 cX8_pour RX8 6 (some .int) false pc o ∧ am_mo o) 32 (am_nth [] tX8_pour 2) :=
  And.intro ⟨ok_iald dX8_pour_32 rfl, mo_iald⟩ (
  And.intro ⟨ok_icmp_ge dX8_pour_33 (by decide) rfl, mo_icmp⟩ (
  And.intro ⟨ok_nop, mo_nop⟩ (
  And.intro ⟨ok_nop, mo_nop⟩ (
  And.intro ⟨ok_iload_n dX8_pour_36 rfl rfl, mo_iload⟩ (
  And.intro ⟨ok_aload_n dX8_pour_37 rfl rfl, mo_aload⟩ (
  And.intro ⟨ok_getR dX8_pour_38 hclX8 inWX8 (by decide) (by decide) wd_891 (fun _ _ _ => rfl) rfl, mo_getR⟩ (
  And.intro ⟨ok_nop, mo_nop⟩ (
  And.intro ⟨ok_nop, mo_nop⟩ (
  And.intro ⟨ok_iconst dX8_pour_41 rfl ic_1, mo_push⟩ (
  And.intro ⟨ok_iald dX8_pour_42 rfl, mo_iald⟩ (
  And.intro ⟨ok_icmp_ge dX8_pour_43 (by decide) rfl, mo_icmp⟩ (
  And.intro ⟨ok_nop, mo_nop⟩ (
  And.intro ⟨ok_nop, mo_nop⟩ (
  And.intro ⟨ok_aload_n dX8_pour_46 rfl rfl, mo_aload⟩ (
  And.intro ⟨ok_getR dX8_pour_47 hclX8 inWX8 (by decide) (by decide) wd_921 (fun _ _ _ => rfl) rfl, mo_getR⟩ (
  trivial))))))))))))))))
theorem rX8_pour_3 : am_allR (fun pc o => am_ok am_tb0 cX8_pour RX8 6 (some .int) false pc o ∧ am_mo o) 48 (am_nth [] tX8_pour 3) :=
  And.intro ⟨ok_nop, mo_nop⟩ (
  And.intro ⟨ok_nop, mo_nop⟩ (
  And.intro ⟨ok_bipush dX8_pour_50 rfl bi_24, mo_push⟩ (
  And.intro ⟨ok_nop, mo_nop⟩ (
  And.intro ⟨ok_iload_n dX8_pour_52 rfl rfl, mo_iload⟩ (
  And.intro ⟨ok_imul dX8_pour_53 rfl, mo_bin⟩ (
  And.intro ⟨ok_iload_n dX8_pour_54 rfl rfl, mo_iload⟩ (
  And.intro ⟨ok_iadd dX8_pour_55 rfl, mo_bin⟩ (
  And.intro ⟨ok_iald dX8_pour_56 rfl, mo_iald⟩ (
  And.intro ⟨ok_istore dX8_pour_57 (by decide) rfl, mo_istore⟩ (
  And.intro ⟨ok_nop, mo_nop⟩ (
  And.intro ⟨ok_iload dX8_pour_59 rfl, mo_iload⟩ (
  And.intro ⟨ok_nop, mo_nop⟩ (
  And.intro ⟨ok_ldc dX8_pour_61 rfl wd_1173, mo_push⟩ (
  And.intro ⟨ok_nop, mo_nop⟩ (
  And.intro ⟨ok_icmp_ne dX8_pour_63 (by decide) rfl, mo_icmp⟩ (
  trivial))))))))))))))))
theorem rX8_pour_4 : am_allR (fun pc o => am_ok am_tb0 cX8_pour RX8 6 (some .int) false pc o ∧ am_mo o) 64 (am_nth [] tX8_pour 4) :=
  And.intro ⟨ok_nop, mo_nop⟩ (
  And.intro ⟨ok_nop, mo_nop⟩ (
  And.intro ⟨ok_aload_n dX8_pour_66 rfl rfl, mo_aload⟩ (
  And.intro ⟨ok_iload_n dX8_pour_67 rfl rfl, mo_iload⟩ (
  And.intro ⟨ok_iconst dX8_pour_68 rfl ic_2, mo_push⟩ (
  And.intro ⟨ok_cv (z := 121) dX8_pour_69 hclX8 (by decide) wd_1043 wd_1045 wp_21 wd_8 wd_1046 rfl (by decide) ⟨rfl, hy_X8_of⟩ rfl, mo_cv⟩ (
  And.intro ⟨ok_nop, mo_nop⟩ (
  And.intro ⟨ok_nop, mo_nop⟩ (
  And.intro ⟨ok_goto dX8_pour_72 (by decide), mo_goto⟩ (
  And.intro ⟨ok_nop, mo_nop⟩ (
  And.intro ⟨ok_nop, mo_nop⟩ (
  And.intro ⟨ok_iload dX8_pour_75 rfl, mo_iload⟩ (
  And.intro ⟨ok_nop, mo_nop⟩ (
  And.intro ⟨ok_iconst dX8_pour_77 rfl ic_0, mo_push⟩ (
  And.intro ⟨ok_bipush dX8_pour_78 rfl bi_99, mo_push⟩ (
  And.intro ⟨ok_nop, mo_nop⟩ (
  trivial))))))))))))))))
theorem rX8_pour_5 : am_allR (fun pc o => am_ok am_tb0 cX8_pour RX8 6 (some .int) false pc o ∧ am_mo o) 80 (am_nth [] tX8_pour 5) :=
  And.intro ⟨ok_cs (z := 114) dX8_pour_80 wd_1090 wd_1091 wd_8 wd_1092 rfl (by decide) hy_X8_within rfl, mo_cs⟩ (
  And.intro ⟨ok_nop, mo_nop⟩ (
  And.intro ⟨ok_nop, mo_nop⟩ (
  And.intro ⟨ok_istore dX8_pour_83 (by decide) rfl, mo_istore⟩ (
  And.intro ⟨ok_nop, mo_nop⟩ (
  And.intro ⟨ok_iload_n dX8_pour_85 rfl rfl, mo_iload⟩ (
  And.intro ⟨ok_aload_n dX8_pour_86 rfl rfl, mo_aload⟩ (
  And.intro ⟨ok_bipush dX8_pour_87 rfl bi_21, mo_push⟩ (
  And.intro ⟨ok_nop, mo_nop⟩ (
  And.intro ⟨ok_iconst dX8_pour_89 rfl ic_5, mo_push⟩ (
  And.intro ⟨ok_iload_n dX8_pour_90 rfl rfl, mo_iload⟩ (
  And.intro ⟨ok_imul dX8_pour_91 rfl, mo_bin⟩ (
  And.intro ⟨ok_iadd dX8_pour_92 rfl, mo_bin⟩ (
  And.intro ⟨ok_iconst dX8_pour_93 rfl ic_2, mo_push⟩ (
  And.intro ⟨ok_iadd dX8_pour_94 rfl, mo_bin⟩ (
  And.intro ⟨ok_iload dX8_pour_95 rfl, mo_iload⟩ (
  trivial))))))))))))))))
theorem rX8_pour_6 : am_allR (fun pc o => am_ok am_tb0 cX8_pour RX8 6 (some .int) false pc o ∧ am_mo o) 96 (am_nth [] tX8_pour 6) :=
  And.intro ⟨ok_nop, mo_nop⟩ (
  And.intro ⟨ok_cv (z := 123) dX8_pour_97 hclX8 (by decide) wd_1063 wd_1065 wp_23 wd_8 wd_1066 rfl (by decide) ⟨rfl, hy_X8_becomes⟩ rfl, mo_cv⟩ (
  And.intro ⟨ok_nop, mo_nop⟩ (
  And.intro ⟨ok_nop, mo_nop⟩ (
  And.intro ⟨ok_iload dX8_pour_100 rfl, mo_iload⟩ (
  And.intro ⟨ok_nop, mo_nop⟩ (
  And.intro ⟨ok_icmp_ne dX8_pour_102 (by decide) rfl, mo_icmp⟩ (
  And.intro ⟨ok_nop, mo_nop⟩ (
  And.intro ⟨ok_nop, mo_nop⟩ (
  And.intro ⟨ok_iconst dX8_pour_105 rfl ic_0, mo_push⟩ (
  And.intro ⟨ok_goto dX8_pour_106 (by decide), mo_goto⟩ (
  And.intro ⟨ok_nop, mo_nop⟩ (
  And.intro ⟨ok_nop, mo_nop⟩ (
  And.intro ⟨ok_iconst dX8_pour_109 rfl ic_1, mo_push⟩ (
  And.intro ⟨ok_iadd dX8_pour_110 rfl, mo_bin⟩ (
  And.intro ⟨ok_istore_n dX8_pour_111 rfl (by decide) rfl, mo_istore⟩ (
  trivial))))))))))))))))
theorem rX8_pour_7 : am_allR (fun pc o => am_ok am_tb0 cX8_pour RX8 6 (some .int) false pc o ∧ am_mo o) 112 (am_nth [] tX8_pour 7) :=
  And.intro ⟨ok_iinc dX8_pour_112 ic_1 (by decide) rfl, mo_iinc⟩ (
  And.intro ⟨ok_nop, mo_nop⟩ (
  And.intro ⟨ok_nop, mo_nop⟩ (
  And.intro ⟨ok_goto dX8_pour_115 (by decide), mo_goto⟩ (
  And.intro ⟨ok_nop, mo_nop⟩ (
  And.intro ⟨ok_nop, mo_nop⟩ (
  And.intro ⟨ok_iload_n dX8_pour_118 rfl rfl, mo_iload⟩ (
  And.intro ⟨ok_iret dX8_pour_119 rfl, mo_iret⟩ (
  And.intro ⟨ok_nop, mo_nop⟩ (
  And.intro ⟨ok_nop, mo_nop⟩ (
  And.intro ⟨ok_nop, mo_nop⟩ (
  And.intro ⟨ok_nop, mo_nop⟩ (
  And.intro ⟨ok_nop, mo_nop⟩ (
  And.intro ⟨ok_nop, mo_nop⟩ (
  And.intro ⟨ok_nop, mo_nop⟩ (
  And.intro ⟨ok_nop, mo_nop⟩ (
  trivial))))))))))))))))
theorem kX8_pour : am_M1 am_tb0 cX8_pour RX8 6 (some .int) false tX8_pour := And.intro rX8_pour_0 (And.intro rX8_pour_1 (And.intro rX8_pour_2 (And.intro rX8_pour_3 (And.intro rX8_pour_4 (And.intro rX8_pour_5 (And.intro rX8_pour_6 (And.intro rX8_pour_7 (trivial))))))))
def tX8_reads : List (List am_Op) := [[o_iload 1 1, o_cs 189 1 1 1 4, am_nop, am_nop, o_if (fun x => ¬ x = 0) 10 7, am_nop, am_nop, o_push (.int (-1000000001)) 9, am_nop, o_iret, o_aload 0 11, o_getR 8 38 28 14, am_nop, am_nop, o_iload 1 15, o_iald 20 16],
  [o_if (fun x => 0 ≤ x) 22 19, am_nop, am_nop, o_push (.int (-1000000011)) 21, am_nop, o_iret, o_push (.int 0) 23, o_istore 2 24, o_iload 2 25, o_aload 0 26, o_getR 8 38 29 29, am_nop, am_nop, o_iload 1 30, o_iald 20 31, o_icmp (fun x y => y ≤ x) 78 34],
  [am_nop, am_nop, o_aload 0 35, o_getR 8 38 30 38, am_nop, am_nop, o_push (.int 24) 40, am_nop, o_iload 1 41, o_bin (fun x y => x * y) 42, o_iload 2 43, o_bin (fun x y => x + y) 44, o_iald 20 45, o_istore 3 46, o_iload 3 47, o_push (.int (-1000000005)) 49],
  [am_nop, o_icmp (fun x y => x = y) 72 52, am_nop, am_nop, o_aload 0 53, o_iload 2 54, o_cv 8 38 117 2 1 1 57, am_nop, am_nop, o_if (fun x => x = 0) 70 60, am_nop, am_nop, o_iload 3 61, o_aload 0 62, o_iload 2 63, o_push (.int 2) 64],
  [o_cv 8 38 121 3 0 2 67, am_nop, am_nop, o_icmp (fun x y => x = y) 72 70, am_nop, am_nop, o_iload 2 71, o_iret, o_iinc 2 1 75, am_nop, am_nop, o_goto 24, am_nop, am_nop, o_push (.int (-1000000005)) 80, am_nop],
  [o_iret, am_nop, am_nop, am_nop, am_nop, am_nop, am_nop, am_nop, am_nop, am_nop, am_nop, am_nop, am_nop, am_nop, am_nop, am_nop]]
theorem rX8_reads_0 : am_allR (fun pc o => am_ok am_tb0 cX8_reads RX8 4 (some .int) false pc o ∧ am_mo o) 0 (am_nth [] tX8_reads 0) :=
  And.intro ⟨ok_iload_n dX8_reads_0 rfl rfl, mo_iload⟩ (
  And.intro ⟨ok_cs (z := 189) dX8_reads_1 wd_1238 wd_1239 wd_8 wd_1240 rfl (by decide) hy_X8_isSheet rfl, mo_cs⟩ (
  And.intro ⟨ok_nop, mo_nop⟩ (
  And.intro ⟨ok_nop, mo_nop⟩ (
  And.intro ⟨ok_if_ne dX8_reads_4 (by decide) rfl, mo_if⟩ (
  And.intro ⟨ok_nop, mo_nop⟩ (
  And.intro ⟨ok_nop, mo_nop⟩ (
  And.intro ⟨ok_ldc dX8_reads_7 rfl wd_1021, mo_push⟩ (
  And.intro ⟨ok_nop, mo_nop⟩ (
  And.intro ⟨ok_iret dX8_reads_9 rfl, mo_iret⟩ (
  And.intro ⟨ok_aload_n dX8_reads_10 rfl rfl, mo_aload⟩ (
  And.intro ⟨ok_getR dX8_reads_11 hclX8 inWX8 (by decide) (by decide) wd_919 (fun _ _ _ => rfl) rfl, mo_getR⟩ (
  And.intro ⟨ok_nop, mo_nop⟩ (
  And.intro ⟨ok_nop, mo_nop⟩ (
  And.intro ⟨ok_iload_n dX8_reads_14 rfl rfl, mo_iload⟩ (
  And.intro ⟨ok_iald dX8_reads_15 rfl, mo_iald⟩ (
  trivial))))))))))))))))
theorem rX8_reads_1 : am_allR (fun pc o => am_ok am_tb0 cX8_reads RX8 4 (some .int) false pc o ∧ am_mo o) 16 (am_nth [] tX8_reads 1) :=
  And.intro ⟨ok_if_ge dX8_reads_16 (by decide) rfl, mo_if⟩ (
  And.intro ⟨ok_nop, mo_nop⟩ (
  And.intro ⟨ok_nop, mo_nop⟩ (
  And.intro ⟨ok_ldc dX8_reads_19 rfl wd_1241, mo_push⟩ (
  And.intro ⟨ok_nop, mo_nop⟩ (
  And.intro ⟨ok_iret dX8_reads_21 rfl, mo_iret⟩ (
  And.intro ⟨ok_iconst dX8_reads_22 rfl ic_0, mo_push⟩ (
  And.intro ⟨ok_istore_n dX8_reads_23 rfl (by decide) rfl, mo_istore⟩ (
  And.intro ⟨ok_iload_n dX8_reads_24 rfl rfl, mo_iload⟩ (
  And.intro ⟨ok_aload_n dX8_reads_25 rfl rfl, mo_aload⟩ (
  And.intro ⟨ok_getR dX8_reads_26 hclX8 inWX8 (by decide) (by decide) wd_920 (fun _ _ _ => rfl) rfl, mo_getR⟩ (
  And.intro ⟨ok_nop, mo_nop⟩ (
  And.intro ⟨ok_nop, mo_nop⟩ (
  And.intro ⟨ok_iload_n dX8_reads_29 rfl rfl, mo_iload⟩ (
  And.intro ⟨ok_iald dX8_reads_30 rfl, mo_iald⟩ (
  And.intro ⟨ok_icmp_ge dX8_reads_31 (by decide) rfl, mo_icmp⟩ (
  trivial))))))))))))))))
theorem rX8_reads_2 : am_allR (fun pc o => am_ok am_tb0 cX8_reads RX8 4 (some .int) false pc o ∧ am_mo o) 32 (am_nth [] tX8_reads 2) :=
  And.intro ⟨ok_nop, mo_nop⟩ (
  And.intro ⟨ok_nop, mo_nop⟩ (
  And.intro ⟨ok_aload_n dX8_reads_34 rfl rfl, mo_aload⟩ (
  And.intro ⟨ok_getR dX8_reads_35 hclX8 inWX8 (by decide) (by decide) wd_921 (fun _ _ _ => rfl) rfl, mo_getR⟩ (
  And.intro ⟨ok_nop, mo_nop⟩ (
  And.intro ⟨ok_nop, mo_nop⟩ (
  And.intro ⟨ok_bipush dX8_reads_38 rfl bi_24, mo_push⟩ (
  And.intro ⟨ok_nop, mo_nop⟩ (
  And.intro ⟨ok_iload_n dX8_reads_40 rfl rfl, mo_iload⟩ (
  And.intro ⟨ok_imul dX8_reads_41 rfl, mo_bin⟩ (
  And.intro ⟨ok_iload_n dX8_reads_42 rfl rfl, mo_iload⟩ (
  And.intro ⟨ok_iadd dX8_reads_43 rfl, mo_bin⟩ (
  And.intro ⟨ok_iald dX8_reads_44 rfl, mo_iald⟩ (
  And.intro ⟨ok_istore_n dX8_reads_45 rfl (by decide) rfl, mo_istore⟩ (
  And.intro ⟨ok_iload_n dX8_reads_46 rfl rfl, mo_iload⟩ (
  And.intro ⟨ok_ldc dX8_reads_47 rfl wd_1173, mo_push⟩ (
  trivial))))))))))))))))
theorem rX8_reads_3 : am_allR (fun pc o => am_ok am_tb0 cX8_reads RX8 4 (some .int) false pc o ∧ am_mo o) 48 (am_nth [] tX8_reads 3) :=
  And.intro ⟨ok_nop, mo_nop⟩ (
  And.intro ⟨ok_icmp_eq dX8_reads_49 (by decide) rfl, mo_icmp⟩ (
  And.intro ⟨ok_nop, mo_nop⟩ (
  And.intro ⟨ok_nop, mo_nop⟩ (
  And.intro ⟨ok_aload_n dX8_reads_52 rfl rfl, mo_aload⟩ (
  And.intro ⟨ok_iload_n dX8_reads_53 rfl rfl, mo_iload⟩ (
  And.intro ⟨ok_cv (z := 117) dX8_reads_54 hclX8 (by decide) wd_1039 wd_1041 wp_20 wd_8 wd_1042 rfl (by decide) ⟨rfl, hy_X8_isHole⟩ rfl, mo_cv⟩ (
  And.intro ⟨ok_nop, mo_nop⟩ (
  And.intro ⟨ok_nop, mo_nop⟩ (
  And.intro ⟨ok_if_eq dX8_reads_57 (by decide) rfl, mo_if⟩ (
  And.intro ⟨ok_nop, mo_nop⟩ (
  And.intro ⟨ok_nop, mo_nop⟩ (
  And.intro ⟨ok_iload_n dX8_reads_60 rfl rfl, mo_iload⟩ (
  And.intro ⟨ok_aload_n dX8_reads_61 rfl rfl, mo_aload⟩ (
  And.intro ⟨ok_iload_n dX8_reads_62 rfl rfl, mo_iload⟩ (
  And.intro ⟨ok_iconst dX8_reads_63 rfl ic_2, mo_push⟩ (
  trivial))))))))))))))))
theorem rX8_reads_4 : am_allR (fun pc o => am_ok am_tb0 cX8_reads RX8 4 (some .int) false pc o ∧ am_mo o) 64 (am_nth [] tX8_reads 4) :=
  And.intro ⟨ok_cv (z := 121) dX8_reads_64 hclX8 (by decide) wd_1043 wd_1045 wp_21 wd_8 wd_1046 rfl (by decide) ⟨rfl, hy_X8_of⟩ rfl, mo_cv⟩ (
  And.intro ⟨ok_nop, mo_nop⟩ (
  And.intro ⟨ok_nop, mo_nop⟩ (
  And.intro ⟨ok_icmp_eq dX8_reads_67 (by decide) rfl, mo_icmp⟩ (
  And.intro ⟨ok_nop, mo_nop⟩ (
  And.intro ⟨ok_nop, mo_nop⟩ (
  And.intro ⟨ok_iload_n dX8_reads_70 rfl rfl, mo_iload⟩ (
  And.intro ⟨ok_iret dX8_reads_71 rfl, mo_iret⟩ (
  And.intro ⟨ok_iinc dX8_reads_72 ic_1 (by decide) rfl, mo_iinc⟩ (
  And.intro ⟨ok_nop, mo_nop⟩ (
  And.intro ⟨ok_nop, mo_nop⟩ (
  And.intro ⟨ok_goto dX8_reads_75 (by decide), mo_goto⟩ (
  And.intro ⟨ok_nop, mo_nop⟩ (
  And.intro ⟨ok_nop, mo_nop⟩ (
  And.intro ⟨ok_ldc dX8_reads_78 rfl wd_1173, mo_push⟩ (
  And.intro ⟨ok_nop, mo_nop⟩ (
  trivial))))))))))))))))
theorem rX8_reads_5 : am_allR (fun pc o => am_ok am_tb0 cX8_reads RX8 4 (some .int) false pc o ∧ am_mo o) 80 (am_nth [] tX8_reads 5) :=
  And.intro ⟨ok_iret dX8_reads_80 rfl, mo_iret⟩ (
  And.intro ⟨ok_nop, mo_nop⟩ (
  And.intro ⟨ok_nop, mo_nop⟩ (
  And.intro ⟨ok_nop, mo_nop⟩ (
  And.intro ⟨ok_nop, mo_nop⟩ (
  And.intro ⟨ok_nop, mo_nop⟩ (
  And.intro ⟨ok_nop, mo_nop⟩ (
  And.intro ⟨ok_nop, mo_nop⟩ (
  And.intro ⟨ok_nop, mo_nop⟩ (
  And.intro ⟨ok_nop, mo_nop⟩ (
  And.intro ⟨ok_nop, mo_nop⟩ (
  And.intro ⟨ok_nop, mo_nop⟩ (
  And.intro ⟨ok_nop, mo_nop⟩ (
  And.intro ⟨ok_nop, mo_nop⟩ (
  And.intro ⟨ok_nop, mo_nop⟩ (
  And.intro ⟨ok_nop, mo_nop⟩ (
  trivial))))))))))))))))
theorem kX8_reads : am_M1 am_tb0 cX8_reads RX8 4 (some .int) false tX8_reads := And.intro rX8_reads_0 (And.intro rX8_reads_1 (And.intro rX8_reads_2 (And.intro rX8_reads_3 (And.intro rX8_reads_4 (And.intro rX8_reads_5 (trivial))))))
def tX8_copy : List (List am_Op) := [[o_iload 1 1, o_cs 189 1 1 1 4, am_nop, am_nop, o_if (fun x => x = 0) 14 7, am_nop, am_nop, o_iload 3 8, o_cs 189 1 1 1 11, am_nop, am_nop, o_if (fun x => ¬ x = 0) 17 14, am_nop, am_nop, o_push (.int (-1000000001)) 16, am_nop],
  [o_iret, o_aload 0 18, o_getR 8 38 28 21, am_nop, am_nop, o_iload 1 22, o_iald 20 23, o_if (fun x => x < 0) 35 26, am_nop, am_nop, o_aload 0 27, o_getR 8 38 28 30, am_nop, am_nop, o_iload 3 31, o_iald 20 32],
  [o_if (fun x => 0 ≤ x) 38 35, am_nop, am_nop, o_push (.int (-1000000011)) 37, am_nop, o_iret, o_aload 0 39, o_getR 8 38 28 42, am_nop, am_nop, o_iload 1 43, o_iald 20 44, o_aload 0 45, o_getR 8 38 28 48, am_nop, am_nop],
  [o_iload 3 49, o_iald 20 50, o_icmp (fun x y => x = y) 56 53, am_nop, am_nop, o_push (.int (-1000000012)) 55, am_nop, o_iret, o_iload 2 57, o_if (fun x => x < 0) 97 60, am_nop, am_nop, o_iload 4 62, am_nop, o_if (fun x => x < 0) 97 65, am_nop],
  [am_nop, o_iload 5 67, am_nop, o_if (fun x => x < 0) 97 70, am_nop, am_nop, o_iload 2 71, o_aload 0 72, o_getR 8 38 29 75, am_nop, am_nop, o_iload 1 76, o_iald 20 77, o_iload 5 79, am_nop, o_bin (fun x y => x - y) 80],
  [o_icmp (fun x y => y < x) 97 83, am_nop, am_nop, o_iload 4 85, am_nop, o_aload 0 86, o_getR 8 38 29 89, am_nop, am_nop, o_iload 3 90, o_iald 20 91, o_iload 5 93, am_nop, o_bin (fun x y => x - y) 94, o_icmp (fun x y => x ≤ y) 101 97, am_nop],
  [am_nop, o_push (.int (-1000000013)) 100, am_nop, am_nop, o_iret, o_push (.int 0) 102, o_istore 6 104, am_nop, o_iload 6 106, am_nop, o_iload 5 108, am_nop, o_icmp (fun x y => y ≤ x) 138 111, am_nop, am_nop, o_aload 0 112],
  [o_getR 8 38 35 115, am_nop, am_nop, o_iload 6 117, am_nop, o_aload 0 118, o_getR 8 38 30 121, am_nop, am_nop, o_push (.int 24) 123, am_nop, o_iload 1 124, o_bin (fun x y => x * y) 125, o_iload 2 126, o_bin (fun x y => x + y) 127, o_iload 6 129],
  [am_nop, o_bin (fun x y => x + y) 130, o_iald 20 131, o_iast 132, o_iinc 6 1 135, am_nop, am_nop, o_goto 104, am_nop, am_nop, o_push (.int 0) 139, o_istore 6 141, am_nop, o_iload 6 143, am_nop, o_iload 5 145],
  [am_nop, o_icmp (fun x y => y ≤ x) 176 148, am_nop, am_nop, o_aload 0 149, o_getR 8 38 30 152, am_nop, am_nop, o_push (.int 24) 154, am_nop, o_iload 3 155, o_bin (fun x y => x * y) 156, o_iload 4 158, am_nop, o_bin (fun x y => x + y) 159, o_iload 6 161],
  [am_nop, o_bin (fun x y => x + y) 162, o_aload 0 163, o_getR 8 38 35 166, am_nop, am_nop, o_iload 6 168, am_nop, o_iald 20 169, o_iast 170, o_iinc 6 1 173, am_nop, am_nop, o_goto 141, am_nop, am_nop],
  [o_iload 5 178, am_nop, o_iret, am_nop, am_nop, am_nop, am_nop, am_nop, am_nop, am_nop, am_nop, am_nop, am_nop, am_nop, am_nop, am_nop]]
theorem rX8_copy_0 : am_allR (fun pc o => am_ok am_tb0 cX8_copy RX8 7 (some .int) false pc o ∧ am_mo o) 0 (am_nth [] tX8_copy 0) :=
  And.intro ⟨ok_iload_n dX8_copy_0 rfl rfl, mo_iload⟩ (
  And.intro ⟨ok_cs (z := 189) dX8_copy_1 wd_1238 wd_1239 wd_8 wd_1240 rfl (by decide) hy_X8_isSheet rfl, mo_cs⟩ (
  And.intro ⟨ok_nop, mo_nop⟩ (
  And.intro ⟨ok_nop, mo_nop⟩ (
  And.intro ⟨ok_if_eq dX8_copy_4 (by decide) rfl, mo_if⟩ (
  And.intro ⟨ok_nop, mo_nop⟩ (
  And.intro ⟨ok_nop, mo_nop⟩ (
  And.intro ⟨ok_iload_n dX8_copy_7 rfl rfl, mo_iload⟩ (
  And.intro ⟨ok_cs (z := 189) dX8_copy_8 wd_1238 wd_1239 wd_8 wd_1240 rfl (by decide) hy_X8_isSheet rfl, mo_cs⟩ (
  And.intro ⟨ok_nop, mo_nop⟩ (
  And.intro ⟨ok_nop, mo_nop⟩ (
  And.intro ⟨ok_if_ne dX8_copy_11 (by decide) rfl, mo_if⟩ (
  And.intro ⟨ok_nop, mo_nop⟩ (
  And.intro ⟨ok_nop, mo_nop⟩ (
  And.intro ⟨ok_ldc dX8_copy_14 rfl wd_1021, mo_push⟩ (
  And.intro ⟨ok_nop, mo_nop⟩ (
  trivial))))))))))))))))
theorem rX8_copy_1 : am_allR (fun pc o => am_ok am_tb0 cX8_copy RX8 7 (some .int) false pc o ∧ am_mo o) 16 (am_nth [] tX8_copy 1) :=
  And.intro ⟨ok_iret dX8_copy_16 rfl, mo_iret⟩ (
  And.intro ⟨ok_aload_n dX8_copy_17 rfl rfl, mo_aload⟩ (
  And.intro ⟨ok_getR dX8_copy_18 hclX8 inWX8 (by decide) (by decide) wd_919 (fun _ _ _ => rfl) rfl, mo_getR⟩ (
  And.intro ⟨ok_nop, mo_nop⟩ (
  And.intro ⟨ok_nop, mo_nop⟩ (
  And.intro ⟨ok_iload_n dX8_copy_21 rfl rfl, mo_iload⟩ (
  And.intro ⟨ok_iald dX8_copy_22 rfl, mo_iald⟩ (
  And.intro ⟨ok_if_lt dX8_copy_23 (by decide) rfl, mo_if⟩ (
  And.intro ⟨ok_nop, mo_nop⟩ (
  And.intro ⟨ok_nop, mo_nop⟩ (
  And.intro ⟨ok_aload_n dX8_copy_26 rfl rfl, mo_aload⟩ (
  And.intro ⟨ok_getR dX8_copy_27 hclX8 inWX8 (by decide) (by decide) wd_919 (fun _ _ _ => rfl) rfl, mo_getR⟩ (
  And.intro ⟨ok_nop, mo_nop⟩ (
  And.intro ⟨ok_nop, mo_nop⟩ (
  And.intro ⟨ok_iload_n dX8_copy_30 rfl rfl, mo_iload⟩ (
  And.intro ⟨ok_iald dX8_copy_31 rfl, mo_iald⟩ (
  trivial))))))))))))))))
theorem rX8_copy_2 : am_allR (fun pc o => am_ok am_tb0 cX8_copy RX8 7 (some .int) false pc o ∧ am_mo o) 32 (am_nth [] tX8_copy 2) :=
  And.intro ⟨ok_if_ge dX8_copy_32 (by decide) rfl, mo_if⟩ (
  And.intro ⟨ok_nop, mo_nop⟩ (
  And.intro ⟨ok_nop, mo_nop⟩ (
  And.intro ⟨ok_ldc dX8_copy_35 rfl wd_1241, mo_push⟩ (
  And.intro ⟨ok_nop, mo_nop⟩ (
  And.intro ⟨ok_iret dX8_copy_37 rfl, mo_iret⟩ (
  And.intro ⟨ok_aload_n dX8_copy_38 rfl rfl, mo_aload⟩ (
  And.intro ⟨ok_getR dX8_copy_39 hclX8 inWX8 (by decide) (by decide) wd_919 (fun _ _ _ => rfl) rfl, mo_getR⟩ (
  And.intro ⟨ok_nop, mo_nop⟩ (
  And.intro ⟨ok_nop, mo_nop⟩ (
  And.intro ⟨ok_iload_n dX8_copy_42 rfl rfl, mo_iload⟩ (
  And.intro ⟨ok_iald dX8_copy_43 rfl, mo_iald⟩ (
  And.intro ⟨ok_aload_n dX8_copy_44 rfl rfl, mo_aload⟩ (
  And.intro ⟨ok_getR dX8_copy_45 hclX8 inWX8 (by decide) (by decide) wd_919 (fun _ _ _ => rfl) rfl, mo_getR⟩ (
  And.intro ⟨ok_nop, mo_nop⟩ (
  And.intro ⟨ok_nop, mo_nop⟩ (
  trivial))))))))))))))))
theorem rX8_copy_3 : am_allR (fun pc o => am_ok am_tb0 cX8_copy RX8 7 (some .int) false pc o ∧ am_mo o) 48 (am_nth [] tX8_copy 3) :=
  And.intro ⟨ok_iload_n dX8_copy_48 rfl rfl, mo_iload⟩ (
  And.intro ⟨ok_iald dX8_copy_49 rfl, mo_iald⟩ (
  And.intro ⟨ok_icmp_eq dX8_copy_50 (by decide) rfl, mo_icmp⟩ (
  And.intro ⟨ok_nop, mo_nop⟩ (
  And.intro ⟨ok_nop, mo_nop⟩ (
  And.intro ⟨ok_ldc dX8_copy_53 rfl wd_1058, mo_push⟩ (
  And.intro ⟨ok_nop, mo_nop⟩ (
  And.intro ⟨ok_iret dX8_copy_55 rfl, mo_iret⟩ (
  And.intro ⟨ok_iload_n dX8_copy_56 rfl rfl, mo_iload⟩ (
  And.intro ⟨ok_if_lt dX8_copy_57 (by decide) rfl, mo_if⟩ (
  And.intro ⟨ok_nop, mo_nop⟩ (
  And.intro ⟨ok_nop, mo_nop⟩ (
  And.intro ⟨ok_iload dX8_copy_60 rfl, mo_iload⟩ (
  And.intro ⟨ok_nop, mo_nop⟩ (
  And.intro ⟨ok_if_lt dX8_copy_62 (by decide) rfl, mo_if⟩ (
  And.intro ⟨ok_nop, mo_nop⟩ (
  trivial))))))))))))))))
theorem rX8_copy_4 : am_allR (fun pc o => am_ok am_tb0 cX8_copy RX8 7 (some .int) false pc o ∧ am_mo o) 64 (am_nth [] tX8_copy 4) :=
  And.intro ⟨ok_nop, mo_nop⟩ (
  And.intro ⟨ok_iload dX8_copy_65 rfl, mo_iload⟩ (
  And.intro ⟨ok_nop, mo_nop⟩ (
  And.intro ⟨ok_if_lt dX8_copy_67 (by decide) rfl, mo_if⟩ (
  And.intro ⟨ok_nop, mo_nop⟩ (
  And.intro ⟨ok_nop, mo_nop⟩ (
  And.intro ⟨ok_iload_n dX8_copy_70 rfl rfl, mo_iload⟩ (
  And.intro ⟨ok_aload_n dX8_copy_71 rfl rfl, mo_aload⟩ (
  And.intro ⟨ok_getR dX8_copy_72 hclX8 inWX8 (by decide) (by decide) wd_920 (fun _ _ _ => rfl) rfl, mo_getR⟩ (
  And.intro ⟨ok_nop, mo_nop⟩ (
  And.intro ⟨ok_nop, mo_nop⟩ (
  And.intro ⟨ok_iload_n dX8_copy_75 rfl rfl, mo_iload⟩ (
  And.intro ⟨ok_iald dX8_copy_76 rfl, mo_iald⟩ (
  And.intro ⟨ok_iload dX8_copy_77 rfl, mo_iload⟩ (
  And.intro ⟨ok_nop, mo_nop⟩ (
  And.intro ⟨ok_isub dX8_copy_79 rfl, mo_bin⟩ (
  trivial))))))))))))))))
theorem rX8_copy_5 : am_allR (fun pc o => am_ok am_tb0 cX8_copy RX8 7 (some .int) false pc o ∧ am_mo o) 80 (am_nth [] tX8_copy 5) :=
  And.intro ⟨ok_icmp_gt dX8_copy_80 (by decide) rfl, mo_icmp⟩ (
  And.intro ⟨ok_nop, mo_nop⟩ (
  And.intro ⟨ok_nop, mo_nop⟩ (
  And.intro ⟨ok_iload dX8_copy_83 rfl, mo_iload⟩ (
  And.intro ⟨ok_nop, mo_nop⟩ (
  And.intro ⟨ok_aload_n dX8_copy_85 rfl rfl, mo_aload⟩ (
  And.intro ⟨ok_getR dX8_copy_86 hclX8 inWX8 (by decide) (by decide) wd_920 (fun _ _ _ => rfl) rfl, mo_getR⟩ (
  And.intro ⟨ok_nop, mo_nop⟩ (
  And.intro ⟨ok_nop, mo_nop⟩ (
  And.intro ⟨ok_iload_n dX8_copy_89 rfl rfl, mo_iload⟩ (
  And.intro ⟨ok_iald dX8_copy_90 rfl, mo_iald⟩ (
  And.intro ⟨ok_iload dX8_copy_91 rfl, mo_iload⟩ (
  And.intro ⟨ok_nop, mo_nop⟩ (
  And.intro ⟨ok_isub dX8_copy_93 rfl, mo_bin⟩ (
  And.intro ⟨ok_icmp_le dX8_copy_94 (by decide) rfl, mo_icmp⟩ (
  And.intro ⟨ok_nop, mo_nop⟩ (
  trivial))))))))))))))))
theorem rX8_copy_6 : am_allR (fun pc o => am_ok am_tb0 cX8_copy RX8 7 (some .int) false pc o ∧ am_mo o) 96 (am_nth [] tX8_copy 6) :=
  And.intro ⟨ok_nop, mo_nop⟩ (
  And.intro ⟨ok_ldcw dX8_copy_97 rfl wd_1318, mo_push⟩ (
  And.intro ⟨ok_nop, mo_nop⟩ (
  And.intro ⟨ok_nop, mo_nop⟩ (
  And.intro ⟨ok_iret dX8_copy_100 rfl, mo_iret⟩ (
  And.intro ⟨ok_iconst dX8_copy_101 rfl ic_0, mo_push⟩ (
  And.intro ⟨ok_istore dX8_copy_102 (by decide) rfl, mo_istore⟩ (
  And.intro ⟨ok_nop, mo_nop⟩ (
  And.intro ⟨ok_iload dX8_copy_104 rfl, mo_iload⟩ (
  And.intro ⟨ok_nop, mo_nop⟩ (
  And.intro ⟨ok_iload dX8_copy_106 rfl, mo_iload⟩ (
  And.intro ⟨ok_nop, mo_nop⟩ (
  And.intro ⟨ok_icmp_ge dX8_copy_108 (by decide) rfl, mo_icmp⟩ (
  And.intro ⟨ok_nop, mo_nop⟩ (
  And.intro ⟨ok_nop, mo_nop⟩ (
  And.intro ⟨ok_aload_n dX8_copy_111 rfl rfl, mo_aload⟩ (
  trivial))))))))))))))))
theorem rX8_copy_7 : am_allR (fun pc o => am_ok am_tb0 cX8_copy RX8 7 (some .int) false pc o ∧ am_mo o) 112 (am_nth [] tX8_copy 7) :=
  And.intro ⟨ok_getR dX8_copy_112 hclX8 inWX8 (by decide) (by decide) wd_926 (fun _ _ _ => rfl) rfl, mo_getR⟩ (
  And.intro ⟨ok_nop, mo_nop⟩ (
  And.intro ⟨ok_nop, mo_nop⟩ (
  And.intro ⟨ok_iload dX8_copy_115 rfl, mo_iload⟩ (
  And.intro ⟨ok_nop, mo_nop⟩ (
  And.intro ⟨ok_aload_n dX8_copy_117 rfl rfl, mo_aload⟩ (
  And.intro ⟨ok_getR dX8_copy_118 hclX8 inWX8 (by decide) (by decide) wd_921 (fun _ _ _ => rfl) rfl, mo_getR⟩ (
  And.intro ⟨ok_nop, mo_nop⟩ (
  And.intro ⟨ok_nop, mo_nop⟩ (
  And.intro ⟨ok_bipush dX8_copy_121 rfl bi_24, mo_push⟩ (
  And.intro ⟨ok_nop, mo_nop⟩ (
  And.intro ⟨ok_iload_n dX8_copy_123 rfl rfl, mo_iload⟩ (
  And.intro ⟨ok_imul dX8_copy_124 rfl, mo_bin⟩ (
  And.intro ⟨ok_iload_n dX8_copy_125 rfl rfl, mo_iload⟩ (
  And.intro ⟨ok_iadd dX8_copy_126 rfl, mo_bin⟩ (
  And.intro ⟨ok_iload dX8_copy_127 rfl, mo_iload⟩ (
  trivial))))))))))))))))
theorem rX8_copy_8 : am_allR (fun pc o => am_ok am_tb0 cX8_copy RX8 7 (some .int) false pc o ∧ am_mo o) 128 (am_nth [] tX8_copy 8) :=
  And.intro ⟨ok_nop, mo_nop⟩ (
  And.intro ⟨ok_iadd dX8_copy_129 rfl, mo_bin⟩ (
  And.intro ⟨ok_iald dX8_copy_130 rfl, mo_iald⟩ (
  And.intro ⟨ok_iast dX8_copy_131 rfl, mo_iast⟩ (
  And.intro ⟨ok_iinc dX8_copy_132 ic_1 (by decide) rfl, mo_iinc⟩ (
  And.intro ⟨ok_nop, mo_nop⟩ (
  And.intro ⟨ok_nop, mo_nop⟩ (
  And.intro ⟨ok_goto dX8_copy_135 (by decide), mo_goto⟩ (
  And.intro ⟨ok_nop, mo_nop⟩ (
  And.intro ⟨ok_nop, mo_nop⟩ (
  And.intro ⟨ok_iconst dX8_copy_138 rfl ic_0, mo_push⟩ (
  And.intro ⟨ok_istore dX8_copy_139 (by decide) rfl, mo_istore⟩ (
  And.intro ⟨ok_nop, mo_nop⟩ (
  And.intro ⟨ok_iload dX8_copy_141 rfl, mo_iload⟩ (
  And.intro ⟨ok_nop, mo_nop⟩ (
  And.intro ⟨ok_iload dX8_copy_143 rfl, mo_iload⟩ (
  trivial))))))))))))))))
theorem rX8_copy_9 : am_allR (fun pc o => am_ok am_tb0 cX8_copy RX8 7 (some .int) false pc o ∧ am_mo o) 144 (am_nth [] tX8_copy 9) :=
  And.intro ⟨ok_nop, mo_nop⟩ (
  And.intro ⟨ok_icmp_ge dX8_copy_145 (by decide) rfl, mo_icmp⟩ (
  And.intro ⟨ok_nop, mo_nop⟩ (
  And.intro ⟨ok_nop, mo_nop⟩ (
  And.intro ⟨ok_aload_n dX8_copy_148 rfl rfl, mo_aload⟩ (
  And.intro ⟨ok_getR dX8_copy_149 hclX8 inWX8 (by decide) (by decide) wd_921 (fun _ _ _ => rfl) rfl, mo_getR⟩ (
  And.intro ⟨ok_nop, mo_nop⟩ (
  And.intro ⟨ok_nop, mo_nop⟩ (
  And.intro ⟨ok_bipush dX8_copy_152 rfl bi_24, mo_push⟩ (
  And.intro ⟨ok_nop, mo_nop⟩ (
  And.intro ⟨ok_iload_n dX8_copy_154 rfl rfl, mo_iload⟩ (
  And.intro ⟨ok_imul dX8_copy_155 rfl, mo_bin⟩ (
  And.intro ⟨ok_iload dX8_copy_156 rfl, mo_iload⟩ (
  And.intro ⟨ok_nop, mo_nop⟩ (
  And.intro ⟨ok_iadd dX8_copy_158 rfl, mo_bin⟩ (
  And.intro ⟨ok_iload dX8_copy_159 rfl, mo_iload⟩ (
  trivial))))))))))))))))
theorem rX8_copy_10 : am_allR (fun pc o => am_ok am_tb0 cX8_copy RX8 7 (some .int) false pc o ∧ am_mo o) 160 (am_nth [] tX8_copy 10) :=
  And.intro ⟨ok_nop, mo_nop⟩ (
  And.intro ⟨ok_iadd dX8_copy_161 rfl, mo_bin⟩ (
  And.intro ⟨ok_aload_n dX8_copy_162 rfl rfl, mo_aload⟩ (
  And.intro ⟨ok_getR dX8_copy_163 hclX8 inWX8 (by decide) (by decide) wd_926 (fun _ _ _ => rfl) rfl, mo_getR⟩ (
  And.intro ⟨ok_nop, mo_nop⟩ (
  And.intro ⟨ok_nop, mo_nop⟩ (
  And.intro ⟨ok_iload dX8_copy_166 rfl, mo_iload⟩ (
  And.intro ⟨ok_nop, mo_nop⟩ (
  And.intro ⟨ok_iald dX8_copy_168 rfl, mo_iald⟩ (
  And.intro ⟨ok_iast dX8_copy_169 rfl, mo_iast⟩ (
  And.intro ⟨ok_iinc dX8_copy_170 ic_1 (by decide) rfl, mo_iinc⟩ (
  And.intro ⟨ok_nop, mo_nop⟩ (
  And.intro ⟨ok_nop, mo_nop⟩ (
  And.intro ⟨ok_goto dX8_copy_173 (by decide), mo_goto⟩ (
  And.intro ⟨ok_nop, mo_nop⟩ (
  And.intro ⟨ok_nop, mo_nop⟩ (
  trivial))))))))))))))))
theorem rX8_copy_11 : am_allR (fun pc o => am_ok am_tb0 cX8_copy RX8 7 (some .int) false pc o ∧ am_mo o) 176 (am_nth [] tX8_copy 11) :=
  And.intro ⟨ok_iload dX8_copy_176 rfl, mo_iload⟩ (
  And.intro ⟨ok_nop, mo_nop⟩ (
  And.intro ⟨ok_iret dX8_copy_178 rfl, mo_iret⟩ (
  And.intro ⟨ok_nop, mo_nop⟩ (
  And.intro ⟨ok_nop, mo_nop⟩ (
  And.intro ⟨ok_nop, mo_nop⟩ (
  And.intro ⟨ok_nop, mo_nop⟩ (
  And.intro ⟨ok_nop, mo_nop⟩ (
  And.intro ⟨ok_nop, mo_nop⟩ (
  And.intro ⟨ok_nop, mo_nop⟩ (
  And.intro ⟨ok_nop, mo_nop⟩ (
  And.intro ⟨ok_nop, mo_nop⟩ (
  And.intro ⟨ok_nop, mo_nop⟩ (
  And.intro ⟨ok_nop, mo_nop⟩ (
  And.intro ⟨ok_nop, mo_nop⟩ (
  And.intro ⟨ok_nop, mo_nop⟩ (
  trivial))))))))))))))))
theorem kX8_copy : am_M1 am_tb0 cX8_copy RX8 7 (some .int) false tX8_copy := And.intro rX8_copy_0 (And.intro rX8_copy_1 (And.intro rX8_copy_2 (And.intro rX8_copy_3 (And.intro rX8_copy_4 (And.intro rX8_copy_5 (And.intro rX8_copy_6 (And.intro rX8_copy_7 (And.intro rX8_copy_8 (And.intro rX8_copy_9 (And.intro rX8_copy_10 (And.intro rX8_copy_11 (trivial))))))))))))
def tX8_lay : List (List am_Op) := [[o_iload 1 1, o_cs 190 1 1 1 4, am_nop, am_nop, o_if (fun x => x = 0) 41 7, am_nop, am_nop, o_iload 2 8, o_push (.int 0) 9, o_push (.int 3) 10, o_cs 113 3 0 3 13, am_nop, am_nop, o_if (fun x => x = 0) 41 16, am_nop, am_nop],
  [o_iload 2 17, o_push (.int 1) 18, o_icmp (fun x y => ¬ x = y) 29 21, am_nop, am_nop, o_aload 0 22, o_iload 3 23, o_cv 8 38 117 2 1 1 26, am_nop, am_nop, o_if (fun x => x = 0) 41 29, am_nop, am_nop, o_iload 2 30, o_push (.int 2) 31, o_icmp (fun x y => ¬ x = y) 44 34],
  [am_nop, am_nop, o_iload 3 35, o_cs 189 1 1 1 38, am_nop, am_nop, o_if (fun x => ¬ x = 0) 44 41, am_nop, am_nop, o_push (.int (-1000000001)) 43, am_nop, o_iret, o_iload 2 45, o_push (.int 2) 46, o_icmp (fun x y => ¬ x = y) 61 49, am_nop],
  [am_nop, o_aload 0 50, o_getR 8 38 28 53, am_nop, am_nop, o_iload 3 54, o_iald 20 55, o_if (fun x => 0 ≤ x) 61 58, am_nop, am_nop, o_push (.int (-1000000011)) 60, am_nop, o_iret, o_aload 0 62, o_getR 8 38 31 65, am_nop],
  [am_nop, o_iload 1 66, o_iald 20 67, o_istore 4 69, am_nop, o_aload 0 70, o_getR 8 38 31 73, am_nop, am_nop, o_iload 1 74, o_iload 2 75, o_iast 76, o_aload 0 77, o_getR 8 38 32 80, am_nop, am_nop],
  [o_iload 1 81, o_iload 2 82, o_push (.int 1) 83, o_icmp (fun x y => ¬ x = y) 95 86, am_nop, am_nop, o_aload 0 87, o_iload 3 88, o_push (.int 0) 89, o_cv 8 38 121 3 0 2 92, am_nop, am_nop, o_goto 110, am_nop, am_nop, o_iload 2 96],
  [o_push (.int 2) 97, o_icmp (fun x y => ¬ x = y) 109 100, am_nop, am_nop, o_aload 0 101, o_getR 8 38 29 104, am_nop, am_nop, o_iload 3 105, o_iald 20 106, o_goto 110, am_nop, am_nop, o_iload 3 110, o_iast 111, o_aload 0 112],
  [o_getR 8 38 33 115, am_nop, am_nop, o_iload 1 116, o_iload 2 117, o_push (.int 1) 118, o_icmp (fun x y => ¬ x = y) 129 121, am_nop, am_nop, o_aload 0 122, o_iload 3 123, o_cv 8 38 127 3 1 1 126, am_nop, am_nop, o_goto 130, am_nop],
  [am_nop, o_push (.int 0) 130, o_iast 131, o_push (.int 0) 132, o_istore 5 134, am_nop, o_iload 5 136, am_nop, o_push (.int 24) 138, am_nop, o_icmp (fun x y => y ≤ x) 176 141, am_nop, am_nop, o_iload 2 142, o_push (.int 2) 143, o_icmp (fun x y => ¬ x = y) 176 146],
  [am_nop, am_nop, o_aload 0 147, o_getR 8 38 34 150, am_nop, am_nop, o_push (.int 24) 152, am_nop, o_iload 1 153, o_bin (fun x y => x * y) 154, o_iload 5 156, am_nop, o_bin (fun x y => x + y) 157, o_aload 0 158, o_getR 8 38 30 161, am_nop],
  [am_nop, o_push (.int 24) 163, am_nop, o_iload 3 164, o_bin (fun x y => x * y) 165, o_iload 5 167, am_nop, o_bin (fun x y => x + y) 168, o_iald 20 169, o_iast 170, o_iinc 5 1 173, am_nop, am_nop, o_goto 134, am_nop, am_nop],
  [o_iload 4 178, am_nop, o_iret, am_nop, am_nop, am_nop, am_nop, am_nop, am_nop, am_nop, am_nop, am_nop, am_nop, am_nop, am_nop, am_nop]]
theorem rX8_lay_0 : am_allR (fun pc o => am_ok am_tb0 cX8_lay RX8 6 (some .int) false pc o ∧ am_mo o) 0 (am_nth [] tX8_lay 0) :=
  And.intro ⟨ok_iload_n dX8_lay_0 rfl rfl, mo_iload⟩ (
  And.intro ⟨ok_cs (z := 190) dX8_lay_1 wd_1337 wd_1338 wd_8 wd_1339 rfl (by decide) hy_X8_isSlot rfl, mo_cs⟩ (
  And.intro ⟨ok_nop, mo_nop⟩ (
  And.intro ⟨ok_nop, mo_nop⟩ (
  And.intro ⟨ok_if_eq dX8_lay_4 (by decide) rfl, mo_if⟩ (
  And.intro ⟨ok_nop, mo_nop⟩ (
  And.intro ⟨ok_nop, mo_nop⟩ (
  And.intro ⟨ok_iload_n dX8_lay_7 rfl rfl, mo_iload⟩ (
  And.intro ⟨ok_iconst dX8_lay_8 rfl ic_0, mo_push⟩ (
  And.intro ⟨ok_iconst dX8_lay_9 rfl ic_3, mo_push⟩ (
  And.intro ⟨ok_cs (z := 113) dX8_lay_10 wd_1012 wd_1013 wd_8 wd_1014 rfl (by decide) hy_X8_in rfl, mo_cs⟩ (
  And.intro ⟨ok_nop, mo_nop⟩ (
  And.intro ⟨ok_nop, mo_nop⟩ (
  And.intro ⟨ok_if_eq dX8_lay_13 (by decide) rfl, mo_if⟩ (
  And.intro ⟨ok_nop, mo_nop⟩ (
  And.intro ⟨ok_nop, mo_nop⟩ (
  trivial))))))))))))))))
theorem rX8_lay_1 : am_allR (fun pc o => am_ok am_tb0 cX8_lay RX8 6 (some .int) false pc o ∧ am_mo o) 16 (am_nth [] tX8_lay 1) :=
  And.intro ⟨ok_iload_n dX8_lay_16 rfl rfl, mo_iload⟩ (
  And.intro ⟨ok_iconst dX8_lay_17 rfl ic_1, mo_push⟩ (
  And.intro ⟨ok_icmp_ne dX8_lay_18 (by decide) rfl, mo_icmp⟩ (
  And.intro ⟨ok_nop, mo_nop⟩ (
  And.intro ⟨ok_nop, mo_nop⟩ (
  And.intro ⟨ok_aload_n dX8_lay_21 rfl rfl, mo_aload⟩ (
  And.intro ⟨ok_iload_n dX8_lay_22 rfl rfl, mo_iload⟩ (
  And.intro ⟨ok_cv (z := 117) dX8_lay_23 hclX8 (by decide) wd_1039 wd_1041 wp_20 wd_8 wd_1042 rfl (by decide) ⟨rfl, hy_X8_isHole⟩ rfl, mo_cv⟩ (
  And.intro ⟨ok_nop, mo_nop⟩ (
  And.intro ⟨ok_nop, mo_nop⟩ (
  And.intro ⟨ok_if_eq dX8_lay_26 (by decide) rfl, mo_if⟩ (
  And.intro ⟨ok_nop, mo_nop⟩ (
  And.intro ⟨ok_nop, mo_nop⟩ (
  And.intro ⟨ok_iload_n dX8_lay_29 rfl rfl, mo_iload⟩ (
  And.intro ⟨ok_iconst dX8_lay_30 rfl ic_2, mo_push⟩ (
  And.intro ⟨ok_icmp_ne dX8_lay_31 (by decide) rfl, mo_icmp⟩ (
  trivial))))))))))))))))
theorem rX8_lay_2 : am_allR (fun pc o => am_ok am_tb0 cX8_lay RX8 6 (some .int) false pc o ∧ am_mo o) 32 (am_nth [] tX8_lay 2) :=
  And.intro ⟨ok_nop, mo_nop⟩ (
  And.intro ⟨ok_nop, mo_nop⟩ (
  And.intro ⟨ok_iload_n dX8_lay_34 rfl rfl, mo_iload⟩ (
  And.intro ⟨ok_cs (z := 189) dX8_lay_35 wd_1238 wd_1239 wd_8 wd_1240 rfl (by decide) hy_X8_isSheet rfl, mo_cs⟩ (
  And.intro ⟨ok_nop, mo_nop⟩ (
  And.intro ⟨ok_nop, mo_nop⟩ (
  And.intro ⟨ok_if_ne dX8_lay_38 (by decide) rfl, mo_if⟩ (
  And.intro ⟨ok_nop, mo_nop⟩ (
  And.intro ⟨ok_nop, mo_nop⟩ (
  And.intro ⟨ok_ldc dX8_lay_41 rfl wd_1021, mo_push⟩ (
  And.intro ⟨ok_nop, mo_nop⟩ (
  And.intro ⟨ok_iret dX8_lay_43 rfl, mo_iret⟩ (
  And.intro ⟨ok_iload_n dX8_lay_44 rfl rfl, mo_iload⟩ (
  And.intro ⟨ok_iconst dX8_lay_45 rfl ic_2, mo_push⟩ (
  And.intro ⟨ok_icmp_ne dX8_lay_46 (by decide) rfl, mo_icmp⟩ (
  And.intro ⟨ok_nop, mo_nop⟩ (
  trivial))))))))))))))))
theorem rX8_lay_3 : am_allR (fun pc o => am_ok am_tb0 cX8_lay RX8 6 (some .int) false pc o ∧ am_mo o) 48 (am_nth [] tX8_lay 3) :=
  And.intro ⟨ok_nop, mo_nop⟩ (
  And.intro ⟨ok_aload_n dX8_lay_49 rfl rfl, mo_aload⟩ (
  And.intro ⟨ok_getR dX8_lay_50 hclX8 inWX8 (by decide) (by decide) wd_919 (fun _ _ _ => rfl) rfl, mo_getR⟩ (
  And.intro ⟨ok_nop, mo_nop⟩ (
  And.intro ⟨ok_nop, mo_nop⟩ (
  And.intro ⟨ok_iload_n dX8_lay_53 rfl rfl, mo_iload⟩ (
  And.intro ⟨ok_iald dX8_lay_54 rfl, mo_iald⟩ (
  And.intro ⟨ok_if_ge dX8_lay_55 (by decide) rfl, mo_if⟩ (
  And.intro ⟨ok_nop, mo_nop⟩ (
  And.intro ⟨ok_nop, mo_nop⟩ (
  And.intro ⟨ok_ldc dX8_lay_58 rfl wd_1241, mo_push⟩ (
  And.intro ⟨ok_nop, mo_nop⟩ (
  And.intro ⟨ok_iret dX8_lay_60 rfl, mo_iret⟩ (
  And.intro ⟨ok_aload_n dX8_lay_61 rfl rfl, mo_aload⟩ (
  And.intro ⟨ok_getR dX8_lay_62 hclX8 inWX8 (by decide) (by decide) wd_922 (fun _ _ _ => rfl) rfl, mo_getR⟩ (
  And.intro ⟨ok_nop, mo_nop⟩ (
  trivial))))))))))))))))
theorem rX8_lay_4 : am_allR (fun pc o => am_ok am_tb0 cX8_lay RX8 6 (some .int) false pc o ∧ am_mo o) 64 (am_nth [] tX8_lay 4) :=
  And.intro ⟨ok_nop, mo_nop⟩ (
  And.intro ⟨ok_iload_n dX8_lay_65 rfl rfl, mo_iload⟩ (
  And.intro ⟨ok_iald dX8_lay_66 rfl, mo_iald⟩ (
  And.intro ⟨ok_istore dX8_lay_67 (by decide) rfl, mo_istore⟩ (
  And.intro ⟨ok_nop, mo_nop⟩ (
  And.intro ⟨ok_aload_n dX8_lay_69 rfl rfl, mo_aload⟩ (
  And.intro ⟨ok_getR dX8_lay_70 hclX8 inWX8 (by decide) (by decide) wd_922 (fun _ _ _ => rfl) rfl, mo_getR⟩ (
  And.intro ⟨ok_nop, mo_nop⟩ (
  And.intro ⟨ok_nop, mo_nop⟩ (
  And.intro ⟨ok_iload_n dX8_lay_73 rfl rfl, mo_iload⟩ (
  And.intro ⟨ok_iload_n dX8_lay_74 rfl rfl, mo_iload⟩ (
  And.intro ⟨ok_iast dX8_lay_75 rfl, mo_iast⟩ (
  And.intro ⟨ok_aload_n dX8_lay_76 rfl rfl, mo_aload⟩ (
  And.intro ⟨ok_getR dX8_lay_77 hclX8 inWX8 (by decide) (by decide) wd_923 (fun _ _ _ => rfl) rfl, mo_getR⟩ (
  And.intro ⟨ok_nop, mo_nop⟩ (
  And.intro ⟨ok_nop, mo_nop⟩ (
  trivial))))))))))))))))
theorem rX8_lay_5 : am_allR (fun pc o => am_ok am_tb0 cX8_lay RX8 6 (some .int) false pc o ∧ am_mo o) 80 (am_nth [] tX8_lay 5) :=
  And.intro ⟨ok_iload_n dX8_lay_80 rfl rfl, mo_iload⟩ (
  And.intro ⟨ok_iload_n dX8_lay_81 rfl rfl, mo_iload⟩ (
  And.intro ⟨ok_iconst dX8_lay_82 rfl ic_1, mo_push⟩ (
  And.intro ⟨ok_icmp_ne dX8_lay_83 (by decide) rfl, mo_icmp⟩ (
  And.intro ⟨ok_nop, mo_nop⟩ (
  And.intro ⟨ok_nop, mo_nop⟩ (
  And.intro ⟨ok_aload_n dX8_lay_86 rfl rfl, mo_aload⟩ (
  And.intro ⟨ok_iload_n dX8_lay_87 rfl rfl, mo_iload⟩ (
  And.intro ⟨ok_iconst dX8_lay_88 rfl ic_0, mo_push⟩ (
  And.intro ⟨ok_cv (z := 121) dX8_lay_89 hclX8 (by decide) wd_1043 wd_1045 wp_21 wd_8 wd_1046 rfl (by decide) ⟨rfl, hy_X8_of⟩ rfl, mo_cv⟩ (
  And.intro ⟨ok_nop, mo_nop⟩ (
  And.intro ⟨ok_nop, mo_nop⟩ (
  And.intro ⟨ok_goto dX8_lay_92 (by decide), mo_goto⟩ (
  And.intro ⟨ok_nop, mo_nop⟩ (
  And.intro ⟨ok_nop, mo_nop⟩ (
  And.intro ⟨ok_iload_n dX8_lay_95 rfl rfl, mo_iload⟩ (
  trivial))))))))))))))))
theorem rX8_lay_6 : am_allR (fun pc o => am_ok am_tb0 cX8_lay RX8 6 (some .int) false pc o ∧ am_mo o) 96 (am_nth [] tX8_lay 6) :=
  And.intro ⟨ok_iconst dX8_lay_96 rfl ic_2, mo_push⟩ (
  And.intro ⟨ok_icmp_ne dX8_lay_97 (by decide) rfl, mo_icmp⟩ (
  And.intro ⟨ok_nop, mo_nop⟩ (
  And.intro ⟨ok_nop, mo_nop⟩ (
  And.intro ⟨ok_aload_n dX8_lay_100 rfl rfl, mo_aload⟩ (
  And.intro ⟨ok_getR dX8_lay_101 hclX8 inWX8 (by decide) (by decide) wd_920 (fun _ _ _ => rfl) rfl, mo_getR⟩ (
  And.intro ⟨ok_nop, mo_nop⟩ (
  And.intro ⟨ok_nop, mo_nop⟩ (
  And.intro ⟨ok_iload_n dX8_lay_104 rfl rfl, mo_iload⟩ (
  And.intro ⟨ok_iald dX8_lay_105 rfl, mo_iald⟩ (
  And.intro ⟨ok_goto dX8_lay_106 (by decide), mo_goto⟩ (
  And.intro ⟨ok_nop, mo_nop⟩ (
  And.intro ⟨ok_nop, mo_nop⟩ (
  And.intro ⟨ok_iload_n dX8_lay_109 rfl rfl, mo_iload⟩ (
  And.intro ⟨ok_iast dX8_lay_110 rfl, mo_iast⟩ (
  And.intro ⟨ok_aload_n dX8_lay_111 rfl rfl, mo_aload⟩ (
  trivial))))))))))))))))
theorem rX8_lay_7 : am_allR (fun pc o => am_ok am_tb0 cX8_lay RX8 6 (some .int) false pc o ∧ am_mo o) 112 (am_nth [] tX8_lay 7) :=
  And.intro ⟨ok_getR dX8_lay_112 hclX8 inWX8 (by decide) (by decide) wd_924 (fun _ _ _ => rfl) rfl, mo_getR⟩ (
  And.intro ⟨ok_nop, mo_nop⟩ (
  And.intro ⟨ok_nop, mo_nop⟩ (
  And.intro ⟨ok_iload_n dX8_lay_115 rfl rfl, mo_iload⟩ (
  And.intro ⟨ok_iload_n dX8_lay_116 rfl rfl, mo_iload⟩ (
  And.intro ⟨ok_iconst dX8_lay_117 rfl ic_1, mo_push⟩ (
  And.intro ⟨ok_icmp_ne dX8_lay_118 (by decide) rfl, mo_icmp⟩ (
  And.intro ⟨ok_nop, mo_nop⟩ (
  And.intro ⟨ok_nop, mo_nop⟩ (
  And.intro ⟨ok_aload_n dX8_lay_121 rfl rfl, mo_aload⟩ (
  And.intro ⟨ok_iload_n dX8_lay_122 rfl rfl, mo_iload⟩ (
  And.intro ⟨ok_cv (z := 127) dX8_lay_123 hclX8 (by decide) wd_1047 wd_1049 wp_22 wd_8 wd_1050 rfl (by decide) ⟨rfl, hy_X8_worthOf⟩ rfl, mo_cv⟩ (
  And.intro ⟨ok_nop, mo_nop⟩ (
  And.intro ⟨ok_nop, mo_nop⟩ (
  And.intro ⟨ok_goto dX8_lay_126 (by decide), mo_goto⟩ (
  And.intro ⟨ok_nop, mo_nop⟩ (
  trivial))))))))))))))))
theorem rX8_lay_8 : am_allR (fun pc o => am_ok am_tb0 cX8_lay RX8 6 (some .int) false pc o ∧ am_mo o) 128 (am_nth [] tX8_lay 8) :=
  And.intro ⟨ok_nop, mo_nop⟩ (
  And.intro ⟨ok_iconst dX8_lay_129 rfl ic_0, mo_push⟩ (
  And.intro ⟨ok_iast dX8_lay_130 rfl, mo_iast⟩ (
  And.intro ⟨ok_iconst dX8_lay_131 rfl ic_0, mo_push⟩ (
  And.intro ⟨ok_istore dX8_lay_132 (by decide) rfl, mo_istore⟩ (
  And.intro ⟨ok_nop, mo_nop⟩ (
  And.intro ⟨ok_iload dX8_lay_134 rfl, mo_iload⟩ (
  And.intro ⟨ok_nop, mo_nop⟩ (
  And.intro ⟨ok_bipush dX8_lay_136 rfl bi_24, mo_push⟩ (
  And.intro ⟨ok_nop, mo_nop⟩ (
  And.intro ⟨ok_icmp_ge dX8_lay_138 (by decide) rfl, mo_icmp⟩ (
  And.intro ⟨ok_nop, mo_nop⟩ (
  And.intro ⟨ok_nop, mo_nop⟩ (
  And.intro ⟨ok_iload_n dX8_lay_141 rfl rfl, mo_iload⟩ (
  And.intro ⟨ok_iconst dX8_lay_142 rfl ic_2, mo_push⟩ (
  And.intro ⟨ok_icmp_ne dX8_lay_143 (by decide) rfl, mo_icmp⟩ (
  trivial))))))))))))))))
theorem rX8_lay_9 : am_allR (fun pc o => am_ok am_tb0 cX8_lay RX8 6 (some .int) false pc o ∧ am_mo o) 144 (am_nth [] tX8_lay 9) :=
  And.intro ⟨ok_nop, mo_nop⟩ (
  And.intro ⟨ok_nop, mo_nop⟩ (
  And.intro ⟨ok_aload_n dX8_lay_146 rfl rfl, mo_aload⟩ (
  And.intro ⟨ok_getR dX8_lay_147 hclX8 inWX8 (by decide) (by decide) wd_925 (fun _ _ _ => rfl) rfl, mo_getR⟩ (
  And.intro ⟨ok_nop, mo_nop⟩ (
  And.intro ⟨ok_nop, mo_nop⟩ (
  And.intro ⟨ok_bipush dX8_lay_150 rfl bi_24, mo_push⟩ (
  And.intro ⟨ok_nop, mo_nop⟩ (
  And.intro ⟨ok_iload_n dX8_lay_152 rfl rfl, mo_iload⟩ (
  And.intro ⟨ok_imul dX8_lay_153 rfl, mo_bin⟩ (
  And.intro ⟨ok_iload dX8_lay_154 rfl, mo_iload⟩ (
  And.intro ⟨ok_nop, mo_nop⟩ (
  And.intro ⟨ok_iadd dX8_lay_156 rfl, mo_bin⟩ (
  And.intro ⟨ok_aload_n dX8_lay_157 rfl rfl, mo_aload⟩ (
  And.intro ⟨ok_getR dX8_lay_158 hclX8 inWX8 (by decide) (by decide) wd_921 (fun _ _ _ => rfl) rfl, mo_getR⟩ (
  And.intro ⟨ok_nop, mo_nop⟩ (
  trivial))))))))))))))))
theorem rX8_lay_10 : am_allR (fun pc o => am_ok am_tb0 cX8_lay RX8 6 (some .int) false pc o ∧ am_mo o) 160 (am_nth [] tX8_lay 10) :=
  And.intro ⟨ok_nop, mo_nop⟩ (
  And.intro ⟨ok_bipush dX8_lay_161 rfl bi_24, mo_push⟩ (
  And.intro ⟨ok_nop, mo_nop⟩ (
  And.intro ⟨ok_iload_n dX8_lay_163 rfl rfl, mo_iload⟩ (
  And.intro ⟨ok_imul dX8_lay_164 rfl, mo_bin⟩ (
  And.intro ⟨ok_iload dX8_lay_165 rfl, mo_iload⟩ (
  And.intro ⟨ok_nop, mo_nop⟩ (
  And.intro ⟨ok_iadd dX8_lay_167 rfl, mo_bin⟩ (
  And.intro ⟨ok_iald dX8_lay_168 rfl, mo_iald⟩ (
  And.intro ⟨ok_iast dX8_lay_169 rfl, mo_iast⟩ (
  And.intro ⟨ok_iinc dX8_lay_170 ic_1 (by decide) rfl, mo_iinc⟩ (
  And.intro ⟨ok_nop, mo_nop⟩ (
  And.intro ⟨ok_nop, mo_nop⟩ (
  And.intro ⟨ok_goto dX8_lay_173 (by decide), mo_goto⟩ (
  And.intro ⟨ok_nop, mo_nop⟩ (
  And.intro ⟨ok_nop, mo_nop⟩ (
  trivial))))))))))))))))
theorem rX8_lay_11 : am_allR (fun pc o => am_ok am_tb0 cX8_lay RX8 6 (some .int) false pc o ∧ am_mo o) 176 (am_nth [] tX8_lay 11) :=
  And.intro ⟨ok_iload dX8_lay_176 rfl, mo_iload⟩ (
  And.intro ⟨ok_nop, mo_nop⟩ (
  And.intro ⟨ok_iret dX8_lay_178 rfl, mo_iret⟩ (
  And.intro ⟨ok_nop, mo_nop⟩ (
  And.intro ⟨ok_nop, mo_nop⟩ (
  And.intro ⟨ok_nop, mo_nop⟩ (
  And.intro ⟨ok_nop, mo_nop⟩ (
  And.intro ⟨ok_nop, mo_nop⟩ (
  And.intro ⟨ok_nop, mo_nop⟩ (
  And.intro ⟨ok_nop, mo_nop⟩ (
  And.intro ⟨ok_nop, mo_nop⟩ (
  And.intro ⟨ok_nop, mo_nop⟩ (
  And.intro ⟨ok_nop, mo_nop⟩ (
  And.intro ⟨ok_nop, mo_nop⟩ (
  And.intro ⟨ok_nop, mo_nop⟩ (
  And.intro ⟨ok_nop, mo_nop⟩ (
  trivial))))))))))))))))
theorem kX8_lay : am_M1 am_tb0 cX8_lay RX8 6 (some .int) false tX8_lay := And.intro rX8_lay_0 (And.intro rX8_lay_1 (And.intro rX8_lay_2 (And.intro rX8_lay_3 (And.intro rX8_lay_4 (And.intro rX8_lay_5 (And.intro rX8_lay_6 (And.intro rX8_lay_7 (And.intro rX8_lay_8 (And.intro rX8_lay_9 (And.intro rX8_lay_10 (And.intro rX8_lay_11 (trivial))))))))))))
def tX8_ask : List (List am_Op) := [[o_iload 1 1, o_cs 190 1 1 1 4, am_nop, am_nop, o_if (fun x => x = 0) 16 7, am_nop, am_nop, o_iload 2 8, o_push (.int 0) 9, o_push (.int 5) 10, o_cs 113 3 0 3 13, am_nop, am_nop, o_if (fun x => ¬ x = 0) 19 16, am_nop, am_nop],
  [o_push (.int (-1000000001)) 18, am_nop, o_iret, o_aload 0 20, o_getR 8 38 31 23, am_nop, am_nop, o_iload 1 24, o_iald 20 25, o_if (fun x => ¬ x = 0) 31 28, am_nop, am_nop, o_push (.int (-1000000011)) 30, am_nop, o_iret, o_aload 0 32],
  [o_getR 8 38 31 35, am_nop, am_nop, o_iload 1 36, o_iald 20 37, o_push (.int 1) 38, o_icmp (fun x y => ¬ x = y) 63 41, am_nop, am_nop, o_aload 0 42, o_getR 8 38 32 45, am_nop, am_nop, o_iload 1 46, o_iald 20 47, o_iload 2 48],
  [o_cs 129 2 0 2 51, am_nop, am_nop, o_if (fun x => x = 0) 63 54, am_nop, am_nop, o_aload 0 55, o_getR 8 38 33 58, am_nop, am_nop, o_iload 1 59, o_iald 20 60, o_goto 65, am_nop, am_nop, o_push (.int (-1000000012)) 65],
  [am_nop, o_iret, am_nop, am_nop, am_nop, am_nop, am_nop, am_nop, am_nop, am_nop, am_nop, am_nop, am_nop, am_nop, am_nop, am_nop]]
theorem rX8_ask_0 : am_allR (fun pc o => am_ok am_tb0 cX8_ask RX8 3 (some .int) false pc o ∧ am_mo o) 0 (am_nth [] tX8_ask 0) :=
  And.intro ⟨ok_iload_n dX8_ask_0 rfl rfl, mo_iload⟩ (
  And.intro ⟨ok_cs (z := 190) dX8_ask_1 wd_1337 wd_1338 wd_8 wd_1339 rfl (by decide) hy_X8_isSlot rfl, mo_cs⟩ (
  And.intro ⟨ok_nop, mo_nop⟩ (
  And.intro ⟨ok_nop, mo_nop⟩ (
  And.intro ⟨ok_if_eq dX8_ask_4 (by decide) rfl, mo_if⟩ (
  And.intro ⟨ok_nop, mo_nop⟩ (
  And.intro ⟨ok_nop, mo_nop⟩ (
  And.intro ⟨ok_iload_n dX8_ask_7 rfl rfl, mo_iload⟩ (
  And.intro ⟨ok_iconst dX8_ask_8 rfl ic_0, mo_push⟩ (
  And.intro ⟨ok_iconst dX8_ask_9 rfl ic_5, mo_push⟩ (
  And.intro ⟨ok_cs (z := 113) dX8_ask_10 wd_1012 wd_1013 wd_8 wd_1014 rfl (by decide) hy_X8_in rfl, mo_cs⟩ (
  And.intro ⟨ok_nop, mo_nop⟩ (
  And.intro ⟨ok_nop, mo_nop⟩ (
  And.intro ⟨ok_if_ne dX8_ask_13 (by decide) rfl, mo_if⟩ (
  And.intro ⟨ok_nop, mo_nop⟩ (
  And.intro ⟨ok_nop, mo_nop⟩ (
  trivial))))))))))))))))
theorem rX8_ask_1 : am_allR (fun pc o => am_ok am_tb0 cX8_ask RX8 3 (some .int) false pc o ∧ am_mo o) 16 (am_nth [] tX8_ask 1) :=
  And.intro ⟨ok_ldc dX8_ask_16 rfl wd_1021, mo_push⟩ (
  And.intro ⟨ok_nop, mo_nop⟩ (
  And.intro ⟨ok_iret dX8_ask_18 rfl, mo_iret⟩ (
  And.intro ⟨ok_aload_n dX8_ask_19 rfl rfl, mo_aload⟩ (
  And.intro ⟨ok_getR dX8_ask_20 hclX8 inWX8 (by decide) (by decide) wd_922 (fun _ _ _ => rfl) rfl, mo_getR⟩ (
  And.intro ⟨ok_nop, mo_nop⟩ (
  And.intro ⟨ok_nop, mo_nop⟩ (
  And.intro ⟨ok_iload_n dX8_ask_23 rfl rfl, mo_iload⟩ (
  And.intro ⟨ok_iald dX8_ask_24 rfl, mo_iald⟩ (
  And.intro ⟨ok_if_ne dX8_ask_25 (by decide) rfl, mo_if⟩ (
  And.intro ⟨ok_nop, mo_nop⟩ (
  And.intro ⟨ok_nop, mo_nop⟩ (
  And.intro ⟨ok_ldc dX8_ask_28 rfl wd_1241, mo_push⟩ (
  And.intro ⟨ok_nop, mo_nop⟩ (
  And.intro ⟨ok_iret dX8_ask_30 rfl, mo_iret⟩ (
  And.intro ⟨ok_aload_n dX8_ask_31 rfl rfl, mo_aload⟩ (
  trivial))))))))))))))))
theorem rX8_ask_2 : am_allR (fun pc o => am_ok am_tb0 cX8_ask RX8 3 (some .int) false pc o ∧ am_mo o) 32 (am_nth [] tX8_ask 2) :=
  And.intro ⟨ok_getR dX8_ask_32 hclX8 inWX8 (by decide) (by decide) wd_922 (fun _ _ _ => rfl) rfl, mo_getR⟩ (
  And.intro ⟨ok_nop, mo_nop⟩ (
  And.intro ⟨ok_nop, mo_nop⟩ (
  And.intro ⟨ok_iload_n dX8_ask_35 rfl rfl, mo_iload⟩ (
  And.intro ⟨ok_iald dX8_ask_36 rfl, mo_iald⟩ (
  And.intro ⟨ok_iconst dX8_ask_37 rfl ic_1, mo_push⟩ (
  And.intro ⟨ok_icmp_ne dX8_ask_38 (by decide) rfl, mo_icmp⟩ (
  And.intro ⟨ok_nop, mo_nop⟩ (
  And.intro ⟨ok_nop, mo_nop⟩ (
  And.intro ⟨ok_aload_n dX8_ask_41 rfl rfl, mo_aload⟩ (
  And.intro ⟨ok_getR dX8_ask_42 hclX8 inWX8 (by decide) (by decide) wd_923 (fun _ _ _ => rfl) rfl, mo_getR⟩ (
  And.intro ⟨ok_nop, mo_nop⟩ (
  And.intro ⟨ok_nop, mo_nop⟩ (
  And.intro ⟨ok_iload_n dX8_ask_45 rfl rfl, mo_iload⟩ (
  And.intro ⟨ok_iald dX8_ask_46 rfl, mo_iald⟩ (
  And.intro ⟨ok_iload_n dX8_ask_47 rfl rfl, mo_iload⟩ (
  trivial))))))))))))))))
theorem rX8_ask_3 : am_allR (fun pc o => am_ok am_tb0 cX8_ask RX8 3 (some .int) false pc o ∧ am_mo o) 48 (am_nth [] tX8_ask 3) :=
  And.intro ⟨ok_cs (z := 129) dX8_ask_48 wd_1055 wd_1056 wd_8 wd_1057 rfl (by decide) hy_X8_isUnder rfl, mo_cs⟩ (
  And.intro ⟨ok_nop, mo_nop⟩ (
  And.intro ⟨ok_nop, mo_nop⟩ (
  And.intro ⟨ok_if_eq dX8_ask_51 (by decide) rfl, mo_if⟩ (
  And.intro ⟨ok_nop, mo_nop⟩ (
  And.intro ⟨ok_nop, mo_nop⟩ (
  And.intro ⟨ok_aload_n dX8_ask_54 rfl rfl, mo_aload⟩ (
  And.intro ⟨ok_getR dX8_ask_55 hclX8 inWX8 (by decide) (by decide) wd_924 (fun _ _ _ => rfl) rfl, mo_getR⟩ (
  And.intro ⟨ok_nop, mo_nop⟩ (
  And.intro ⟨ok_nop, mo_nop⟩ (
  And.intro ⟨ok_iload_n dX8_ask_58 rfl rfl, mo_iload⟩ (
  And.intro ⟨ok_iald dX8_ask_59 rfl, mo_iald⟩ (
  And.intro ⟨ok_goto dX8_ask_60 (by decide), mo_goto⟩ (
  And.intro ⟨ok_nop, mo_nop⟩ (
  And.intro ⟨ok_nop, mo_nop⟩ (
  And.intro ⟨ok_ldc dX8_ask_63 rfl wd_1058, mo_push⟩ (
  trivial))))))))))))))))
theorem rX8_ask_4 : am_allR (fun pc o => am_ok am_tb0 cX8_ask RX8 3 (some .int) false pc o ∧ am_mo o) 64 (am_nth [] tX8_ask 4) :=
  And.intro ⟨ok_nop, mo_nop⟩ (
  And.intro ⟨ok_iret dX8_ask_65 rfl, mo_iret⟩ (
  And.intro ⟨ok_nop, mo_nop⟩ (
  And.intro ⟨ok_nop, mo_nop⟩ (
  And.intro ⟨ok_nop, mo_nop⟩ (
  And.intro ⟨ok_nop, mo_nop⟩ (
  And.intro ⟨ok_nop, mo_nop⟩ (
  And.intro ⟨ok_nop, mo_nop⟩ (
  And.intro ⟨ok_nop, mo_nop⟩ (
  And.intro ⟨ok_nop, mo_nop⟩ (
  And.intro ⟨ok_nop, mo_nop⟩ (
  And.intro ⟨ok_nop, mo_nop⟩ (
  And.intro ⟨ok_nop, mo_nop⟩ (
  And.intro ⟨ok_nop, mo_nop⟩ (
  And.intro ⟨ok_nop, mo_nop⟩ (
  And.intro ⟨ok_nop, mo_nop⟩ (
  trivial))))))))))))))))
theorem kX8_ask : am_M1 am_tb0 cX8_ask RX8 3 (some .int) false tX8_ask := And.intro rX8_ask_0 (And.intro rX8_ask_1 (And.intro rX8_ask_2 (And.intro rX8_ask_3 (And.intro rX8_ask_4 (trivial)))))
def tX8_item : List (List am_Op) := [[o_iload 1 1, o_cs 190 1 1 1 4, am_nop, am_nop, o_if (fun x => ¬ x = 0) 10 7, am_nop, am_nop, o_push (.int (-1000000001)) 9, am_nop, o_iret, o_aload 0 11, o_getR 8 38 31 14, am_nop, am_nop, o_iload 1 15, o_iald 20 16],
  [o_if (fun x => ¬ x = 0) 22 19, am_nop, am_nop, o_push (.int (-1000000011)) 21, am_nop, o_iret, o_aload 0 23, o_getR 8 38 31 26, am_nop, am_nop, o_iload 1 27, o_iald 20 28, o_push (.int 2) 29, o_icmp (fun x y => x = y) 35 32, am_nop, am_nop],
  [o_push (.int (-1000000012)) 34, am_nop, o_iret, o_iload 2 36, o_push (.int 0) 37, o_aload 0 38, o_getR 8 38 32 41, am_nop, am_nop, o_iload 1 42, o_iald 20 43, o_push (.int 1) 44, o_bin (fun x y => x - y) 45, o_cs 113 3 0 3 48, am_nop, am_nop],
  [o_if (fun x => ¬ x = 0) 55 51, am_nop, am_nop, o_push (.int (-1000000013)) 54, am_nop, am_nop, o_iret, o_aload 0 56, o_getR 8 38 34 59, am_nop, am_nop, o_push (.int 24) 61, am_nop, o_iload 1 62, o_bin (fun x y => x * y) 63, o_iload 2 64],
  [o_bin (fun x y => x + y) 65, o_iald 20 66, o_istore 3 67, o_iload 3 68, o_push (.int (-1000000005)) 70, am_nop, o_icmp (fun x y => ¬ x = y) 78 73, am_nop, am_nop, o_push (.int (-1000000012)) 75, am_nop, o_goto 79, am_nop, am_nop, o_iload 3 79, o_iret]]
theorem rX8_item_0 : am_allR (fun pc o => am_ok am_tb0 cX8_item RX8 4 (some .int) false pc o ∧ am_mo o) 0 (am_nth [] tX8_item 0) :=
  And.intro ⟨ok_iload_n dX8_item_0 rfl rfl, mo_iload⟩ (
  And.intro ⟨ok_cs (z := 190) dX8_item_1 wd_1337 wd_1338 wd_8 wd_1339 rfl (by decide) hy_X8_isSlot rfl, mo_cs⟩ (
  And.intro ⟨ok_nop, mo_nop⟩ (
  And.intro ⟨ok_nop, mo_nop⟩ (
  And.intro ⟨ok_if_ne dX8_item_4 (by decide) rfl, mo_if⟩ (
  And.intro ⟨ok_nop, mo_nop⟩ (
  And.intro ⟨ok_nop, mo_nop⟩ (
  And.intro ⟨ok_ldc dX8_item_7 rfl wd_1021, mo_push⟩ (
  And.intro ⟨ok_nop, mo_nop⟩ (
  And.intro ⟨ok_iret dX8_item_9 rfl, mo_iret⟩ (
  And.intro ⟨ok_aload_n dX8_item_10 rfl rfl, mo_aload⟩ (
  And.intro ⟨ok_getR dX8_item_11 hclX8 inWX8 (by decide) (by decide) wd_922 (fun _ _ _ => rfl) rfl, mo_getR⟩ (
  And.intro ⟨ok_nop, mo_nop⟩ (
  And.intro ⟨ok_nop, mo_nop⟩ (
  And.intro ⟨ok_iload_n dX8_item_14 rfl rfl, mo_iload⟩ (
  And.intro ⟨ok_iald dX8_item_15 rfl, mo_iald⟩ (
  trivial))))))))))))))))
theorem rX8_item_1 : am_allR (fun pc o => am_ok am_tb0 cX8_item RX8 4 (some .int) false pc o ∧ am_mo o) 16 (am_nth [] tX8_item 1) :=
  And.intro ⟨ok_if_ne dX8_item_16 (by decide) rfl, mo_if⟩ (
  And.intro ⟨ok_nop, mo_nop⟩ (
  And.intro ⟨ok_nop, mo_nop⟩ (
  And.intro ⟨ok_ldc dX8_item_19 rfl wd_1241, mo_push⟩ (
  And.intro ⟨ok_nop, mo_nop⟩ (
  And.intro ⟨ok_iret dX8_item_21 rfl, mo_iret⟩ (
  And.intro ⟨ok_aload_n dX8_item_22 rfl rfl, mo_aload⟩ (
  And.intro ⟨ok_getR dX8_item_23 hclX8 inWX8 (by decide) (by decide) wd_922 (fun _ _ _ => rfl) rfl, mo_getR⟩ (
  And.intro ⟨ok_nop, mo_nop⟩ (
  And.intro ⟨ok_nop, mo_nop⟩ (
  And.intro ⟨ok_iload_n dX8_item_26 rfl rfl, mo_iload⟩ (
  And.intro ⟨ok_iald dX8_item_27 rfl, mo_iald⟩ (
  And.intro ⟨ok_iconst dX8_item_28 rfl ic_2, mo_push⟩ (
  And.intro ⟨ok_icmp_eq dX8_item_29 (by decide) rfl, mo_icmp⟩ (
  And.intro ⟨ok_nop, mo_nop⟩ (
  And.intro ⟨ok_nop, mo_nop⟩ (
  trivial))))))))))))))))
theorem rX8_item_2 : am_allR (fun pc o => am_ok am_tb0 cX8_item RX8 4 (some .int) false pc o ∧ am_mo o) 32 (am_nth [] tX8_item 2) :=
  And.intro ⟨ok_ldc dX8_item_32 rfl wd_1058, mo_push⟩ (
  And.intro ⟨ok_nop, mo_nop⟩ (
  And.intro ⟨ok_iret dX8_item_34 rfl, mo_iret⟩ (
  And.intro ⟨ok_iload_n dX8_item_35 rfl rfl, mo_iload⟩ (
  And.intro ⟨ok_iconst dX8_item_36 rfl ic_0, mo_push⟩ (
  And.intro ⟨ok_aload_n dX8_item_37 rfl rfl, mo_aload⟩ (
  And.intro ⟨ok_getR dX8_item_38 hclX8 inWX8 (by decide) (by decide) wd_923 (fun _ _ _ => rfl) rfl, mo_getR⟩ (
  And.intro ⟨ok_nop, mo_nop⟩ (
  And.intro ⟨ok_nop, mo_nop⟩ (
  And.intro ⟨ok_iload_n dX8_item_41 rfl rfl, mo_iload⟩ (
  And.intro ⟨ok_iald dX8_item_42 rfl, mo_iald⟩ (
  And.intro ⟨ok_iconst dX8_item_43 rfl ic_1, mo_push⟩ (
  And.intro ⟨ok_isub dX8_item_44 rfl, mo_bin⟩ (
  And.intro ⟨ok_cs (z := 113) dX8_item_45 wd_1012 wd_1013 wd_8 wd_1014 rfl (by decide) hy_X8_in rfl, mo_cs⟩ (
  And.intro ⟨ok_nop, mo_nop⟩ (
  And.intro ⟨ok_nop, mo_nop⟩ (
  trivial))))))))))))))))
theorem rX8_item_3 : am_allR (fun pc o => am_ok am_tb0 cX8_item RX8 4 (some .int) false pc o ∧ am_mo o) 48 (am_nth [] tX8_item 3) :=
  And.intro ⟨ok_if_ne dX8_item_48 (by decide) rfl, mo_if⟩ (
  And.intro ⟨ok_nop, mo_nop⟩ (
  And.intro ⟨ok_nop, mo_nop⟩ (
  And.intro ⟨ok_ldcw dX8_item_51 rfl wd_1318, mo_push⟩ (
  And.intro ⟨ok_nop, mo_nop⟩ (
  And.intro ⟨ok_nop, mo_nop⟩ (
  And.intro ⟨ok_iret dX8_item_54 rfl, mo_iret⟩ (
  And.intro ⟨ok_aload_n dX8_item_55 rfl rfl, mo_aload⟩ (
  And.intro ⟨ok_getR dX8_item_56 hclX8 inWX8 (by decide) (by decide) wd_925 (fun _ _ _ => rfl) rfl, mo_getR⟩ (
  And.intro ⟨ok_nop, mo_nop⟩ (
  And.intro ⟨ok_nop, mo_nop⟩ (
  And.intro ⟨ok_bipush dX8_item_59 rfl bi_24, mo_push⟩ (
  And.intro ⟨ok_nop, mo_nop⟩ (
  And.intro ⟨ok_iload_n dX8_item_61 rfl rfl, mo_iload⟩ (
  And.intro ⟨ok_imul dX8_item_62 rfl, mo_bin⟩ (
  And.intro ⟨ok_iload_n dX8_item_63 rfl rfl, mo_iload⟩ (
  trivial))))))))))))))))
theorem rX8_item_4 : am_allR (fun pc o => am_ok am_tb0 cX8_item RX8 4 (some .int) false pc o ∧ am_mo o) 64 (am_nth [] tX8_item 4) :=
  And.intro ⟨ok_iadd dX8_item_64 rfl, mo_bin⟩ (
  And.intro ⟨ok_iald dX8_item_65 rfl, mo_iald⟩ (
  And.intro ⟨ok_istore_n dX8_item_66 rfl (by decide) rfl, mo_istore⟩ (
  And.intro ⟨ok_iload_n dX8_item_67 rfl rfl, mo_iload⟩ (
  And.intro ⟨ok_ldc dX8_item_68 rfl wd_1173, mo_push⟩ (
  And.intro ⟨ok_nop, mo_nop⟩ (
  And.intro ⟨ok_icmp_ne dX8_item_70 (by decide) rfl, mo_icmp⟩ (
  And.intro ⟨ok_nop, mo_nop⟩ (
  And.intro ⟨ok_nop, mo_nop⟩ (
  And.intro ⟨ok_ldc dX8_item_73 rfl wd_1058, mo_push⟩ (
  And.intro ⟨ok_nop, mo_nop⟩ (
  And.intro ⟨ok_goto dX8_item_75 (by decide), mo_goto⟩ (
  And.intro ⟨ok_nop, mo_nop⟩ (
  And.intro ⟨ok_nop, mo_nop⟩ (
  And.intro ⟨ok_iload_n dX8_item_78 rfl rfl, mo_iload⟩ (
  And.intro ⟨ok_iret dX8_item_79 rfl, mo_iret⟩ (
  trivial))))))))))))))))
theorem kX8_item : am_M1 am_tb0 cX8_item RX8 4 (some .int) false tX8_item := And.intro rX8_item_0 (And.intro rX8_item_1 (And.intro rX8_item_2 (And.intro rX8_item_3 (And.intro rX8_item_4 (trivial)))))
def tX8_rest : List (List am_Op) := [[o_iload 1 1, o_cs 190 1 1 1 4, am_nop, am_nop, o_if (fun x => ¬ x = 0) 10 7, am_nop, am_nop, o_push (.int (-1000000001)) 9, am_nop, o_iret, o_aload 0 11, o_getR 8 38 31 14, am_nop, am_nop, o_iload 1 15, o_iald 20 16],
  [o_if (fun x => ¬ x = 0) 22 19, am_nop, am_nop, o_push (.int (-1000000011)) 21, am_nop, o_iret, o_aload 0 23, o_getR 8 38 31 26, am_nop, am_nop, o_iload 1 27, o_iald 20 28, o_push (.int 3) 29, o_icmp (fun x y => x = y) 35 32, am_nop, am_nop],
  [o_push (.int (-1000000012)) 34, am_nop, o_iret, o_iload 2 36, o_if (fun x => ¬ x = 0) 44 39, am_nop, am_nop, o_push (.int (-1000000002)) 41, am_nop, o_goto 61, am_nop, am_nop, o_iload 2 45, o_push (.int (-1)) 46, o_icmp (fun x y => ¬ x = y) 53 49, am_nop],
  [am_nop, o_push (.int 0) 50, o_goto 61, am_nop, am_nop, o_aload 0 54, o_getR 8 38 32 57, am_nop, am_nop, o_iload 1 58, o_iald 20 59, o_iload 2 60, o_binS (fun x y => x - x / y * y) 61, o_iret, am_nop, am_nop]]
theorem rX8_rest_0 : am_allR (fun pc o => am_ok am_tb0 cX8_rest RX8 3 (some .int) false pc o ∧ am_mo o) 0 (am_nth [] tX8_rest 0) :=
  And.intro ⟨ok_iload_n dX8_rest_0 rfl rfl, mo_iload⟩ (
  And.intro ⟨ok_cs (z := 190) dX8_rest_1 wd_1337 wd_1338 wd_8 wd_1339 rfl (by decide) hy_X8_isSlot rfl, mo_cs⟩ (
  And.intro ⟨ok_nop, mo_nop⟩ (
  And.intro ⟨ok_nop, mo_nop⟩ (
  And.intro ⟨ok_if_ne dX8_rest_4 (by decide) rfl, mo_if⟩ (
  And.intro ⟨ok_nop, mo_nop⟩ (
  And.intro ⟨ok_nop, mo_nop⟩ (
  And.intro ⟨ok_ldc dX8_rest_7 rfl wd_1021, mo_push⟩ (
  And.intro ⟨ok_nop, mo_nop⟩ (
  And.intro ⟨ok_iret dX8_rest_9 rfl, mo_iret⟩ (
  And.intro ⟨ok_aload_n dX8_rest_10 rfl rfl, mo_aload⟩ (
  And.intro ⟨ok_getR dX8_rest_11 hclX8 inWX8 (by decide) (by decide) wd_922 (fun _ _ _ => rfl) rfl, mo_getR⟩ (
  And.intro ⟨ok_nop, mo_nop⟩ (
  And.intro ⟨ok_nop, mo_nop⟩ (
  And.intro ⟨ok_iload_n dX8_rest_14 rfl rfl, mo_iload⟩ (
  And.intro ⟨ok_iald dX8_rest_15 rfl, mo_iald⟩ (
  trivial))))))))))))))))
theorem rX8_rest_1 : am_allR (fun pc o => am_ok am_tb0 cX8_rest RX8 3 (some .int) false pc o ∧ am_mo o) 16 (am_nth [] tX8_rest 1) :=
  And.intro ⟨ok_if_ne dX8_rest_16 (by decide) rfl, mo_if⟩ (
  And.intro ⟨ok_nop, mo_nop⟩ (
  And.intro ⟨ok_nop, mo_nop⟩ (
  And.intro ⟨ok_ldc dX8_rest_19 rfl wd_1241, mo_push⟩ (
  And.intro ⟨ok_nop, mo_nop⟩ (
  And.intro ⟨ok_iret dX8_rest_21 rfl, mo_iret⟩ (
  And.intro ⟨ok_aload_n dX8_rest_22 rfl rfl, mo_aload⟩ (
  And.intro ⟨ok_getR dX8_rest_23 hclX8 inWX8 (by decide) (by decide) wd_922 (fun _ _ _ => rfl) rfl, mo_getR⟩ (
  And.intro ⟨ok_nop, mo_nop⟩ (
  And.intro ⟨ok_nop, mo_nop⟩ (
  And.intro ⟨ok_iload_n dX8_rest_26 rfl rfl, mo_iload⟩ (
  And.intro ⟨ok_iald dX8_rest_27 rfl, mo_iald⟩ (
  And.intro ⟨ok_iconst dX8_rest_28 rfl ic_3, mo_push⟩ (
  And.intro ⟨ok_icmp_eq dX8_rest_29 (by decide) rfl, mo_icmp⟩ (
  And.intro ⟨ok_nop, mo_nop⟩ (
  And.intro ⟨ok_nop, mo_nop⟩ (
  trivial))))))))))))))))
theorem rX8_rest_2 : am_allR (fun pc o => am_ok am_tb0 cX8_rest RX8 3 (some .int) false pc o ∧ am_mo o) 32 (am_nth [] tX8_rest 2) :=
  And.intro ⟨ok_ldc dX8_rest_32 rfl wd_1058, mo_push⟩ (
  And.intro ⟨ok_nop, mo_nop⟩ (
  And.intro ⟨ok_iret dX8_rest_34 rfl, mo_iret⟩ (
  And.intro ⟨ok_iload_n dX8_rest_35 rfl rfl, mo_iload⟩ (
  And.intro ⟨ok_if_ne dX8_rest_36 (by decide) rfl, mo_if⟩ (
  And.intro ⟨ok_nop, mo_nop⟩ (
  And.intro ⟨ok_nop, mo_nop⟩ (
  And.intro ⟨ok_ldc dX8_rest_39 rfl wd_1137, mo_push⟩ (
  And.intro ⟨ok_nop, mo_nop⟩ (
  And.intro ⟨ok_goto dX8_rest_41 (by decide), mo_goto⟩ (
  And.intro ⟨ok_nop, mo_nop⟩ (
  And.intro ⟨ok_nop, mo_nop⟩ (
  And.intro ⟨ok_iload_n dX8_rest_44 rfl rfl, mo_iload⟩ (
  And.intro ⟨ok_iconst dX8_rest_45 rfl ic_m1, mo_push⟩ (
  And.intro ⟨ok_icmp_ne dX8_rest_46 (by decide) rfl, mo_icmp⟩ (
  And.intro ⟨ok_nop, mo_nop⟩ (
  trivial))))))))))))))))
theorem rX8_rest_3 : am_allR (fun pc o => am_ok am_tb0 cX8_rest RX8 3 (some .int) false pc o ∧ am_mo o) 48 (am_nth [] tX8_rest 3) :=
  And.intro ⟨ok_nop, mo_nop⟩ (
  And.intro ⟨ok_iconst dX8_rest_49 rfl ic_0, mo_push⟩ (
  And.intro ⟨ok_goto dX8_rest_50 (by decide), mo_goto⟩ (
  And.intro ⟨ok_nop, mo_nop⟩ (
  And.intro ⟨ok_nop, mo_nop⟩ (
  And.intro ⟨ok_aload_n dX8_rest_53 rfl rfl, mo_aload⟩ (
  And.intro ⟨ok_getR dX8_rest_54 hclX8 inWX8 (by decide) (by decide) wd_923 (fun _ _ _ => rfl) rfl, mo_getR⟩ (
  And.intro ⟨ok_nop, mo_nop⟩ (
  And.intro ⟨ok_nop, mo_nop⟩ (
  And.intro ⟨ok_iload_n dX8_rest_57 rfl rfl, mo_iload⟩ (
  And.intro ⟨ok_iald dX8_rest_58 rfl, mo_iald⟩ (
  And.intro ⟨ok_iload_n dX8_rest_59 rfl rfl, mo_iload⟩ (
  And.intro ⟨ok_irem dX8_rest_60 rfl, mo_binS⟩ (
  And.intro ⟨ok_iret dX8_rest_61 rfl, mo_iret⟩ (
  And.intro ⟨ok_nop, mo_nop⟩ (
  And.intro ⟨ok_nop, mo_nop⟩ (
  trivial))))))))))))))))
theorem kX8_rest : am_M1 am_tb0 cX8_rest RX8 3 (some .int) false tX8_rest := And.intro rX8_rest_0 (And.intro rX8_rest_1 (And.intro rX8_rest_2 (And.intro rX8_rest_3 (trivial))))
def tX8_tell : List (List am_Op) := [[o_aload 0 1, o_getI 8 38 37 4, am_nop, am_nop, o_push (.int 60) 6, am_nop, o_icmp (fun x y => ¬ x = y) 12 9, am_nop, am_nop, o_push (.int (-1000000003)) 11, am_nop, o_iret, o_aload 0 13, o_getR 8 38 36 16, am_nop, am_nop],
  [o_aload 0 17, o_getI 8 38 37 20, am_nop, am_nop, o_iload 1 21, o_iast 22, o_aload 0 23, o_dup 24, o_getI 8 38 37 27, am_nop, am_nop, o_push (.int 1) 28, o_bin (fun x y => x + y) 29, o_putI 8 38 37 32, am_nop, am_nop],
  [o_aload 0 33, o_getI 8 38 37 36, am_nop, am_nop, o_iret, am_nop, am_nop, am_nop, am_nop, am_nop, am_nop, am_nop, am_nop, am_nop, am_nop, am_nop]]
theorem rX8_tell_0 : am_allR (fun pc o => am_ok am_tb0 cX8_tell RX8 2 (some .int) false pc o ∧ am_mo o) 0 (am_nth [] tX8_tell 0) :=
  And.intro ⟨ok_aload_n dX8_tell_0 rfl rfl, mo_aload⟩ (
  And.intro ⟨ok_getI dX8_tell_1 hclX8 inWX8 (by decide) (by decide) wd_928 (fun _ _ _ => rfl) rfl, mo_getI⟩ (
  And.intro ⟨ok_nop, mo_nop⟩ (
  And.intro ⟨ok_nop, mo_nop⟩ (
  And.intro ⟨ok_bipush dX8_tell_4 rfl bi_60, mo_push⟩ (
  And.intro ⟨ok_nop, mo_nop⟩ (
  And.intro ⟨ok_icmp_ne dX8_tell_6 (by decide) rfl, mo_icmp⟩ (
  And.intro ⟨ok_nop, mo_nop⟩ (
  And.intro ⟨ok_nop, mo_nop⟩ (
  And.intro ⟨ok_ldc dX8_tell_9 rfl wd_1022, mo_push⟩ (
  And.intro ⟨ok_nop, mo_nop⟩ (
  And.intro ⟨ok_iret dX8_tell_11 rfl, mo_iret⟩ (
  And.intro ⟨ok_aload_n dX8_tell_12 rfl rfl, mo_aload⟩ (
  And.intro ⟨ok_getR dX8_tell_13 hclX8 inWX8 (by decide) (by decide) wd_927 (fun _ _ _ => rfl) rfl, mo_getR⟩ (
  And.intro ⟨ok_nop, mo_nop⟩ (
  And.intro ⟨ok_nop, mo_nop⟩ (
  trivial))))))))))))))))
theorem rX8_tell_1 : am_allR (fun pc o => am_ok am_tb0 cX8_tell RX8 2 (some .int) false pc o ∧ am_mo o) 16 (am_nth [] tX8_tell 1) :=
  And.intro ⟨ok_aload_n dX8_tell_16 rfl rfl, mo_aload⟩ (
  And.intro ⟨ok_getI dX8_tell_17 hclX8 inWX8 (by decide) (by decide) wd_928 (fun _ _ _ => rfl) rfl, mo_getI⟩ (
  And.intro ⟨ok_nop, mo_nop⟩ (
  And.intro ⟨ok_nop, mo_nop⟩ (
  And.intro ⟨ok_iload_n dX8_tell_20 rfl rfl, mo_iload⟩ (
  And.intro ⟨ok_iast dX8_tell_21 rfl, mo_iast⟩ (
  And.intro ⟨ok_aload_n dX8_tell_22 rfl rfl, mo_aload⟩ (
  And.intro ⟨ok_dup dX8_tell_23 rfl, mo_dup⟩ (
  And.intro ⟨ok_getI dX8_tell_24 hclX8 inWX8 (by decide) (by decide) wd_928 (fun _ _ _ => rfl) rfl, mo_getI⟩ (
  And.intro ⟨ok_nop, mo_nop⟩ (
  And.intro ⟨ok_nop, mo_nop⟩ (
  And.intro ⟨ok_iconst dX8_tell_27 rfl ic_1, mo_push⟩ (
  And.intro ⟨ok_iadd dX8_tell_28 rfl, mo_bin⟩ (
  And.intro ⟨ok_putI dX8_tell_29 hclX8 inWX8 tyX8_ok nmX8 (by decide) (by decide) wd_928 rfl (tyX8_ok 37 (by decide)) (fun _ _ _ => rfl) rfl, mo_putI⟩ (
  And.intro ⟨ok_nop, mo_nop⟩ (
  And.intro ⟨ok_nop, mo_nop⟩ (
  trivial))))))))))))))))
theorem rX8_tell_2 : am_allR (fun pc o => am_ok am_tb0 cX8_tell RX8 2 (some .int) false pc o ∧ am_mo o) 32 (am_nth [] tX8_tell 2) :=
  And.intro ⟨ok_aload_n dX8_tell_32 rfl rfl, mo_aload⟩ (
  And.intro ⟨ok_getI dX8_tell_33 hclX8 inWX8 (by decide) (by decide) wd_928 (fun _ _ _ => rfl) rfl, mo_getI⟩ (
  And.intro ⟨ok_nop, mo_nop⟩ (
  And.intro ⟨ok_nop, mo_nop⟩ (
  And.intro ⟨ok_iret dX8_tell_36 rfl, mo_iret⟩ (
  And.intro ⟨ok_nop, mo_nop⟩ (
  And.intro ⟨ok_nop, mo_nop⟩ (
  And.intro ⟨ok_nop, mo_nop⟩ (
  And.intro ⟨ok_nop, mo_nop⟩ (
  And.intro ⟨ok_nop, mo_nop⟩ (
  And.intro ⟨ok_nop, mo_nop⟩ (
  And.intro ⟨ok_nop, mo_nop⟩ (
  And.intro ⟨ok_nop, mo_nop⟩ (
  And.intro ⟨ok_nop, mo_nop⟩ (
  And.intro ⟨ok_nop, mo_nop⟩ (
  And.intro ⟨ok_nop, mo_nop⟩ (
  trivial))))))))))))))))
theorem kX8_tell : am_M1 am_tb0 cX8_tell RX8 2 (some .int) false tX8_tell := And.intro rX8_tell_0 (And.intro rX8_tell_1 (And.intro rX8_tell_2 (trivial)))
def tX8_check : List (List am_Op) := [[o_aload 0 1, o_getI 8 38 37 4, am_nop, am_nop, o_istore 2 5, o_aload 0 6, o_push (.int 0) 7, o_putI 8 38 37 10, am_nop, am_nop, o_iload 1 11, o_push (.int 1) 12, o_push (.int 30) 14, am_nop, o_cs 113 3 0 3 17, am_nop],
  [am_nop, o_if (fun x => ¬ x = 0) 23 20, am_nop, am_nop, o_push (.int (-1000000001)) 22, am_nop, o_iret, o_aload 0 24, o_getI 8 38 3 27, am_nop, am_nop, o_if (fun x => ¬ x = 0) 33 30, am_nop, am_nop, o_push (.int (-1000000002)) 32, am_nop],
  [o_iret, o_aload 0 34, o_getR 8 38 0 37, am_nop, am_nop, o_aload 0 38, o_getR 8 38 2 41, am_nop, am_nop, o_cs 115 3 0 2 44, am_nop, am_nop, o_aload 0 45, o_getR 8 38 1 48, am_nop, am_nop],
  [o_aload 0 49, o_getR 8 38 0 52, am_nop, am_nop, o_cs 115 3 0 2 55, am_nop, am_nop, o_push (.int 2) 56, o_push (.int 9999) 59, am_nop, am_nop, o_aload 0 60, o_getR 8 38 0 63, am_nop, am_nop, o_push (.int 2) 64],
  [o_iald 20 65, o_bin (fun x y => x - y) 66, o_push (.int 0) 67, o_iload 1 68, o_cs 114 3 0 3 71, am_nop, am_nop, o_bin (fun x y => x * y) 72, o_istore 3 73, o_push (.int 0) 74, o_istore 4 76, am_nop, o_push (.int 0) 77, o_istore 5 79, am_nop, o_push (.int 2) 80],
  [o_iload 5 82, am_nop, o_bin (fun x y => x * y) 83, o_iload 3 84, o_icmp (fun x y => y ≤ x) 177 87, am_nop, am_nop, o_iload 4 89, am_nop, o_push (.int 2) 90, o_iload 5 92, am_nop, o_bin (fun x y => x * y) 93, o_icmp (fun x y => ¬ x = y) 177 96, am_nop, am_nop],
  [o_aload 0 97, o_cv 8 38 157 3 3 0 100, am_nop, am_nop, o_iload 4 102, am_nop, o_iload 4 104, am_nop, o_iload 2 105, o_icmp (fun x y => y ≤ x) 126 108, am_nop, am_nop, o_aload 0 109, o_getR 8 38 36 112, am_nop, am_nop],
  [o_iload 4 114, am_nop, o_iald 20 115, o_aload 0 116, o_cv 8 38 156 3 1 0 119, am_nop, am_nop, o_icmp (fun x y => ¬ x = y) 126 122, am_nop, am_nop, o_push (.int 1) 123, o_goto 127, am_nop, am_nop, o_push (.int 0) 127, o_bin (fun x y => x + y) 128],
  [o_istore 4 130, am_nop, o_iload 4 132, am_nop, o_iload 4 134, am_nop, o_push (.int 2) 135, o_iload 5 137, am_nop, o_bin (fun x y => x * y) 138, o_push (.int 1) 139, o_bin (fun x y => x + y) 140, o_icmp (fun x y => ¬ x = y) 167 143, am_nop, am_nop, o_iload 4 145],
  [am_nop, o_iload 2 146, o_icmp (fun x y => y ≤ x) 167 149, am_nop, am_nop, o_aload 0 150, o_getR 8 38 36 153, am_nop, am_nop, o_iload 4 155, am_nop, o_iald 20 156, o_aload 0 157, o_cv 8 38 155 3 1 0 160, am_nop, am_nop],
  [o_icmp (fun x y => ¬ x = y) 167 163, am_nop, am_nop, o_push (.int 1) 164, o_goto 168, am_nop, am_nop, o_push (.int 0) 168, o_bin (fun x y => x + y) 169, o_istore 4 171, am_nop, o_iinc 5 1 174, am_nop, am_nop, o_goto 79, am_nop],
  [am_nop, o_aload 0 178, o_getR 8 38 2 181, am_nop, am_nop, o_aload 0 182, o_getR 8 38 0 185, am_nop, am_nop, o_cs 115 3 0 2 188, am_nop, am_nop, o_iload 4 190, am_nop, o_iload 2 191, o_icmp (fun x y => ¬ x = y) 204 194],
  [am_nop, am_nop, o_iload 4 196, am_nop, o_iload 3 197, o_icmp (fun x y => ¬ x = y) 204 200, am_nop, am_nop, o_push (.int 0) 201, o_goto 208, am_nop, am_nop, o_push (.int 1) 205, o_iload 4 207, am_nop, o_bin (fun x y => x + y) 208],
  [o_iret, am_nop, am_nop, am_nop, am_nop, am_nop, am_nop, am_nop, am_nop, am_nop, am_nop, am_nop, am_nop, am_nop, am_nop, am_nop]]
theorem rX8_check_0 : am_allR (fun pc o => am_ok am_tb0 cX8_check RX8 6 (some .int) false pc o ∧ am_mo o) 0 (am_nth [] tX8_check 0) :=
  And.intro ⟨ok_aload_n dX8_check_0 rfl rfl, mo_aload⟩ (
  And.intro ⟨ok_getI dX8_check_1 hclX8 inWX8 (by decide) (by decide) wd_928 (fun _ _ _ => rfl) rfl, mo_getI⟩ (
  And.intro ⟨ok_nop, mo_nop⟩ (
  And.intro ⟨ok_nop, mo_nop⟩ (
  And.intro ⟨ok_istore_n dX8_check_4 rfl (by decide) rfl, mo_istore⟩ (
  And.intro ⟨ok_aload_n dX8_check_5 rfl rfl, mo_aload⟩ (
  And.intro ⟨ok_iconst dX8_check_6 rfl ic_0, mo_push⟩ (
  And.intro ⟨ok_putI dX8_check_7 hclX8 inWX8 tyX8_ok nmX8 (by decide) (by decide) wd_928 rfl (tyX8_ok 37 (by decide)) (fun _ _ _ => rfl) rfl, mo_putI⟩ (
  And.intro ⟨ok_nop, mo_nop⟩ (
  And.intro ⟨ok_nop, mo_nop⟩ (
  And.intro ⟨ok_iload_n dX8_check_10 rfl rfl, mo_iload⟩ (
  And.intro ⟨ok_iconst dX8_check_11 rfl ic_1, mo_push⟩ (
  And.intro ⟨ok_bipush dX8_check_12 rfl bi_30, mo_push⟩ (
  And.intro ⟨ok_nop, mo_nop⟩ (
  And.intro ⟨ok_cs (z := 113) dX8_check_14 wd_1012 wd_1013 wd_8 wd_1014 rfl (by decide) hy_X8_in rfl, mo_cs⟩ (
  And.intro ⟨ok_nop, mo_nop⟩ (
  trivial))))))))))))))))
theorem rX8_check_1 : am_allR (fun pc o => am_ok am_tb0 cX8_check RX8 6 (some .int) false pc o ∧ am_mo o) 16 (am_nth [] tX8_check 1) :=
  And.intro ⟨ok_nop, mo_nop⟩ (
  And.intro ⟨ok_if_ne dX8_check_17 (by decide) rfl, mo_if⟩ (
  And.intro ⟨ok_nop, mo_nop⟩ (
  And.intro ⟨ok_nop, mo_nop⟩ (
  And.intro ⟨ok_ldc dX8_check_20 rfl wd_1021, mo_push⟩ (
  And.intro ⟨ok_nop, mo_nop⟩ (
  And.intro ⟨ok_iret dX8_check_22 rfl, mo_iret⟩ (
  And.intro ⟨ok_aload_n dX8_check_23 rfl rfl, mo_aload⟩ (
  And.intro ⟨ok_getI dX8_check_24 hclX8 inWX8 (by decide) (by decide) wd_894 (fun _ _ _ => rfl) rfl, mo_getI⟩ (
  And.intro ⟨ok_nop, mo_nop⟩ (
  And.intro ⟨ok_nop, mo_nop⟩ (
  And.intro ⟨ok_if_ne dX8_check_27 (by decide) rfl, mo_if⟩ (
  And.intro ⟨ok_nop, mo_nop⟩ (
  And.intro ⟨ok_nop, mo_nop⟩ (
  And.intro ⟨ok_ldc dX8_check_30 rfl wd_1137, mo_push⟩ (
  And.intro ⟨ok_nop, mo_nop⟩ (
  trivial))))))))))))))))
theorem rX8_check_2 : am_allR (fun pc o => am_ok am_tb0 cX8_check RX8 6 (some .int) false pc o ∧ am_mo o) 32 (am_nth [] tX8_check 2) :=
  And.intro ⟨ok_iret dX8_check_32 rfl, mo_iret⟩ (
  And.intro ⟨ok_aload_n dX8_check_33 rfl rfl, mo_aload⟩ (
  And.intro ⟨ok_getR dX8_check_34 hclX8 inWX8 (by decide) (by decide) wd_891 (fun _ _ _ => rfl) rfl, mo_getR⟩ (
  And.intro ⟨ok_nop, mo_nop⟩ (
  And.intro ⟨ok_nop, mo_nop⟩ (
  And.intro ⟨ok_aload_n dX8_check_37 rfl rfl, mo_aload⟩ (
  And.intro ⟨ok_getR dX8_check_38 hclX8 inWX8 (by decide) (by decide) wd_893 (fun _ _ _ => rfl) rfl, mo_getR⟩ (
  And.intro ⟨ok_nop, mo_nop⟩ (
  And.intro ⟨ok_nop, mo_nop⟩ (
  And.intro ⟨ok_cs (z := 115) dX8_check_41 wd_1360 wd_1361 wd_8 wd_1362 rfl (by decide) hy_X8_copyAll rfl, mo_cs⟩ (
  And.intro ⟨ok_nop, mo_nop⟩ (
  And.intro ⟨ok_nop, mo_nop⟩ (
  And.intro ⟨ok_aload_n dX8_check_44 rfl rfl, mo_aload⟩ (
  And.intro ⟨ok_getR dX8_check_45 hclX8 inWX8 (by decide) (by decide) wd_892 (fun _ _ _ => rfl) rfl, mo_getR⟩ (
  And.intro ⟨ok_nop, mo_nop⟩ (
  And.intro ⟨ok_nop, mo_nop⟩ (
  trivial))))))))))))))))
theorem rX8_check_3 : am_allR (fun pc o => am_ok am_tb0 cX8_check RX8 6 (some .int) false pc o ∧ am_mo o) 48 (am_nth [] tX8_check 3) :=
  And.intro ⟨ok_aload_n dX8_check_48 rfl rfl, mo_aload⟩ (
  And.intro ⟨ok_getR dX8_check_49 hclX8 inWX8 (by decide) (by decide) wd_891 (fun _ _ _ => rfl) rfl, mo_getR⟩ (
  And.intro ⟨ok_nop, mo_nop⟩ (
  And.intro ⟨ok_nop, mo_nop⟩ (
  And.intro ⟨ok_cs (z := 115) dX8_check_52 wd_1360 wd_1361 wd_8 wd_1362 rfl (by decide) hy_X8_copyAll rfl, mo_cs⟩ (
  And.intro ⟨ok_nop, mo_nop⟩ (
  And.intro ⟨ok_nop, mo_nop⟩ (
  And.intro ⟨ok_iconst dX8_check_55 rfl ic_2, mo_push⟩ (
  And.intro ⟨ok_sipush dX8_check_56 rfl si_9999, mo_push⟩ (
  And.intro ⟨ok_nop, mo_nop⟩ (
  And.intro ⟨ok_nop, mo_nop⟩ (
  And.intro ⟨ok_aload_n dX8_check_59 rfl rfl, mo_aload⟩ (
  And.intro ⟨ok_getR dX8_check_60 hclX8 inWX8 (by decide) (by decide) wd_891 (fun _ _ _ => rfl) rfl, mo_getR⟩ (
  And.intro ⟨ok_nop, mo_nop⟩ (
  And.intro ⟨ok_nop, mo_nop⟩ (
  And.intro ⟨ok_iconst dX8_check_63 rfl ic_2, mo_push⟩ (
  trivial))))))))))))))))
theorem rX8_check_4 : am_allR (fun pc o => am_ok am_tb0 cX8_check RX8 6 (some .int) false pc o ∧ am_mo o) 64 (am_nth [] tX8_check 4) :=
  And.intro ⟨ok_iald dX8_check_64 rfl, mo_iald⟩ (
  And.intro ⟨ok_isub dX8_check_65 rfl, mo_bin⟩ (
  And.intro ⟨ok_iconst dX8_check_66 rfl ic_0, mo_push⟩ (
  And.intro ⟨ok_iload_n dX8_check_67 rfl rfl, mo_iload⟩ (
  And.intro ⟨ok_cs (z := 114) dX8_check_68 wd_1090 wd_1091 wd_8 wd_1092 rfl (by decide) hy_X8_within rfl, mo_cs⟩ (
  And.intro ⟨ok_nop, mo_nop⟩ (
  And.intro ⟨ok_nop, mo_nop⟩ (
  And.intro ⟨ok_imul dX8_check_71 rfl, mo_bin⟩ (
  And.intro ⟨ok_istore_n dX8_check_72 rfl (by decide) rfl, mo_istore⟩ (
  And.intro ⟨ok_iconst dX8_check_73 rfl ic_0, mo_push⟩ (
  And.intro ⟨ok_istore dX8_check_74 (by decide) rfl, mo_istore⟩ (
  And.intro ⟨ok_nop, mo_nop⟩ (
  And.intro ⟨ok_iconst dX8_check_76 rfl ic_0, mo_push⟩ (
  And.intro ⟨ok_istore dX8_check_77 (by decide) rfl, mo_istore⟩ (
  And.intro ⟨ok_nop, mo_nop⟩ (
  And.intro ⟨ok_iconst dX8_check_79 rfl ic_2, mo_push⟩ (
  trivial))))))))))))))))
theorem rX8_check_5 : am_allR (fun pc o => am_ok am_tb0 cX8_check RX8 6 (some .int) false pc o ∧ am_mo o) 80 (am_nth [] tX8_check 5) :=
  And.intro ⟨ok_iload dX8_check_80 rfl, mo_iload⟩ (
  And.intro ⟨ok_nop, mo_nop⟩ (
  And.intro ⟨ok_imul dX8_check_82 rfl, mo_bin⟩ (
  And.intro ⟨ok_iload_n dX8_check_83 rfl rfl, mo_iload⟩ (
  And.intro ⟨ok_icmp_ge dX8_check_84 (by decide) rfl, mo_icmp⟩ (
  And.intro ⟨ok_nop, mo_nop⟩ (
  And.intro ⟨ok_nop, mo_nop⟩ (
  And.intro ⟨ok_iload dX8_check_87 rfl, mo_iload⟩ (
  And.intro ⟨ok_nop, mo_nop⟩ (
  And.intro ⟨ok_iconst dX8_check_89 rfl ic_2, mo_push⟩ (
  And.intro ⟨ok_iload dX8_check_90 rfl, mo_iload⟩ (
  And.intro ⟨ok_nop, mo_nop⟩ (
  And.intro ⟨ok_imul dX8_check_92 rfl, mo_bin⟩ (
  And.intro ⟨ok_icmp_ne dX8_check_93 (by decide) rfl, mo_icmp⟩ (
  And.intro ⟨ok_nop, mo_nop⟩ (
  And.intro ⟨ok_nop, mo_nop⟩ (
  trivial))))))))))))))))
theorem rX8_check_6 : am_allR (fun pc o => am_ok am_tb0 cX8_check RX8 6 (some .int) false pc o ∧ am_mo o) 96 (am_nth [] tX8_check 6) :=
  And.intro ⟨ok_aload_n dX8_check_96 rfl rfl, mo_aload⟩ (
  And.intro ⟨ok_cv (z := 157) dX8_check_97 hclX8 (by decide) wd_1190 wd_1192 wp_38 wd_8 wd_1193 rfl (by decide) ⟨rfl, hy_X8_day⟩ rfl, mo_cv⟩ (
  And.intro ⟨ok_nop, mo_nop⟩ (
  And.intro ⟨ok_nop, mo_nop⟩ (
  And.intro ⟨ok_iload dX8_check_100 rfl, mo_iload⟩ (
  And.intro ⟨ok_nop, mo_nop⟩ (
  And.intro ⟨ok_iload dX8_check_102 rfl, mo_iload⟩ (
  And.intro ⟨ok_nop, mo_nop⟩ (
  And.intro ⟨ok_iload_n dX8_check_104 rfl rfl, mo_iload⟩ (
  And.intro ⟨ok_icmp_ge dX8_check_105 (by decide) rfl, mo_icmp⟩ (
  And.intro ⟨ok_nop, mo_nop⟩ (
  And.intro ⟨ok_nop, mo_nop⟩ (
  And.intro ⟨ok_aload_n dX8_check_108 rfl rfl, mo_aload⟩ (
  And.intro ⟨ok_getR dX8_check_109 hclX8 inWX8 (by decide) (by decide) wd_927 (fun _ _ _ => rfl) rfl, mo_getR⟩ (
  And.intro ⟨ok_nop, mo_nop⟩ (
  And.intro ⟨ok_nop, mo_nop⟩ (
  trivial))))))))))))))))
theorem rX8_check_7 : am_allR (fun pc o => am_ok am_tb0 cX8_check RX8 6 (some .int) false pc o ∧ am_mo o) 112 (am_nth [] tX8_check 7) :=
  And.intro ⟨ok_iload dX8_check_112 rfl, mo_iload⟩ (
  And.intro ⟨ok_nop, mo_nop⟩ (
  And.intro ⟨ok_iald dX8_check_114 rfl, mo_iald⟩ (
  And.intro ⟨ok_aload_n dX8_check_115 rfl rfl, mo_aload⟩ (
  And.intro ⟨ok_cv (z := 156) dX8_check_116 hclX8 (by decide) wd_1206 wd_1208 wp_41 wd_8 wd_1209 rfl (by decide) ⟨rfl, hy_X8_depthAll⟩ rfl, mo_cv⟩ (
  And.intro ⟨ok_nop, mo_nop⟩ (
  And.intro ⟨ok_nop, mo_nop⟩ (
  And.intro ⟨ok_icmp_ne dX8_check_119 (by decide) rfl, mo_icmp⟩ (
  And.intro ⟨ok_nop, mo_nop⟩ (
  And.intro ⟨ok_nop, mo_nop⟩ (
  And.intro ⟨ok_iconst dX8_check_122 rfl ic_1, mo_push⟩ (
  And.intro ⟨ok_goto dX8_check_123 (by decide), mo_goto⟩ (
  And.intro ⟨ok_nop, mo_nop⟩ (
  And.intro ⟨ok_nop, mo_nop⟩ (
  And.intro ⟨ok_iconst dX8_check_126 rfl ic_0, mo_push⟩ (
  And.intro ⟨ok_iadd dX8_check_127 rfl, mo_bin⟩ (
  trivial))))))))))))))))
theorem rX8_check_8 : am_allR (fun pc o => am_ok am_tb0 cX8_check RX8 6 (some .int) false pc o ∧ am_mo o) 128 (am_nth [] tX8_check 8) :=
  And.intro ⟨ok_istore dX8_check_128 (by decide) rfl, mo_istore⟩ (
  And.intro ⟨ok_nop, mo_nop⟩ (
  And.intro ⟨ok_iload dX8_check_130 rfl, mo_iload⟩ (
  And.intro ⟨ok_nop, mo_nop⟩ (
  And.intro ⟨ok_iload dX8_check_132 rfl, mo_iload⟩ (
  And.intro ⟨ok_nop, mo_nop⟩ (
  And.intro ⟨ok_iconst dX8_check_134 rfl ic_2, mo_push⟩ (
  And.intro ⟨ok_iload dX8_check_135 rfl, mo_iload⟩ (
  And.intro ⟨ok_nop, mo_nop⟩ (
  And.intro ⟨ok_imul dX8_check_137 rfl, mo_bin⟩ (
  And.intro ⟨ok_iconst dX8_check_138 rfl ic_1, mo_push⟩ (
  And.intro ⟨ok_iadd dX8_check_139 rfl, mo_bin⟩ (
  And.intro ⟨ok_icmp_ne dX8_check_140 (by decide) rfl, mo_icmp⟩ (
  And.intro ⟨ok_nop, mo_nop⟩ (
  And.intro ⟨ok_nop, mo_nop⟩ (
  And.intro ⟨ok_iload dX8_check_143 rfl, mo_iload⟩ (
  trivial))))))))))))))))
theorem rX8_check_9 : am_allR (fun pc o => am_ok am_tb0 cX8_check RX8 6 (some .int) false pc o ∧ am_mo o) 144 (am_nth [] tX8_check 9) :=
  And.intro ⟨ok_nop, mo_nop⟩ (
  And.intro ⟨ok_iload_n dX8_check_145 rfl rfl, mo_iload⟩ (
  And.intro ⟨ok_icmp_ge dX8_check_146 (by decide) rfl, mo_icmp⟩ (
  And.intro ⟨ok_nop, mo_nop⟩ (
  And.intro ⟨ok_nop, mo_nop⟩ (
  And.intro ⟨ok_aload_n dX8_check_149 rfl rfl, mo_aload⟩ (
  And.intro ⟨ok_getR dX8_check_150 hclX8 inWX8 (by decide) (by decide) wd_927 (fun _ _ _ => rfl) rfl, mo_getR⟩ (
  And.intro ⟨ok_nop, mo_nop⟩ (
  And.intro ⟨ok_nop, mo_nop⟩ (
  And.intro ⟨ok_iload dX8_check_153 rfl, mo_iload⟩ (
  And.intro ⟨ok_nop, mo_nop⟩ (
  And.intro ⟨ok_iald dX8_check_155 rfl, mo_iald⟩ (
  And.intro ⟨ok_aload_n dX8_check_156 rfl rfl, mo_aload⟩ (
  And.intro ⟨ok_cv (z := 155) dX8_check_157 hclX8 (by decide) wd_1194 wd_1196 wp_39 wd_8 wd_1197 rfl (by decide) ⟨rfl, hy_X8_filled⟩ rfl, mo_cv⟩ (
  And.intro ⟨ok_nop, mo_nop⟩ (
  And.intro ⟨ok_nop, mo_nop⟩ (
  trivial))))))))))))))))
theorem rX8_check_10 : am_allR (fun pc o => am_ok am_tb0 cX8_check RX8 6 (some .int) false pc o ∧ am_mo o) 160 (am_nth [] tX8_check 10) :=
  And.intro ⟨ok_icmp_ne dX8_check_160 (by decide) rfl, mo_icmp⟩ (
  And.intro ⟨ok_nop, mo_nop⟩ (
  And.intro ⟨ok_nop, mo_nop⟩ (
  And.intro ⟨ok_iconst dX8_check_163 rfl ic_1, mo_push⟩ (
  And.intro ⟨ok_goto dX8_check_164 (by decide), mo_goto⟩ (
  And.intro ⟨ok_nop, mo_nop⟩ (
  And.intro ⟨ok_nop, mo_nop⟩ (
  And.intro ⟨ok_iconst dX8_check_167 rfl ic_0, mo_push⟩ (
  And.intro ⟨ok_iadd dX8_check_168 rfl, mo_bin⟩ (
  And.intro ⟨ok_istore dX8_check_169 (by decide) rfl, mo_istore⟩ (
  And.intro ⟨ok_nop, mo_nop⟩ (
  And.intro ⟨ok_iinc dX8_check_171 ic_1 (by decide) rfl, mo_iinc⟩ (
  And.intro ⟨ok_nop, mo_nop⟩ (
  And.intro ⟨ok_nop, mo_nop⟩ (
  And.intro ⟨ok_goto dX8_check_174 (by decide), mo_goto⟩ (
  And.intro ⟨ok_nop, mo_nop⟩ (
  trivial))))))))))))))))
theorem rX8_check_11 : am_allR (fun pc o => am_ok am_tb0 cX8_check RX8 6 (some .int) false pc o ∧ am_mo o) 176 (am_nth [] tX8_check 11) :=
  And.intro ⟨ok_nop, mo_nop⟩ (
  And.intro ⟨ok_aload_n dX8_check_177 rfl rfl, mo_aload⟩ (
  And.intro ⟨ok_getR dX8_check_178 hclX8 inWX8 (by decide) (by decide) wd_893 (fun _ _ _ => rfl) rfl, mo_getR⟩ (
  And.intro ⟨ok_nop, mo_nop⟩ (
  And.intro ⟨ok_nop, mo_nop⟩ (
  And.intro ⟨ok_aload_n dX8_check_181 rfl rfl, mo_aload⟩ (
  And.intro ⟨ok_getR dX8_check_182 hclX8 inWX8 (by decide) (by decide) wd_891 (fun _ _ _ => rfl) rfl, mo_getR⟩ (
  And.intro ⟨ok_nop, mo_nop⟩ (
  And.intro ⟨ok_nop, mo_nop⟩ (
  And.intro ⟨ok_cs (z := 115) dX8_check_185 wd_1360 wd_1361 wd_8 wd_1362 rfl (by decide) hy_X8_copyAll rfl, mo_cs⟩ (
  And.intro ⟨ok_nop, mo_nop⟩ (
  And.intro ⟨ok_nop, mo_nop⟩ (
  And.intro ⟨ok_iload dX8_check_188 rfl, mo_iload⟩ (
  And.intro ⟨ok_nop, mo_nop⟩ (
  And.intro ⟨ok_iload_n dX8_check_190 rfl rfl, mo_iload⟩ (
  And.intro ⟨ok_icmp_ne dX8_check_191 (by decide) rfl, mo_icmp⟩ (
  trivial))))))))))))))))
theorem rX8_check_12 : am_allR (fun pc o => am_ok am_tb0 cX8_check RX8 6 (some .int) false pc o ∧ am_mo o) 192 (am_nth [] tX8_check 12) :=
  And.intro ⟨ok_nop, mo_nop⟩ (
  And.intro ⟨ok_nop, mo_nop⟩ (
  And.intro ⟨ok_iload dX8_check_194 rfl, mo_iload⟩ (
  And.intro ⟨ok_nop, mo_nop⟩ (
  And.intro ⟨ok_iload_n dX8_check_196 rfl rfl, mo_iload⟩ (
  And.intro ⟨ok_icmp_ne dX8_check_197 (by decide) rfl, mo_icmp⟩ (
  And.intro ⟨ok_nop, mo_nop⟩ (
  And.intro ⟨ok_nop, mo_nop⟩ (
  And.intro ⟨ok_iconst dX8_check_200 rfl ic_0, mo_push⟩ (
  And.intro ⟨ok_goto dX8_check_201 (by decide), mo_goto⟩ (
  And.intro ⟨ok_nop, mo_nop⟩ (
  And.intro ⟨ok_nop, mo_nop⟩ (
  And.intro ⟨ok_iconst dX8_check_204 rfl ic_1, mo_push⟩ (
  And.intro ⟨ok_iload dX8_check_205 rfl, mo_iload⟩ (
  And.intro ⟨ok_nop, mo_nop⟩ (
  And.intro ⟨ok_iadd dX8_check_207 rfl, mo_bin⟩ (
  trivial))))))))))))))))
theorem rX8_check_13 : am_allR (fun pc o => am_ok am_tb0 cX8_check RX8 6 (some .int) false pc o ∧ am_mo o) 208 (am_nth [] tX8_check 13) :=
  And.intro ⟨ok_iret dX8_check_208 rfl, mo_iret⟩ (
  And.intro ⟨ok_nop, mo_nop⟩ (
  And.intro ⟨ok_nop, mo_nop⟩ (
  And.intro ⟨ok_nop, mo_nop⟩ (
  And.intro ⟨ok_nop, mo_nop⟩ (
  And.intro ⟨ok_nop, mo_nop⟩ (
  And.intro ⟨ok_nop, mo_nop⟩ (
  And.intro ⟨ok_nop, mo_nop⟩ (
  And.intro ⟨ok_nop, mo_nop⟩ (
  And.intro ⟨ok_nop, mo_nop⟩ (
  And.intro ⟨ok_nop, mo_nop⟩ (
  And.intro ⟨ok_nop, mo_nop⟩ (
  And.intro ⟨ok_nop, mo_nop⟩ (
  And.intro ⟨ok_nop, mo_nop⟩ (
  And.intro ⟨ok_nop, mo_nop⟩ (
  And.intro ⟨ok_nop, mo_nop⟩ (
  trivial))))))))))))))))
theorem kX8_check : am_M1 am_tb0 cX8_check RX8 6 (some .int) false tX8_check := And.intro rX8_check_0 (And.intro rX8_check_1 (And.intro rX8_check_2 (And.intro rX8_check_3 (And.intro rX8_check_4 (And.intro rX8_check_5 (And.intro rX8_check_6 (And.intro rX8_check_7 (And.intro rX8_check_8 (And.intro rX8_check_9 (And.intro rX8_check_10 (And.intro rX8_check_11 (And.intro rX8_check_12 (And.intro rX8_check_13 (trivial))))))))))))))
def tX8_keep : List (List am_Op) := [[o_aload 0 1, o_getR 8 38 0 4, am_nop, am_nop, o_aload 0 5, o_getR 8 38 1 8, am_nop, am_nop, o_cs 115 3 0 2 11, am_nop, am_nop, o_aload 0 12, o_push (.int 1) 13, o_putZ 8 38 3 16, am_nop, am_nop],
  [o_aload 0 17, o_getR 8 38 0 20, am_nop, am_nop, o_push (.int 1) 21, o_iald 20 22, o_iret, am_nop, am_nop, am_nop, am_nop, am_nop, am_nop, am_nop, am_nop, am_nop]]
theorem rX8_keep_0 : am_allR (fun pc o => am_ok am_tb0 cX8_keep RX8 1 (some .int) false pc o ∧ am_mo o) 0 (am_nth [] tX8_keep 0) :=
  And.intro ⟨ok_aload_n dX8_keep_0 rfl rfl, mo_aload⟩ (
  And.intro ⟨ok_getR dX8_keep_1 hclX8 inWX8 (by decide) (by decide) wd_891 (fun _ _ _ => rfl) rfl, mo_getR⟩ (
  And.intro ⟨ok_nop, mo_nop⟩ (
  And.intro ⟨ok_nop, mo_nop⟩ (
  And.intro ⟨ok_aload_n dX8_keep_4 rfl rfl, mo_aload⟩ (
  And.intro ⟨ok_getR dX8_keep_5 hclX8 inWX8 (by decide) (by decide) wd_892 (fun _ _ _ => rfl) rfl, mo_getR⟩ (
  And.intro ⟨ok_nop, mo_nop⟩ (
  And.intro ⟨ok_nop, mo_nop⟩ (
  And.intro ⟨ok_cs (z := 115) dX8_keep_8 wd_1360 wd_1361 wd_8 wd_1362 rfl (by decide) hy_X8_copyAll rfl, mo_cs⟩ (
  And.intro ⟨ok_nop, mo_nop⟩ (
  And.intro ⟨ok_nop, mo_nop⟩ (
  And.intro ⟨ok_aload_n dX8_keep_11 rfl rfl, mo_aload⟩ (
  And.intro ⟨ok_iconst dX8_keep_12 rfl ic_1, mo_push⟩ (
  And.intro ⟨ok_putZ dX8_keep_13 hclX8 inWX8 tyX8_ok nmX8 (by decide) (by decide) wd_894 rfl (tyX8_ok 3 (by decide)) (fun _ _ _ => rfl) rfl, mo_putZ⟩ (
  And.intro ⟨ok_nop, mo_nop⟩ (
  And.intro ⟨ok_nop, mo_nop⟩ (
  trivial))))))))))))))))
theorem rX8_keep_1 : am_allR (fun pc o => am_ok am_tb0 cX8_keep RX8 1 (some .int) false pc o ∧ am_mo o) 16 (am_nth [] tX8_keep 1) :=
  And.intro ⟨ok_aload_n dX8_keep_16 rfl rfl, mo_aload⟩ (
  And.intro ⟨ok_getR dX8_keep_17 hclX8 inWX8 (by decide) (by decide) wd_891 (fun _ _ _ => rfl) rfl, mo_getR⟩ (
  And.intro ⟨ok_nop, mo_nop⟩ (
  And.intro ⟨ok_nop, mo_nop⟩ (
  And.intro ⟨ok_iconst dX8_keep_20 rfl ic_1, mo_push⟩ (
  And.intro ⟨ok_iald dX8_keep_21 rfl, mo_iald⟩ (
  And.intro ⟨ok_iret dX8_keep_22 rfl, mo_iret⟩ (
  And.intro ⟨ok_nop, mo_nop⟩ (
  And.intro ⟨ok_nop, mo_nop⟩ (
  And.intro ⟨ok_nop, mo_nop⟩ (
  And.intro ⟨ok_nop, mo_nop⟩ (
  And.intro ⟨ok_nop, mo_nop⟩ (
  And.intro ⟨ok_nop, mo_nop⟩ (
  And.intro ⟨ok_nop, mo_nop⟩ (
  And.intro ⟨ok_nop, mo_nop⟩ (
  And.intro ⟨ok_nop, mo_nop⟩ (
  trivial))))))))))))))))
theorem kX8_keep : am_M1 am_tb0 cX8_keep RX8 1 (some .int) false tX8_keep := And.intro rX8_keep_0 (And.intro rX8_keep_1 (trivial))
def tX8_back : List (List am_Op) := [[o_aload 0 1, o_getI 8 38 3 4, am_nop, am_nop, o_if (fun x => ¬ x = 0) 10 7, am_nop, am_nop, o_push (.int (-1000000002)) 9, am_nop, o_iret, o_aload 0 11, o_getR 8 38 1 14, am_nop, am_nop, o_aload 0 15, o_getR 8 38 0 18],
  [am_nop, am_nop, o_cs 115 3 0 2 21, am_nop, am_nop, o_aload 0 22, o_getR 8 38 0 25, am_nop, am_nop, o_push (.int 1) 26, o_iald 20 27, o_iret, am_nop, am_nop, am_nop, am_nop]]
theorem rX8_back_0 : am_allR (fun pc o => am_ok am_tb0 cX8_back RX8 1 (some .int) false pc o ∧ am_mo o) 0 (am_nth [] tX8_back 0) :=
  And.intro ⟨ok_aload_n dX8_back_0 rfl rfl, mo_aload⟩ (
  And.intro ⟨ok_getI dX8_back_1 hclX8 inWX8 (by decide) (by decide) wd_894 (fun _ _ _ => rfl) rfl, mo_getI⟩ (
  And.intro ⟨ok_nop, mo_nop⟩ (
  And.intro ⟨ok_nop, mo_nop⟩ (
  And.intro ⟨ok_if_ne dX8_back_4 (by decide) rfl, mo_if⟩ (
  And.intro ⟨ok_nop, mo_nop⟩ (
  And.intro ⟨ok_nop, mo_nop⟩ (
  And.intro ⟨ok_ldc dX8_back_7 rfl wd_1137, mo_push⟩ (
  And.intro ⟨ok_nop, mo_nop⟩ (
  And.intro ⟨ok_iret dX8_back_9 rfl, mo_iret⟩ (
  And.intro ⟨ok_aload_n dX8_back_10 rfl rfl, mo_aload⟩ (
  And.intro ⟨ok_getR dX8_back_11 hclX8 inWX8 (by decide) (by decide) wd_892 (fun _ _ _ => rfl) rfl, mo_getR⟩ (
  And.intro ⟨ok_nop, mo_nop⟩ (
  And.intro ⟨ok_nop, mo_nop⟩ (
  And.intro ⟨ok_aload_n dX8_back_14 rfl rfl, mo_aload⟩ (
  And.intro ⟨ok_getR dX8_back_15 hclX8 inWX8 (by decide) (by decide) wd_891 (fun _ _ _ => rfl) rfl, mo_getR⟩ (
  trivial))))))))))))))))
theorem rX8_back_1 : am_allR (fun pc o => am_ok am_tb0 cX8_back RX8 1 (some .int) false pc o ∧ am_mo o) 16 (am_nth [] tX8_back 1) :=
  And.intro ⟨ok_nop, mo_nop⟩ (
  And.intro ⟨ok_nop, mo_nop⟩ (
  And.intro ⟨ok_cs (z := 115) dX8_back_18 wd_1360 wd_1361 wd_8 wd_1362 rfl (by decide) hy_X8_copyAll rfl, mo_cs⟩ (
  And.intro ⟨ok_nop, mo_nop⟩ (
  And.intro ⟨ok_nop, mo_nop⟩ (
  And.intro ⟨ok_aload_n dX8_back_21 rfl rfl, mo_aload⟩ (
  And.intro ⟨ok_getR dX8_back_22 hclX8 inWX8 (by decide) (by decide) wd_891 (fun _ _ _ => rfl) rfl, mo_getR⟩ (
  And.intro ⟨ok_nop, mo_nop⟩ (
  And.intro ⟨ok_nop, mo_nop⟩ (
  And.intro ⟨ok_iconst dX8_back_25 rfl ic_1, mo_push⟩ (
  And.intro ⟨ok_iald dX8_back_26 rfl, mo_iald⟩ (
  And.intro ⟨ok_iret dX8_back_27 rfl, mo_iret⟩ (
  And.intro ⟨ok_nop, mo_nop⟩ (
  And.intro ⟨ok_nop, mo_nop⟩ (
  And.intro ⟨ok_nop, mo_nop⟩ (
  And.intro ⟨ok_nop, mo_nop⟩ (
  trivial))))))))))))))))
theorem kX8_back : am_M1 am_tb0 cX8_back RX8 1 (some .int) false tX8_back := And.intro rX8_back_0 (And.intro rX8_back_1 (trivial))
def tX8_count : List (List am_Op) := [[o_iload 1 1, o_sw [(0, 68), (1, 75), (2, 80), (3, 88), (4, 95), (5, 100), (6, 107), (7, 115), (8, 122), (9, 129), (10, 137), (11, 142), (12, 147)] 154, am_nop, am_nop, am_nop, am_nop, am_nop, am_nop, am_nop, am_nop, am_nop, am_nop, am_nop, am_nop, am_nop, am_nop],
  [am_nop, am_nop, am_nop, am_nop, am_nop, am_nop, am_nop, am_nop, am_nop, am_nop, am_nop, am_nop, am_nop, am_nop, am_nop, am_nop],
  [am_nop, am_nop, am_nop, am_nop, am_nop, am_nop, am_nop, am_nop, am_nop, am_nop, am_nop, am_nop, am_nop, am_nop, am_nop, am_nop],
  [am_nop, am_nop, am_nop, am_nop, am_nop, am_nop, am_nop, am_nop, am_nop, am_nop, am_nop, am_nop, am_nop, am_nop, am_nop, am_nop],
  [am_nop, am_nop, am_nop, am_nop, o_aload 0 69, o_getR 8 38 0 72, am_nop, am_nop, o_push (.int 1) 73, o_iald 20 74, o_iret, o_aload 0 76, o_cv 8 38 155 3 1 0 79, am_nop, am_nop, o_iret],
  [o_aload 0 81, o_getR 8 38 0 84, am_nop, am_nop, o_push (.int 7) 86, am_nop, o_iald 20 87, o_iret, o_aload 0 89, o_getR 8 38 0 92, am_nop, am_nop, o_push (.int 2) 93, o_iald 20 94, o_iret, o_aload 0 96],
  [o_cv 8 38 156 3 1 0 99, am_nop, am_nop, o_iret, o_aload 0 101, o_getR 8 38 0 104, am_nop, am_nop, o_push (.int 5) 105, o_iald 20 106, o_iret, o_aload 0 108, o_getR 8 38 0 111, am_nop, am_nop, o_push (.int 6) 113],
  [am_nop, o_iald 20 114, o_iret, o_aload 0 116, o_getR 8 38 0 119, am_nop, am_nop, o_push (.int 3) 120, o_iald 20 121, o_iret, o_aload 0 123, o_getR 8 38 0 126, am_nop, am_nop, o_push (.int 4) 127, o_iald 20 128],
  [o_iret, o_aload 0 130, o_getR 8 38 0 133, am_nop, am_nop, o_push (.int 8) 135, am_nop, o_iald 20 136, o_iret, o_aload 0 138, o_getI 8 38 37 141, am_nop, am_nop, o_iret, o_aload 0 143, o_getI 8 38 11 146],
  [am_nop, am_nop, o_iret, o_aload 0 148, o_getR 8 38 0 151, am_nop, am_nop, o_push (.int 0) 152, o_iald 20 153, o_iret, o_push (.int (-1000000001)) 156, am_nop, o_iret, am_nop, am_nop, am_nop]]
theorem rX8_count_0 : am_allR (fun pc o => am_ok am_tb0 cX8_count RX8 2 (some .int) false pc o ∧ am_mo o) 0 (am_nth [] tX8_count 0) :=
  And.intro ⟨ok_iload_n dX8_count_0 rfl rfl, mo_iload⟩ (
  And.intro ⟨ok_table dX8_count_1 (by decide) (by decide +kernel) (by decide +kernel), mo_sw⟩ (
  And.intro ⟨ok_nop, mo_nop⟩ (
  And.intro ⟨ok_nop, mo_nop⟩ (
  And.intro ⟨ok_nop, mo_nop⟩ (
  And.intro ⟨ok_nop, mo_nop⟩ (
  And.intro ⟨ok_nop, mo_nop⟩ (
  And.intro ⟨ok_nop, mo_nop⟩ (
  And.intro ⟨ok_nop, mo_nop⟩ (
  And.intro ⟨ok_nop, mo_nop⟩ (
  And.intro ⟨ok_nop, mo_nop⟩ (
  And.intro ⟨ok_nop, mo_nop⟩ (
  And.intro ⟨ok_nop, mo_nop⟩ (
  And.intro ⟨ok_nop, mo_nop⟩ (
  And.intro ⟨ok_nop, mo_nop⟩ (
  And.intro ⟨ok_nop, mo_nop⟩ (
  trivial))))))))))))))))
theorem rX8_count_1 : am_allR (fun pc o => am_ok am_tb0 cX8_count RX8 2 (some .int) false pc o ∧ am_mo o) 16 (am_nth [] tX8_count 1) :=
  And.intro ⟨ok_nop, mo_nop⟩ (
  And.intro ⟨ok_nop, mo_nop⟩ (
  And.intro ⟨ok_nop, mo_nop⟩ (
  And.intro ⟨ok_nop, mo_nop⟩ (
  And.intro ⟨ok_nop, mo_nop⟩ (
  And.intro ⟨ok_nop, mo_nop⟩ (
  And.intro ⟨ok_nop, mo_nop⟩ (
  And.intro ⟨ok_nop, mo_nop⟩ (
  And.intro ⟨ok_nop, mo_nop⟩ (
  And.intro ⟨ok_nop, mo_nop⟩ (
  And.intro ⟨ok_nop, mo_nop⟩ (
  And.intro ⟨ok_nop, mo_nop⟩ (
  And.intro ⟨ok_nop, mo_nop⟩ (
  And.intro ⟨ok_nop, mo_nop⟩ (
  And.intro ⟨ok_nop, mo_nop⟩ (
  And.intro ⟨ok_nop, mo_nop⟩ (
  trivial))))))))))))))))
theorem rX8_count_2 : am_allR (fun pc o => am_ok am_tb0 cX8_count RX8 2 (some .int) false pc o ∧ am_mo o) 32 (am_nth [] tX8_count 2) :=
  And.intro ⟨ok_nop, mo_nop⟩ (
  And.intro ⟨ok_nop, mo_nop⟩ (
  And.intro ⟨ok_nop, mo_nop⟩ (
  And.intro ⟨ok_nop, mo_nop⟩ (
  And.intro ⟨ok_nop, mo_nop⟩ (
  And.intro ⟨ok_nop, mo_nop⟩ (
  And.intro ⟨ok_nop, mo_nop⟩ (
  And.intro ⟨ok_nop, mo_nop⟩ (
  And.intro ⟨ok_nop, mo_nop⟩ (
  And.intro ⟨ok_nop, mo_nop⟩ (
  And.intro ⟨ok_nop, mo_nop⟩ (
  And.intro ⟨ok_nop, mo_nop⟩ (
  And.intro ⟨ok_nop, mo_nop⟩ (
  And.intro ⟨ok_nop, mo_nop⟩ (
  And.intro ⟨ok_nop, mo_nop⟩ (
  And.intro ⟨ok_nop, mo_nop⟩ (
  trivial))))))))))))))))
theorem rX8_count_3 : am_allR (fun pc o => am_ok am_tb0 cX8_count RX8 2 (some .int) false pc o ∧ am_mo o) 48 (am_nth [] tX8_count 3) :=
  And.intro ⟨ok_nop, mo_nop⟩ (
  And.intro ⟨ok_nop, mo_nop⟩ (
  And.intro ⟨ok_nop, mo_nop⟩ (
  And.intro ⟨ok_nop, mo_nop⟩ (
  And.intro ⟨ok_nop, mo_nop⟩ (
  And.intro ⟨ok_nop, mo_nop⟩ (
  And.intro ⟨ok_nop, mo_nop⟩ (
  And.intro ⟨ok_nop, mo_nop⟩ (
  And.intro ⟨ok_nop, mo_nop⟩ (
  And.intro ⟨ok_nop, mo_nop⟩ (
  And.intro ⟨ok_nop, mo_nop⟩ (
  And.intro ⟨ok_nop, mo_nop⟩ (
  And.intro ⟨ok_nop, mo_nop⟩ (
  And.intro ⟨ok_nop, mo_nop⟩ (
  And.intro ⟨ok_nop, mo_nop⟩ (
  And.intro ⟨ok_nop, mo_nop⟩ (
  trivial))))))))))))))))
theorem rX8_count_4 : am_allR (fun pc o => am_ok am_tb0 cX8_count RX8 2 (some .int) false pc o ∧ am_mo o) 64 (am_nth [] tX8_count 4) :=
  And.intro ⟨ok_nop, mo_nop⟩ (
  And.intro ⟨ok_nop, mo_nop⟩ (
  And.intro ⟨ok_nop, mo_nop⟩ (
  And.intro ⟨ok_nop, mo_nop⟩ (
  And.intro ⟨ok_aload_n dX8_count_68 rfl rfl, mo_aload⟩ (
  And.intro ⟨ok_getR dX8_count_69 hclX8 inWX8 (by decide) (by decide) wd_891 (fun _ _ _ => rfl) rfl, mo_getR⟩ (
  And.intro ⟨ok_nop, mo_nop⟩ (
  And.intro ⟨ok_nop, mo_nop⟩ (
  And.intro ⟨ok_iconst dX8_count_72 rfl ic_1, mo_push⟩ (
  And.intro ⟨ok_iald dX8_count_73 rfl, mo_iald⟩ (
  And.intro ⟨ok_iret dX8_count_74 rfl, mo_iret⟩ (
  And.intro ⟨ok_aload_n dX8_count_75 rfl rfl, mo_aload⟩ (
  And.intro ⟨ok_cv (z := 155) dX8_count_76 hclX8 (by decide) wd_1194 wd_1196 wp_39 wd_8 wd_1197 rfl (by decide) ⟨rfl, hy_X8_filled⟩ rfl, mo_cv⟩ (
  And.intro ⟨ok_nop, mo_nop⟩ (
  And.intro ⟨ok_nop, mo_nop⟩ (
  And.intro ⟨ok_iret dX8_count_79 rfl, mo_iret⟩ (
  trivial))))))))))))))))
theorem rX8_count_5 : am_allR (fun pc o => am_ok am_tb0 cX8_count RX8 2 (some .int) false pc o ∧ am_mo o) 80 (am_nth [] tX8_count 5) :=
  And.intro ⟨ok_aload_n dX8_count_80 rfl rfl, mo_aload⟩ (
  And.intro ⟨ok_getR dX8_count_81 hclX8 inWX8 (by decide) (by decide) wd_891 (fun _ _ _ => rfl) rfl, mo_getR⟩ (
  And.intro ⟨ok_nop, mo_nop⟩ (
  And.intro ⟨ok_nop, mo_nop⟩ (
  And.intro ⟨ok_bipush dX8_count_84 rfl bi_7, mo_push⟩ (
  And.intro ⟨ok_nop, mo_nop⟩ (
  And.intro ⟨ok_iald dX8_count_86 rfl, mo_iald⟩ (
  And.intro ⟨ok_iret dX8_count_87 rfl, mo_iret⟩ (
  And.intro ⟨ok_aload_n dX8_count_88 rfl rfl, mo_aload⟩ (
  And.intro ⟨ok_getR dX8_count_89 hclX8 inWX8 (by decide) (by decide) wd_891 (fun _ _ _ => rfl) rfl, mo_getR⟩ (
  And.intro ⟨ok_nop, mo_nop⟩ (
  And.intro ⟨ok_nop, mo_nop⟩ (
  And.intro ⟨ok_iconst dX8_count_92 rfl ic_2, mo_push⟩ (
  And.intro ⟨ok_iald dX8_count_93 rfl, mo_iald⟩ (
  And.intro ⟨ok_iret dX8_count_94 rfl, mo_iret⟩ (
  And.intro ⟨ok_aload_n dX8_count_95 rfl rfl, mo_aload⟩ (
  trivial))))))))))))))))
theorem rX8_count_6 : am_allR (fun pc o => am_ok am_tb0 cX8_count RX8 2 (some .int) false pc o ∧ am_mo o) 96 (am_nth [] tX8_count 6) :=
  And.intro ⟨ok_cv (z := 156) dX8_count_96 hclX8 (by decide) wd_1206 wd_1208 wp_41 wd_8 wd_1209 rfl (by decide) ⟨rfl, hy_X8_depthAll⟩ rfl, mo_cv⟩ (
  And.intro ⟨ok_nop, mo_nop⟩ (
  And.intro ⟨ok_nop, mo_nop⟩ (
  And.intro ⟨ok_iret dX8_count_99 rfl, mo_iret⟩ (
  And.intro ⟨ok_aload_n dX8_count_100 rfl rfl, mo_aload⟩ (
  And.intro ⟨ok_getR dX8_count_101 hclX8 inWX8 (by decide) (by decide) wd_891 (fun _ _ _ => rfl) rfl, mo_getR⟩ (
  And.intro ⟨ok_nop, mo_nop⟩ (
  And.intro ⟨ok_nop, mo_nop⟩ (
  And.intro ⟨ok_iconst dX8_count_104 rfl ic_5, mo_push⟩ (
  And.intro ⟨ok_iald dX8_count_105 rfl, mo_iald⟩ (
  And.intro ⟨ok_iret dX8_count_106 rfl, mo_iret⟩ (
  And.intro ⟨ok_aload_n dX8_count_107 rfl rfl, mo_aload⟩ (
  And.intro ⟨ok_getR dX8_count_108 hclX8 inWX8 (by decide) (by decide) wd_891 (fun _ _ _ => rfl) rfl, mo_getR⟩ (
  And.intro ⟨ok_nop, mo_nop⟩ (
  And.intro ⟨ok_nop, mo_nop⟩ (
  And.intro ⟨ok_bipush dX8_count_111 rfl bi_6, mo_push⟩ (
  trivial))))))))))))))))
theorem rX8_count_7 : am_allR (fun pc o => am_ok am_tb0 cX8_count RX8 2 (some .int) false pc o ∧ am_mo o) 112 (am_nth [] tX8_count 7) :=
  And.intro ⟨ok_nop, mo_nop⟩ (
  And.intro ⟨ok_iald dX8_count_113 rfl, mo_iald⟩ (
  And.intro ⟨ok_iret dX8_count_114 rfl, mo_iret⟩ (
  And.intro ⟨ok_aload_n dX8_count_115 rfl rfl, mo_aload⟩ (
  And.intro ⟨ok_getR dX8_count_116 hclX8 inWX8 (by decide) (by decide) wd_891 (fun _ _ _ => rfl) rfl, mo_getR⟩ (
  And.intro ⟨ok_nop, mo_nop⟩ (
  And.intro ⟨ok_nop, mo_nop⟩ (
  And.intro ⟨ok_iconst dX8_count_119 rfl ic_3, mo_push⟩ (
  And.intro ⟨ok_iald dX8_count_120 rfl, mo_iald⟩ (
  And.intro ⟨ok_iret dX8_count_121 rfl, mo_iret⟩ (
  And.intro ⟨ok_aload_n dX8_count_122 rfl rfl, mo_aload⟩ (
  And.intro ⟨ok_getR dX8_count_123 hclX8 inWX8 (by decide) (by decide) wd_891 (fun _ _ _ => rfl) rfl, mo_getR⟩ (
  And.intro ⟨ok_nop, mo_nop⟩ (
  And.intro ⟨ok_nop, mo_nop⟩ (
  And.intro ⟨ok_iconst dX8_count_126 rfl ic_4, mo_push⟩ (
  And.intro ⟨ok_iald dX8_count_127 rfl, mo_iald⟩ (
  trivial))))))))))))))))
theorem rX8_count_8 : am_allR (fun pc o => am_ok am_tb0 cX8_count RX8 2 (some .int) false pc o ∧ am_mo o) 128 (am_nth [] tX8_count 8) :=
  And.intro ⟨ok_iret dX8_count_128 rfl, mo_iret⟩ (
  And.intro ⟨ok_aload_n dX8_count_129 rfl rfl, mo_aload⟩ (
  And.intro ⟨ok_getR dX8_count_130 hclX8 inWX8 (by decide) (by decide) wd_891 (fun _ _ _ => rfl) rfl, mo_getR⟩ (
  And.intro ⟨ok_nop, mo_nop⟩ (
  And.intro ⟨ok_nop, mo_nop⟩ (
  And.intro ⟨ok_bipush dX8_count_133 rfl bi_8, mo_push⟩ (
  And.intro ⟨ok_nop, mo_nop⟩ (
  And.intro ⟨ok_iald dX8_count_135 rfl, mo_iald⟩ (
  And.intro ⟨ok_iret dX8_count_136 rfl, mo_iret⟩ (
  And.intro ⟨ok_aload_n dX8_count_137 rfl rfl, mo_aload⟩ (
  And.intro ⟨ok_getI dX8_count_138 hclX8 inWX8 (by decide) (by decide) wd_928 (fun _ _ _ => rfl) rfl, mo_getI⟩ (
  And.intro ⟨ok_nop, mo_nop⟩ (
  And.intro ⟨ok_nop, mo_nop⟩ (
  And.intro ⟨ok_iret dX8_count_141 rfl, mo_iret⟩ (
  And.intro ⟨ok_aload_n dX8_count_142 rfl rfl, mo_aload⟩ (
  And.intro ⟨ok_getI dX8_count_143 hclX8 inWX8 (by decide) (by decide) wd_902 (fun _ _ _ => rfl) rfl, mo_getI⟩ (
  trivial))))))))))))))))
theorem rX8_count_9 : am_allR (fun pc o => am_ok am_tb0 cX8_count RX8 2 (some .int) false pc o ∧ am_mo o) 144 (am_nth [] tX8_count 9) :=
  And.intro ⟨ok_nop, mo_nop⟩ (
  And.intro ⟨ok_nop, mo_nop⟩ (
  And.intro ⟨ok_iret dX8_count_146 rfl, mo_iret⟩ (
  And.intro ⟨ok_aload_n dX8_count_147 rfl rfl, mo_aload⟩ (
  And.intro ⟨ok_getR dX8_count_148 hclX8 inWX8 (by decide) (by decide) wd_891 (fun _ _ _ => rfl) rfl, mo_getR⟩ (
  And.intro ⟨ok_nop, mo_nop⟩ (
  And.intro ⟨ok_nop, mo_nop⟩ (
  And.intro ⟨ok_iconst dX8_count_151 rfl ic_0, mo_push⟩ (
  And.intro ⟨ok_iald dX8_count_152 rfl, mo_iald⟩ (
  And.intro ⟨ok_iret dX8_count_153 rfl, mo_iret⟩ (
  And.intro ⟨ok_ldc dX8_count_154 rfl wd_1021, mo_push⟩ (
  And.intro ⟨ok_nop, mo_nop⟩ (
  And.intro ⟨ok_iret dX8_count_156 rfl, mo_iret⟩ (
  And.intro ⟨ok_nop, mo_nop⟩ (
  And.intro ⟨ok_nop, mo_nop⟩ (
  And.intro ⟨ok_nop, mo_nop⟩ (
  trivial))))))))))))))))
theorem kX8_count : am_M1 am_tb0 cX8_count RX8 2 (some .int) false tX8_count := And.intro rX8_count_0 (And.intro rX8_count_1 (And.intro rX8_count_2 (And.intro rX8_count_3 (And.intro rX8_count_4 (And.intro rX8_count_5 (And.intro rX8_count_6 (And.intro rX8_count_7 (And.intro rX8_count_8 (And.intro rX8_count_9 (trivial))))))))))
end AM14D
