/-! the memory behind the constructors (printed by wip/gen/gen99s.py) -/
section T99s
variable {L : Nat} {xs : Nat → Int32}
/-- f has these values from i on -/
def ck_k (f : Nat → Nat × Nat) : Nat → List (Option (Nat × Nat)) → Prop
  | _, [] => True
  | i, none :: l => ck_k f (i + 1) l
  | i, some x :: l => f i = x ∧ ck_k f (i + 1) l
theorem ck_k_od (f : Nat → Nat × Nat) : ∀ (l : List (Option (Nat × Nat))) (i q : Nat), ck_k f i l → am_od (f (i + q)) (am_nth none l q) = f (i + q)
  | [], _, 0, _ => rfl
  | [], _, _ + 1, _ => rfl
  | none :: _, _, 0, _ => rfl
  | some _ :: _, _, 0, h => h.1.symm
  | none :: l, i, q + 1, h => by
    have e := ck_k_od f l (i + 1) q h
    rw [show i + 1 + q = i + (q + 1) by omega] at e
    exact e
  | some _ :: l, i, q + 1, h => by
    have e := ck_k_od f l (i + 1) q h.2
    rw [show i + 1 + q = i + (q + 1) by omega] at e
    exact e
theorem ck_k_all {f : Nat → Nat × Nat} (h : ck_k f 0 am_KO) : am_k f = f := funext fun r => by
  have e := ck_k_od f am_KO 0 r h
  rw [Nat.zero_add] at e
  exact e
def ck_r (g : Nat → Nat) : Nat → List (Option Nat) → Prop
  | _, [] => True
  | i, none :: l => ck_r g (i + 1) l
  | i, some x :: l => g i = x ∧ ck_r g (i + 1) l
theorem ck_r_od (g : Nat → Nat) : ∀ (l : List (Option Nat)) (i q : Nat), ck_r g i l → am_od (g (i + q)) (am_nth none l q) = g (i + q)
  | [], _, 0, _ => rfl
  | [], _, _ + 1, _ => rfl
  | none :: _, _, 0, _ => rfl
  | some _ :: _, _, 0, h => h.1.symm
  | none :: l, i, q + 1, h => by
    have e := ck_r_od g l (i + 1) q h
    rw [show i + 1 + q = i + (q + 1) by omega] at e
    exact e
  | some _ :: l, i, q + 1, h => by
    have e := ck_r_od g l (i + 1) q h.2
    rw [show i + 1 + q = i + (q + 1) by omega] at e
    exact e
def ck_T (f : Nat → Nat → Nat) : Nat → List (List (Option Nat)) → Prop
  | _, [] => True
  | i, a :: l => ck_r (f i) 0 a ∧ ck_T f (i + 1) l
theorem ck_T_od (f : Nat → Nat → Nat) : ∀ (l : List (List (Option Nat))) (i q j : Nat), ck_T f i l → am_od (f (i + q) j) (am_nth none (am_nth [] l q) j) = f (i + q) j
  | [], _, 0, 0, _ => rfl
  | [], _, 0, _ + 1, _ => rfl
  | [], _, _ + 1, 0, _ => rfl
  | [], _, _ + 1, _ + 1, _ => rfl
  | a :: _, i, 0, j, h => by
    have e := ck_r_od (f i) a 0 j h.1
    rw [Nat.zero_add] at e
    exact e
  | _ :: l, i, q + 1, j, h => by
    have e := ck_T_od f l (i + 1) q j h.2
    rw [show i + 1 + q = i + (q + 1) by omega] at e
    exact e
theorem ck_T_all {f : Nat → Nat → Nat} (h : ck_T f 0 am_RO) : am_r f = f := funext fun r => funext fun j => by
  have e := ck_T_od f am_RO 0 r j h
  rw [Nat.zero_add] at e
  exact e
set_option maxRecDepth 20000 in
theorem k0_1 : w0_k L 1 = (40, 0) := rfl
set_option maxRecDepth 20000 in
theorem k0_2 : w0_k L 2 = (40, 0) := rfl
set_option maxRecDepth 20000 in
theorem k0_3 : w0_k L 3 = (40, 0) := rfl
set_option maxRecDepth 20000 in
theorem k0_4 : w0_k L 4 = (40, 0) := rfl
set_option maxRecDepth 20000 in
theorem k0_5 : w0_k L 5 = (40, 0) := rfl
set_option maxRecDepth 20000 in
theorem k0_6 : w0_k L 6 = (40, 0) := rfl
set_option maxRecDepth 20000 in
theorem k0_7 : w0_k L 7 = (52, 3) := rfl
set_option maxRecDepth 20000 in
theorem k0_8 : w0_k L 8 = (52, 6) := rfl
set_option maxRecDepth 20000 in
theorem k0_9 : w0_k L 9 = (52, 4) := rfl
set_option maxRecDepth 20000 in
theorem k0_10 : w0_k L 10 = (52, 2) := rfl
set_option maxRecDepth 20000 in
theorem k0_11 : w0_k L 11 = (52, 3) := rfl
set_option maxRecDepth 20000 in
theorem k0_12 : w0_k L 12 = (52, 2) := rfl
set_option maxRecDepth 20000 in
theorem k0_14 : w0_k L 14 = (50, 6) := rfl
set_option maxRecDepth 20000 in
theorem k0_15 : w0_k L 15 = (54, 6) := rfl
set_option maxRecDepth 20000 in
theorem k0_20 : w0_k L 20 = (7, 11) := rfl
set_option maxRecDepth 20000 in
theorem k0_21 : w0_k L 21 = (2, 14) := rfl
set_option maxRecDepth 20000 in
theorem k0_22 : w0_k L 22 = (31, 10) := rfl
set_option maxRecDepth 20000 in
theorem k0_23 : w0_k L 23 = (20, 6) := rfl
set_option maxRecDepth 20000 in
theorem k0_24 : w0_k L 24 = (20, 6) := rfl
set_option maxRecDepth 20000 in
theorem k0_25 : w0_k L 25 = (36, 14) := rfl
set_option maxRecDepth 20000 in
theorem k0_26 : w0_k L 26 = (20, 3) := rfl
set_option maxRecDepth 20000 in
theorem k0_27 : w0_k L 27 = (1, 5) := rfl
set_option maxRecDepth 20000 in
theorem k0_28 : w0_k L 28 = (1, 5) := rfl
set_option maxRecDepth 20000 in
theorem k0_29 : w0_k L 29 = (1, 5) := rfl
set_option maxRecDepth 20000 in
theorem k0_30 : w0_k L 30 = (1, 5) := rfl
set_option maxRecDepth 20000 in
theorem k0_31 : w0_k L 31 = (1, 5) := rfl
set_option maxRecDepth 20000 in
theorem k0_32 : w0_k L 32 = (1, 5) := rfl
set_option maxRecDepth 20000 in
theorem k0_33 : w0_k L 33 = (1, 5) := rfl
set_option maxRecDepth 20000 in
theorem k0_34 : w0_k L 34 = (1, 5) := rfl
set_option maxRecDepth 20000 in
theorem k0_35 : w0_k L 35 = (1, 5) := rfl
set_option maxRecDepth 20000 in
theorem k0_36 : w0_k L 36 = (1, 5) := rfl
set_option maxRecDepth 20000 in
theorem k0_37 : w0_k L 37 = (2, 14) := rfl
set_option maxRecDepth 20000 in
theorem k0_38 : w0_k L 38 = (31, 10) := rfl
set_option maxRecDepth 20000 in
theorem k0_39 : w0_k L 39 = (20, 6) := rfl
set_option maxRecDepth 20000 in
theorem k0_40 : w0_k L 40 = (20, 6) := rfl
set_option maxRecDepth 20000 in
theorem k0_41 : w0_k L 41 = (36, 14) := rfl
set_option maxRecDepth 20000 in
theorem k0_42 : w0_k L 42 = (20, 3) := rfl
set_option maxRecDepth 20000 in
theorem k0_43 : w0_k L 43 = (1, 5) := rfl
set_option maxRecDepth 20000 in
theorem k0_44 : w0_k L 44 = (1, 5) := rfl
set_option maxRecDepth 20000 in
theorem k0_45 : w0_k L 45 = (1, 5) := rfl
set_option maxRecDepth 20000 in
theorem k0_46 : w0_k L 46 = (1, 5) := rfl
set_option maxRecDepth 20000 in
theorem k0_47 : w0_k L 47 = (1, 5) := rfl
set_option maxRecDepth 20000 in
theorem k0_48 : w0_k L 48 = (1, 5) := rfl
set_option maxRecDepth 20000 in
theorem k0_49 : w0_k L 49 = (1, 5) := rfl
set_option maxRecDepth 20000 in
theorem k0_50 : w0_k L 50 = (1, 5) := rfl
set_option maxRecDepth 20000 in
theorem k0_51 : w0_k L 51 = (1, 5) := rfl
set_option maxRecDepth 20000 in
theorem k0_52 : w0_k L 52 = (1, 5) := rfl
set_option maxRecDepth 20000 in
theorem k0_53 : w0_k L 53 = (2, 14) := rfl
set_option maxRecDepth 20000 in
theorem k0_54 : w0_k L 54 = (31, 10) := rfl
set_option maxRecDepth 20000 in
theorem k0_55 : w0_k L 55 = (20, 6) := rfl
set_option maxRecDepth 20000 in
theorem k0_56 : w0_k L 56 = (20, 6) := rfl
set_option maxRecDepth 20000 in
theorem k0_57 : w0_k L 57 = (36, 14) := rfl
set_option maxRecDepth 20000 in
theorem k0_58 : w0_k L 58 = (20, 3) := rfl
set_option maxRecDepth 20000 in
theorem k0_59 : w0_k L 59 = (1, 5) := rfl
set_option maxRecDepth 20000 in
theorem k0_60 : w0_k L 60 = (1, 5) := rfl
set_option maxRecDepth 20000 in
theorem k0_61 : w0_k L 61 = (1, 5) := rfl
set_option maxRecDepth 20000 in
theorem k0_62 : w0_k L 62 = (1, 5) := rfl
set_option maxRecDepth 20000 in
theorem k0_63 : w0_k L 63 = (1, 5) := rfl
set_option maxRecDepth 20000 in
theorem k0_64 : w0_k L 64 = (1, 5) := rfl
set_option maxRecDepth 20000 in
theorem k0_65 : w0_k L 65 = (1, 5) := rfl
set_option maxRecDepth 20000 in
theorem k0_66 : w0_k L 66 = (1, 5) := rfl
set_option maxRecDepth 20000 in
theorem k0_67 : w0_k L 67 = (1, 5) := rfl
set_option maxRecDepth 20000 in
theorem k0_68 : w0_k L 68 = (1, 5) := rfl
set_option maxRecDepth 20000 in
theorem k0_69 : w0_k L 69 = (0, 4) := rfl
set_option maxRecDepth 20000 in
theorem k0_70 : w0_k L 70 = (24, 64) := rfl
set_option maxRecDepth 20000 in
theorem k0_71 : w0_k L 71 = (24, 6) := rfl
set_option maxRecDepth 20000 in
theorem k0_72 : w0_k L 72 = (5, 11) := rfl
set_option maxRecDepth 20000 in
theorem k0_73 : w0_k L 73 = (20, 96) := rfl
set_option maxRecDepth 20000 in
theorem k0_74 : w0_k L 74 = (20, 96) := rfl
set_option maxRecDepth 20000 in
theorem k0_75 : w0_k L 75 = (33, 4) := rfl
set_option maxRecDepth 20000 in
theorem k0_76 : w0_k L 76 = (34, 5) := rfl
set_option maxRecDepth 20000 in
theorem k0_77 : w0_k L 77 = (20, 60) := rfl
set_option maxRecDepth 20000 in
theorem k0_78 : w0_k L 78 = (20, 10) := rfl
set_option maxRecDepth 20000 in
theorem k0_79 : w0_k L 79 = (3, 3) := rfl
set_option maxRecDepth 20000 in
theorem k0_80 : w0_k L 80 = (20, 24) := rfl
set_option maxRecDepth 20000 in
theorem k0_81 : w0_k L 81 = (3, 3) := rfl
set_option maxRecDepth 20000 in
theorem k0_82 : w0_k L 82 = (20, 24) := rfl
set_option maxRecDepth 20000 in
theorem k0_83 : w0_k L 83 = (3, 3) := rfl
set_option maxRecDepth 20000 in
theorem k0_84 : w0_k L 84 = (20, 24) := rfl
set_option maxRecDepth 20000 in
theorem k0_85 : w0_k L 85 = (3, 3) := rfl
set_option maxRecDepth 20000 in
theorem k0_86 : w0_k L 86 = (20, 24) := rfl
set_option maxRecDepth 20000 in
theorem k0_87 : w0_k L 87 = (4, 4) := rfl
set_option maxRecDepth 20000 in
theorem k0_88 : w0_k L 88 = (1, 5) := rfl
set_option maxRecDepth 20000 in
theorem k0_89 : w0_k L 89 = (3, 3) := rfl
set_option maxRecDepth 20000 in
theorem k0_90 : w0_k L 90 = (20, 24) := rfl
set_option maxRecDepth 20000 in
theorem k0_91 : w0_k L 91 = (4, 4) := rfl
set_option maxRecDepth 20000 in
theorem k0_92 : w0_k L 92 = (1, 5) := rfl
set_option maxRecDepth 20000 in
theorem k0_93 : w0_k L 93 = (3, 3) := rfl
set_option maxRecDepth 20000 in
theorem k0_94 : w0_k L 94 = (20, 24) := rfl
set_option maxRecDepth 20000 in
theorem k0_95 : w0_k L 95 = (4, 4) := rfl
set_option maxRecDepth 20000 in
theorem k0_96 : w0_k L 96 = (1, 5) := rfl
set_option maxRecDepth 20000 in
theorem k0_97 : w0_k L 97 = (3, 3) := rfl
set_option maxRecDepth 20000 in
theorem k0_98 : w0_k L 98 = (20, 24) := rfl
set_option maxRecDepth 20000 in
theorem k0_99 : w0_k L 99 = (4, 4) := rfl
set_option maxRecDepth 20000 in
theorem k0_100 : w0_k L 100 = (1, 5) := rfl
set_option maxRecDepth 20000 in
theorem k0_101 : w0_k L 101 = (3, 3) := rfl
set_option maxRecDepth 20000 in
theorem k0_102 : w0_k L 102 = (20, 24) := rfl
set_option maxRecDepth 20000 in
theorem k0_103 : w0_k L 103 = (4, 4) := rfl
set_option maxRecDepth 20000 in
theorem k0_104 : w0_k L 104 = (1, 5) := rfl
set_option maxRecDepth 20000 in
theorem k0_105 : w0_k L 105 = (3, 3) := rfl
set_option maxRecDepth 20000 in
theorem k0_106 : w0_k L 106 = (20, 24) := rfl
set_option maxRecDepth 20000 in
theorem k0_107 : w0_k L 107 = (8, 38) := rfl
set_option maxRecDepth 20000 in
theorem k0_108 : w0_k L 108 = (20, 1448) := rfl
set_option maxRecDepth 20000 in
theorem k0_109 : w0_k L 109 = (20, 1448) := rfl
set_option maxRecDepth 20000 in
theorem k0_110 : w0_k L 110 = (20, 1448) := rfl
set_option maxRecDepth 20000 in
theorem k0_111 : w0_k L 111 = (20, 11) := rfl
set_option maxRecDepth 20000 in
theorem k0_112 : w0_k L 112 = (21, 11) := rfl
set_option maxRecDepth 20000 in
theorem k0_113 : w0_k L 113 = (20, 7168) := rfl
set_option maxRecDepth 20000 in
theorem k0_114 : w0_k L 114 = (20, 6) := rfl
set_option maxRecDepth 20000 in
theorem k0_115 : w0_k L 115 = (20, 76) := rfl
set_option maxRecDepth 20000 in
theorem k0_116 : w0_k L 116 = (24, 10) := rfl
set_option maxRecDepth 20000 in
theorem k0_117 : w0_k L 117 = (20, 96) := rfl
set_option maxRecDepth 20000 in
theorem k0_118 : w0_k L 118 = (23, 13) := rfl
set_option maxRecDepth 20000 in
theorem k0_119 : w0_k L 119 = (20, 4) := rfl
set_option maxRecDepth 20000 in
theorem k0_120 : w0_k L 120 = (20, 96) := rfl
set_option maxRecDepth 20000 in
theorem k0_121 : w0_k L 121 = (20, 96) := rfl
set_option maxRecDepth 20000 in
theorem k0_122 : w0_k L 122 = (21, 10) := rfl
set_option maxRecDepth 20000 in
theorem k0_123 : w0_k L 123 = (20, 96) := rfl
set_option maxRecDepth 20000 in
theorem k0_124 : w0_k L 124 = (20, 4) := rfl
set_option maxRecDepth 20000 in
theorem k0_125 : w0_k L 125 = (20, 4) := rfl
set_option maxRecDepth 20000 in
theorem k0_126 : w0_k L 126 = (20, 4) := rfl
set_option maxRecDepth 20000 in
theorem k0_127 : w0_k L 127 = (20, 96) := rfl
set_option maxRecDepth 20000 in
theorem k0_128 : w0_k L 128 = (20, 5) := rfl
set_option maxRecDepth 20000 in
theorem k0_129 : w0_k L 129 = (20, 5) := rfl
set_option maxRecDepth 20000 in
theorem k0_130 : w0_k L 130 = (20, 5) := rfl
set_option maxRecDepth 20000 in
theorem k0_131 : w0_k L 131 = (20, 120) := rfl
set_option maxRecDepth 20000 in
theorem k0_132 : w0_k L 132 = (20, 24) := rfl
set_option maxRecDepth 20000 in
theorem k0_133 : w0_k L 133 = (20, 60) := rfl
set_option maxRecDepth 20000 in
theorem w0_kk : am_k (w0_k L) = w0_k L := ck_k_all ⟨k0_1, k0_2, k0_3, k0_4, k0_5, k0_6, k0_7, k0_8, k0_9, k0_10, k0_11, k0_12, k0_14, k0_15, k0_20, k0_21, k0_22, k0_23, k0_24, k0_25, k0_26, k0_27, k0_28, k0_29, k0_30, k0_31, k0_32, k0_33, k0_34, k0_35, k0_36, k0_37, k0_38, k0_39, k0_40, k0_41, k0_42, k0_43, k0_44, k0_45, k0_46, k0_47, k0_48, k0_49, k0_50, k0_51, k0_52, k0_53, k0_54, k0_55, k0_56, k0_57, k0_58, k0_59, k0_60, k0_61, k0_62, k0_63, k0_64, k0_65, k0_66, k0_67, k0_68, k0_69, k0_70, k0_71, k0_72, k0_73, k0_74, k0_75, k0_76, k0_77, k0_78, k0_79, k0_80, k0_81, k0_82, k0_83, k0_84, k0_85, k0_86, k0_87, k0_88, k0_89, k0_90, k0_91, k0_92, k0_93, k0_94, k0_95, k0_96, k0_97, k0_98, k0_99, k0_100, k0_101, k0_102, k0_103, k0_104, k0_105, k0_106, k0_107, k0_108, k0_109, k0_110, k0_111, k0_112, k0_113, k0_114, k0_115, k0_116, k0_117, k0_118, k0_119, k0_120, k0_121, k0_122, k0_123, k0_124, k0_125, k0_126, k0_127, k0_128, k0_129, k0_130, k0_131, k0_132, k0_133, trivial⟩
set_option maxRecDepth 20000 in
theorem r0_20_0 : w0_T 20 0 = 21 := rfl
set_option maxRecDepth 20000 in
theorem r0_20_1 : w0_T 20 1 = 37 := rfl
set_option maxRecDepth 20000 in
theorem r0_20_2 : w0_T 20 2 = 53 := rfl
set_option maxRecDepth 20000 in
theorem r0_20_4 : w0_T 20 4 = 69 := rfl
set_option maxRecDepth 20000 in
theorem r0_20_5 : w0_T 20 5 = 72 := rfl
set_option maxRecDepth 20000 in
theorem r0_20_6 : w0_T 20 6 = 75 := rfl
set_option maxRecDepth 20000 in
theorem r0_20_7 : w0_T 20 7 = 76 := rfl
set_option maxRecDepth 20000 in
theorem r0_20_8 : w0_T 20 8 = 77 := rfl
set_option maxRecDepth 20000 in
theorem r0_20_10 : w0_T 20 10 = 78 := rfl
set_option maxRecDepth 20000 in
theorem r0_21_0 : w0_T 21 0 = 22 := rfl
set_option maxRecDepth 20000 in
theorem r0_21_2 : w0_T 21 2 = 23 := rfl
set_option maxRecDepth 20000 in
theorem r0_21_3 : w0_T 21 3 = 24 := rfl
set_option maxRecDepth 20000 in
theorem r0_21_5 : w0_T 21 5 = 25 := rfl
set_option maxRecDepth 20000 in
theorem r0_21_7 : w0_T 21 7 = 26 := rfl
set_option maxRecDepth 20000 in
theorem r0_22_0 : w0_T 22 0 = 27 := rfl
set_option maxRecDepth 20000 in
theorem r0_22_1 : w0_T 22 1 = 28 := rfl
set_option maxRecDepth 20000 in
theorem r0_22_2 : w0_T 22 2 = 29 := rfl
set_option maxRecDepth 20000 in
theorem r0_22_3 : w0_T 22 3 = 30 := rfl
set_option maxRecDepth 20000 in
theorem r0_22_4 : w0_T 22 4 = 31 := rfl
set_option maxRecDepth 20000 in
theorem r0_22_5 : w0_T 22 5 = 32 := rfl
set_option maxRecDepth 20000 in
theorem r0_22_6 : w0_T 22 6 = 33 := rfl
set_option maxRecDepth 20000 in
theorem r0_22_7 : w0_T 22 7 = 34 := rfl
set_option maxRecDepth 20000 in
theorem r0_22_8 : w0_T 22 8 = 35 := rfl
set_option maxRecDepth 20000 in
theorem r0_22_9 : w0_T 22 9 = 36 := rfl
set_option maxRecDepth 20000 in
theorem r0_37_0 : w0_T 37 0 = 38 := rfl
set_option maxRecDepth 20000 in
theorem r0_37_2 : w0_T 37 2 = 39 := rfl
set_option maxRecDepth 20000 in
theorem r0_37_3 : w0_T 37 3 = 40 := rfl
set_option maxRecDepth 20000 in
theorem r0_37_5 : w0_T 37 5 = 41 := rfl
set_option maxRecDepth 20000 in
theorem r0_37_7 : w0_T 37 7 = 42 := rfl
set_option maxRecDepth 20000 in
theorem r0_38_0 : w0_T 38 0 = 43 := rfl
set_option maxRecDepth 20000 in
theorem r0_38_1 : w0_T 38 1 = 44 := rfl
set_option maxRecDepth 20000 in
theorem r0_38_2 : w0_T 38 2 = 45 := rfl
set_option maxRecDepth 20000 in
theorem r0_38_3 : w0_T 38 3 = 46 := rfl
set_option maxRecDepth 20000 in
theorem r0_38_4 : w0_T 38 4 = 47 := rfl
set_option maxRecDepth 20000 in
theorem r0_38_5 : w0_T 38 5 = 48 := rfl
set_option maxRecDepth 20000 in
theorem r0_38_6 : w0_T 38 6 = 49 := rfl
set_option maxRecDepth 20000 in
theorem r0_38_7 : w0_T 38 7 = 50 := rfl
set_option maxRecDepth 20000 in
theorem r0_38_8 : w0_T 38 8 = 51 := rfl
set_option maxRecDepth 20000 in
theorem r0_38_9 : w0_T 38 9 = 52 := rfl
set_option maxRecDepth 20000 in
theorem r0_53_0 : w0_T 53 0 = 54 := rfl
set_option maxRecDepth 20000 in
theorem r0_53_2 : w0_T 53 2 = 55 := rfl
set_option maxRecDepth 20000 in
theorem r0_53_3 : w0_T 53 3 = 56 := rfl
set_option maxRecDepth 20000 in
theorem r0_53_5 : w0_T 53 5 = 57 := rfl
set_option maxRecDepth 20000 in
theorem r0_53_7 : w0_T 53 7 = 58 := rfl
set_option maxRecDepth 20000 in
theorem r0_54_0 : w0_T 54 0 = 59 := rfl
set_option maxRecDepth 20000 in
theorem r0_54_1 : w0_T 54 1 = 60 := rfl
set_option maxRecDepth 20000 in
theorem r0_54_2 : w0_T 54 2 = 61 := rfl
set_option maxRecDepth 20000 in
theorem r0_54_3 : w0_T 54 3 = 62 := rfl
set_option maxRecDepth 20000 in
theorem r0_54_4 : w0_T 54 4 = 63 := rfl
set_option maxRecDepth 20000 in
theorem r0_54_5 : w0_T 54 5 = 64 := rfl
set_option maxRecDepth 20000 in
theorem r0_54_6 : w0_T 54 6 = 65 := rfl
set_option maxRecDepth 20000 in
theorem r0_54_7 : w0_T 54 7 = 66 := rfl
set_option maxRecDepth 20000 in
theorem r0_54_8 : w0_T 54 8 = 67 := rfl
set_option maxRecDepth 20000 in
theorem r0_54_9 : w0_T 54 9 = 68 := rfl
set_option maxRecDepth 20000 in
theorem r0_69_0 : w0_T 69 0 = 70 := rfl
set_option maxRecDepth 20000 in
theorem r0_69_1 : w0_T 69 1 = 71 := rfl
set_option maxRecDepth 20000 in
theorem r0_72_0 : w0_T 72 0 = 73 := rfl
set_option maxRecDepth 20000 in
theorem r0_72_9 : w0_T 72 9 = 74 := rfl
set_option maxRecDepth 20000 in
theorem r0_75_0 : w0_T 75 0 = 79 := rfl
set_option maxRecDepth 20000 in
theorem r0_75_1 : w0_T 75 1 = 81 := rfl
set_option maxRecDepth 20000 in
theorem r0_75_2 : w0_T 75 2 = 83 := rfl
set_option maxRecDepth 20000 in
theorem r0_75_3 : w0_T 75 3 = 85 := rfl
set_option maxRecDepth 20000 in
theorem r0_76_0 : w0_T 76 0 = 87 := rfl
set_option maxRecDepth 20000 in
theorem r0_76_1 : w0_T 76 1 = 91 := rfl
set_option maxRecDepth 20000 in
theorem r0_76_2 : w0_T 76 2 = 95 := rfl
set_option maxRecDepth 20000 in
theorem r0_76_3 : w0_T 76 3 = 99 := rfl
set_option maxRecDepth 20000 in
theorem r0_76_4 : w0_T 76 4 = 103 := rfl
set_option maxRecDepth 20000 in
theorem r0_79_2 : w0_T 79 2 = 80 := rfl
set_option maxRecDepth 20000 in
theorem r0_81_2 : w0_T 81 2 = 82 := rfl
set_option maxRecDepth 20000 in
theorem r0_83_2 : w0_T 83 2 = 84 := rfl
set_option maxRecDepth 20000 in
theorem r0_85_2 : w0_T 85 2 = 86 := rfl
set_option maxRecDepth 20000 in
theorem r0_87_2 : w0_T 87 2 = 88 := rfl
set_option maxRecDepth 20000 in
theorem r0_87_3 : w0_T 87 3 = 89 := rfl
set_option maxRecDepth 20000 in
theorem r0_89_2 : w0_T 89 2 = 90 := rfl
set_option maxRecDepth 20000 in
theorem r0_91_2 : w0_T 91 2 = 92 := rfl
set_option maxRecDepth 20000 in
theorem r0_91_3 : w0_T 91 3 = 93 := rfl
set_option maxRecDepth 20000 in
theorem r0_93_2 : w0_T 93 2 = 94 := rfl
set_option maxRecDepth 20000 in
theorem r0_95_2 : w0_T 95 2 = 96 := rfl
set_option maxRecDepth 20000 in
theorem r0_95_3 : w0_T 95 3 = 97 := rfl
set_option maxRecDepth 20000 in
theorem r0_97_2 : w0_T 97 2 = 98 := rfl
set_option maxRecDepth 20000 in
theorem r0_99_2 : w0_T 99 2 = 100 := rfl
set_option maxRecDepth 20000 in
theorem r0_99_3 : w0_T 99 3 = 101 := rfl
set_option maxRecDepth 20000 in
theorem r0_101_2 : w0_T 101 2 = 102 := rfl
set_option maxRecDepth 20000 in
theorem r0_103_2 : w0_T 103 2 = 104 := rfl
set_option maxRecDepth 20000 in
theorem r0_103_3 : w0_T 103 3 = 105 := rfl
set_option maxRecDepth 20000 in
theorem r0_105_2 : w0_T 105 2 = 106 := rfl
set_option maxRecDepth 20000 in
theorem r0_107_0 : w0_T 107 0 = 108 := rfl
set_option maxRecDepth 20000 in
theorem r0_107_1 : w0_T 107 1 = 109 := rfl
set_option maxRecDepth 20000 in
theorem r0_107_2 : w0_T 107 2 = 110 := rfl
set_option maxRecDepth 20000 in
theorem r0_107_4 : w0_T 107 4 = 111 := rfl
set_option maxRecDepth 20000 in
theorem r0_107_5 : w0_T 107 5 = 112 := rfl
set_option maxRecDepth 20000 in
theorem r0_107_6 : w0_T 107 6 = 113 := rfl
set_option maxRecDepth 20000 in
theorem r0_107_7 : w0_T 107 7 = 114 := rfl
set_option maxRecDepth 20000 in
theorem r0_107_8 : w0_T 107 8 = 115 := rfl
set_option maxRecDepth 20000 in
theorem r0_107_9 : w0_T 107 9 = 116 := rfl
set_option maxRecDepth 20000 in
theorem r0_107_10 : w0_T 107 10 = 117 := rfl
set_option maxRecDepth 20000 in
theorem r0_107_18 : w0_T 107 18 = 118 := rfl
set_option maxRecDepth 20000 in
theorem r0_107_19 : w0_T 107 19 = 119 := rfl
set_option maxRecDepth 20000 in
theorem r0_107_20 : w0_T 107 20 = 120 := rfl
set_option maxRecDepth 20000 in
theorem r0_107_23 : w0_T 107 23 = 121 := rfl
set_option maxRecDepth 20000 in
theorem r0_107_25 : w0_T 107 25 = 122 := rfl
set_option maxRecDepth 20000 in
theorem r0_107_26 : w0_T 107 26 = 123 := rfl
set_option maxRecDepth 20000 in
theorem r0_107_27 : w0_T 107 27 = 124 := rfl
set_option maxRecDepth 20000 in
theorem r0_107_28 : w0_T 107 28 = 125 := rfl
set_option maxRecDepth 20000 in
theorem r0_107_29 : w0_T 107 29 = 126 := rfl
set_option maxRecDepth 20000 in
theorem r0_107_30 : w0_T 107 30 = 127 := rfl
set_option maxRecDepth 20000 in
theorem r0_107_31 : w0_T 107 31 = 128 := rfl
set_option maxRecDepth 20000 in
theorem r0_107_32 : w0_T 107 32 = 129 := rfl
set_option maxRecDepth 20000 in
theorem r0_107_33 : w0_T 107 33 = 130 := rfl
set_option maxRecDepth 20000 in
theorem r0_107_34 : w0_T 107 34 = 131 := rfl
set_option maxRecDepth 20000 in
theorem r0_107_35 : w0_T 107 35 = 132 := rfl
set_option maxRecDepth 20000 in
theorem r0_107_36 : w0_T 107 36 = 133 := rfl
set_option maxRecDepth 20000 in
theorem w0_rr : am_r w0_T = w0_T := ck_T_all ⟨trivial, trivial, trivial, trivial, trivial, trivial, trivial, trivial, trivial, trivial, trivial, trivial, trivial, trivial, trivial, trivial, trivial, trivial, trivial, trivial, ⟨r0_20_0, r0_20_1, r0_20_2, r0_20_4, r0_20_5, r0_20_6, r0_20_7, r0_20_8, r0_20_10, trivial⟩, ⟨r0_21_0, r0_21_2, r0_21_3, r0_21_5, r0_21_7, trivial⟩, ⟨r0_22_0, r0_22_1, r0_22_2, r0_22_3, r0_22_4, r0_22_5, r0_22_6, r0_22_7, r0_22_8, r0_22_9, trivial⟩, trivial, trivial, trivial, trivial, trivial, trivial, trivial, trivial, trivial, trivial, trivial, trivial, trivial, trivial, ⟨r0_37_0, r0_37_2, r0_37_3, r0_37_5, r0_37_7, trivial⟩, ⟨r0_38_0, r0_38_1, r0_38_2, r0_38_3, r0_38_4, r0_38_5, r0_38_6, r0_38_7, r0_38_8, r0_38_9, trivial⟩, trivial, trivial, trivial, trivial, trivial, trivial, trivial, trivial, trivial, trivial, trivial, trivial, trivial, trivial, ⟨r0_53_0, r0_53_2, r0_53_3, r0_53_5, r0_53_7, trivial⟩, ⟨r0_54_0, r0_54_1, r0_54_2, r0_54_3, r0_54_4, r0_54_5, r0_54_6, r0_54_7, r0_54_8, r0_54_9, trivial⟩, trivial, trivial, trivial, trivial, trivial, trivial, trivial, trivial, trivial, trivial, trivial, trivial, trivial, trivial, ⟨r0_69_0, r0_69_1, trivial⟩, trivial, trivial, ⟨r0_72_0, r0_72_9, trivial⟩, trivial, trivial, ⟨r0_75_0, r0_75_1, r0_75_2, r0_75_3, trivial⟩, ⟨r0_76_0, r0_76_1, r0_76_2, r0_76_3, r0_76_4, trivial⟩, trivial, trivial, ⟨r0_79_2, trivial⟩, trivial, ⟨r0_81_2, trivial⟩, trivial, ⟨r0_83_2, trivial⟩, trivial, ⟨r0_85_2, trivial⟩, trivial, ⟨r0_87_2, r0_87_3, trivial⟩, trivial, ⟨r0_89_2, trivial⟩, trivial, ⟨r0_91_2, r0_91_3, trivial⟩, trivial, ⟨r0_93_2, trivial⟩, trivial, ⟨r0_95_2, r0_95_3, trivial⟩, trivial, ⟨r0_97_2, trivial⟩, trivial, ⟨r0_99_2, r0_99_3, trivial⟩, trivial, ⟨r0_101_2, trivial⟩, trivial, ⟨r0_103_2, r0_103_3, trivial⟩, trivial, ⟨r0_105_2, trivial⟩, trivial, ⟨r0_107_0, r0_107_1, r0_107_2, r0_107_4, r0_107_5, r0_107_6, r0_107_7, r0_107_8, r0_107_9, r0_107_10, r0_107_18, r0_107_19, r0_107_20, r0_107_23, r0_107_25, r0_107_26, r0_107_27, r0_107_28, r0_107_29, r0_107_30, r0_107_31, r0_107_32, r0_107_33, r0_107_34, r0_107_35, r0_107_36, trivial⟩, trivial, trivial, trivial, trivial, trivial, trivial, trivial, trivial, trivial, trivial, trivial, trivial, trivial, trivial, trivial, trivial, trivial, trivial, trivial, trivial, trivial, trivial, trivial, trivial, trivial, trivial, trivial⟩
end T99s
