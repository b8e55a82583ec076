/-! the memory behind the constructors: what of it stays -/
section AM17
def am_KO : List (Option (Nat × Nat)) := [none, some (40, 0), some (40, 0), some (40, 0), some (40, 0), some (40, 0), some (40, 0), some (52, 3), some (52, 6), some (52, 4), some (52, 2), some (52, 3), some (52, 2), none, some (50, 6), some (54, 6), none, none, none, none, some (7, 11), some (2, 14), some (31, 10), some (20, 6), some (20, 6), some (36, 14), some (20, 3), some (1, 5), some (1, 5), some (1, 5), some (1, 5), some (1, 5), some (1, 5), some (1, 5), some (1, 5), some (1, 5), some (1, 5), some (2, 14), some (31, 10), some (20, 6), some (20, 6), some (36, 14), some (20, 3), some (1, 5), some (1, 5), some (1, 5), some (1, 5), some (1, 5), some (1, 5), some (1, 5), some (1, 5), some (1, 5), some (1, 5), some (2, 14), some (31, 10), some (20, 6), some (20, 6), some (36, 14), some (20, 3), some (1, 5), some (1, 5), some (1, 5), some (1, 5), some (1, 5), some (1, 5), some (1, 5), some (1, 5), some (1, 5), some (1, 5), some (0, 4), some (24, 64), some (24, 6), some (5, 11), some (20, 96), some (20, 96), some (33, 4), some (34, 5), some (20, 60), some (20, 10), some (3, 3), some (20, 24), some (3, 3), some (20, 24), some (3, 3), some (20, 24), some (3, 3), some (20, 24), some (4, 4), some (1, 5), some (3, 3), some (20, 24), some (4, 4), some (1, 5), some (3, 3), some (20, 24), some (4, 4), some (1, 5), some (3, 3), some (20, 24), some (4, 4), some (1, 5), some (3, 3), some (20, 24), some (4, 4), some (1, 5), some (3, 3), some (20, 24), some (8, 38), some (20, 1448), some (20, 1448), some (20, 1448), some (20, 11), some (21, 11), some (20, 7168), some (20, 6), some (20, 76), some (24, 10), some (20, 96), some (23, 13), some (20, 4), some (20, 96), some (20, 96), some (21, 10), some (20, 96), some (20, 4), some (20, 4), some (20, 4), some (20, 96), some (20, 5), some (20, 5), some (20, 5), some (20, 120), some (20, 24), some (20, 60)]
def am_RO : List (List (Option Nat)) := [[], [], [], [], [], [], [], [], [], [], [], [], [], [], [], [], [], [], [], [], [some 21, some 37, some 53, none, some 69, some 72, some 75, some 76, some 77, none, some 78], [some 22, none, some 23, some 24, none, some 25, none, some 26], [some 27, some 28, some 29, some 30, some 31, some 32, some 33, some 34, some 35, some 36], [], [], [], [], [], [], [], [], [], [], [], [], [], [], [some 38, none, some 39, some 40, none, some 41, none, some 42], [some 43, some 44, some 45, some 46, some 47, some 48, some 49, some 50, some 51, some 52], [], [], [], [], [], [], [], [], [], [], [], [], [], [], [some 54, none, some 55, some 56, none, some 57, none, some 58], [some 59, some 60, some 61, some 62, some 63, some 64, some 65, some 66, some 67, some 68], [], [], [], [], [], [], [], [], [], [], [], [], [], [], [some 70, some 71], [], [], [some 73, none, none, none, none, none, none, none, none, some 74], [], [], [some 79, some 81, some 83, some 85], [some 87, some 91, some 95, some 99, some 103], [], [], [none, none, some 80], [], [none, none, some 82], [], [none, none, some 84], [], [none, none, some 86], [], [none, none, some 88, some 89], [], [none, none, some 90], [], [none, none, some 92, some 93], [], [none, none, some 94], [], [none, none, some 96, some 97], [], [none, none, some 98], [], [none, none, some 100, some 101], [], [none, none, some 102], [], [none, none, some 104, some 105], [], [none, none, some 106], [], [some 108, some 109, some 110, none, some 111, some 112, some 113, some 114, some 115, some 116, some 117, none, none, none, none, none, none, none, some 118, some 119, some 120, none, none, some 121, none, some 122, some 123, some 124, some 125, some 126, some 127, some 128, some 129, some 130, some 131, some 132, some 133], [], [], [], [], [], [], [], [], [], [], [], [], [], [], [], [], [], [], [], [], [], [], [], [], [], []]
def am_od {α : Type} (d : α) : Option α → α
  | some x => x
  | none => d
/-- kinds: those that stay, and kt -/
def am_k (kt : Nat → Nat × Nat) : Nat → Nat × Nat := fun r => am_od (kt r) (am_nth none am_KO r)
/-- references: those that stay, and T -/
def am_r (T : Nat → Nat → Nat) : Nat → Nat → Nat := fun a k => am_od (T a k) (am_nth none (am_nth [] am_RO a) k)
abbrev am_mk (kt : Nat → Nat × Nat) (I : Nat → Nat → Int32) (J : Nat → Nat → Int64) (T : Nat → Nat → Nat) (n s : Nat) : am_M := (am_k kt, I, J, am_r T, n, s)
theorem rs_20_0 (kt : Nat → Nat × Nat) (I : Nat → Nat → Int32) (J : Nat → Nat → Int64) (T : Nat → Nat → Nat) (n s : Nat) : am_R (am_k kt, I, J, am_r T, n, s) 20 0 = 21 := rfl
theorem rs_20_1 (kt : Nat → Nat × Nat) (I : Nat → Nat → Int32) (J : Nat → Nat → Int64) (T : Nat → Nat → Nat) (n s : Nat) : am_R (am_k kt, I, J, am_r T, n, s) 20 1 = 37 := rfl
theorem rs_20_2 (kt : Nat → Nat × Nat) (I : Nat → Nat → Int32) (J : Nat → Nat → Int64) (T : Nat → Nat → Nat) (n s : Nat) : am_R (am_k kt, I, J, am_r T, n, s) 20 2 = 53 := rfl
theorem rs_20_4 (kt : Nat → Nat × Nat) (I : Nat → Nat → Int32) (J : Nat → Nat → Int64) (T : Nat → Nat → Nat) (n s : Nat) : am_R (am_k kt, I, J, am_r T, n, s) 20 4 = 69 := rfl
theorem rs_20_5 (kt : Nat → Nat × Nat) (I : Nat → Nat → Int32) (J : Nat → Nat → Int64) (T : Nat → Nat → Nat) (n s : Nat) : am_R (am_k kt, I, J, am_r T, n, s) 20 5 = 72 := rfl
theorem rs_20_6 (kt : Nat → Nat × Nat) (I : Nat → Nat → Int32) (J : Nat → Nat → Int64) (T : Nat → Nat → Nat) (n s : Nat) : am_R (am_k kt, I, J, am_r T, n, s) 20 6 = 75 := rfl
theorem rs_20_7 (kt : Nat → Nat × Nat) (I : Nat → Nat → Int32) (J : Nat → Nat → Int64) (T : Nat → Nat → Nat) (n s : Nat) : am_R (am_k kt, I, J, am_r T, n, s) 20 7 = 76 := rfl
theorem rs_20_8 (kt : Nat → Nat × Nat) (I : Nat → Nat → Int32) (J : Nat → Nat → Int64) (T : Nat → Nat → Nat) (n s : Nat) : am_R (am_k kt, I, J, am_r T, n, s) 20 8 = 77 := rfl
theorem rs_20_10 (kt : Nat → Nat × Nat) (I : Nat → Nat → Int32) (J : Nat → Nat → Int64) (T : Nat → Nat → Nat) (n s : Nat) : am_R (am_k kt, I, J, am_r T, n, s) 20 10 = 78 := rfl
theorem rs_21_0 (kt : Nat → Nat × Nat) (I : Nat → Nat → Int32) (J : Nat → Nat → Int64) (T : Nat → Nat → Nat) (n s : Nat) : am_R (am_k kt, I, J, am_r T, n, s) 21 0 = 22 := rfl
theorem rs_21_2 (kt : Nat → Nat × Nat) (I : Nat → Nat → Int32) (J : Nat → Nat → Int64) (T : Nat → Nat → Nat) (n s : Nat) : am_R (am_k kt, I, J, am_r T, n, s) 21 2 = 23 := rfl
theorem rs_21_3 (kt : Nat → Nat × Nat) (I : Nat → Nat → Int32) (J : Nat → Nat → Int64) (T : Nat → Nat → Nat) (n s : Nat) : am_R (am_k kt, I, J, am_r T, n, s) 21 3 = 24 := rfl
theorem rs_21_5 (kt : Nat → Nat × Nat) (I : Nat → Nat → Int32) (J : Nat → Nat → Int64) (T : Nat → Nat → Nat) (n s : Nat) : am_R (am_k kt, I, J, am_r T, n, s) 21 5 = 25 := rfl
theorem rs_21_7 (kt : Nat → Nat × Nat) (I : Nat → Nat → Int32) (J : Nat → Nat → Int64) (T : Nat → Nat → Nat) (n s : Nat) : am_R (am_k kt, I, J, am_r T, n, s) 21 7 = 26 := rfl
theorem rs_22_0 (kt : Nat → Nat × Nat) (I : Nat → Nat → Int32) (J : Nat → Nat → Int64) (T : Nat → Nat → Nat) (n s : Nat) : am_R (am_k kt, I, J, am_r T, n, s) 22 0 = 27 := rfl
theorem rs_22_1 (kt : Nat → Nat × Nat) (I : Nat → Nat → Int32) (J : Nat → Nat → Int64) (T : Nat → Nat → Nat) (n s : Nat) : am_R (am_k kt, I, J, am_r T, n, s) 22 1 = 28 := rfl
theorem rs_22_2 (kt : Nat → Nat × Nat) (I : Nat → Nat → Int32) (J : Nat → Nat → Int64) (T : Nat → Nat → Nat) (n s : Nat) : am_R (am_k kt, I, J, am_r T, n, s) 22 2 = 29 := rfl
theorem rs_22_3 (kt : Nat → Nat × Nat) (I : Nat → Nat → Int32) (J : Nat → Nat → Int64) (T : Nat → Nat → Nat) (n s : Nat) : am_R (am_k kt, I, J, am_r T, n, s) 22 3 = 30 := rfl
theorem rs_22_4 (kt : Nat → Nat × Nat) (I : Nat → Nat → Int32) (J : Nat → Nat → Int64) (T : Nat → Nat → Nat) (n s : Nat) : am_R (am_k kt, I, J, am_r T, n, s) 22 4 = 31 := rfl
theorem rs_22_5 (kt : Nat → Nat × Nat) (I : Nat → Nat → Int32) (J : Nat → Nat → Int64) (T : Nat → Nat → Nat) (n s : Nat) : am_R (am_k kt, I, J, am_r T, n, s) 22 5 = 32 := rfl
theorem rs_22_6 (kt : Nat → Nat × Nat) (I : Nat → Nat → Int32) (J : Nat → Nat → Int64) (T : Nat → Nat → Nat) (n s : Nat) : am_R (am_k kt, I, J, am_r T, n, s) 22 6 = 33 := rfl
theorem rs_22_7 (kt : Nat → Nat × Nat) (I : Nat → Nat → Int32) (J : Nat → Nat → Int64) (T : Nat → Nat → Nat) (n s : Nat) : am_R (am_k kt, I, J, am_r T, n, s) 22 7 = 34 := rfl
theorem rs_22_8 (kt : Nat → Nat × Nat) (I : Nat → Nat → Int32) (J : Nat → Nat → Int64) (T : Nat → Nat → Nat) (n s : Nat) : am_R (am_k kt, I, J, am_r T, n, s) 22 8 = 35 := rfl
theorem rs_22_9 (kt : Nat → Nat × Nat) (I : Nat → Nat → Int32) (J : Nat → Nat → Int64) (T : Nat → Nat → Nat) (n s : Nat) : am_R (am_k kt, I, J, am_r T, n, s) 22 9 = 36 := rfl
theorem rs_37_0 (kt : Nat → Nat × Nat) (I : Nat → Nat → Int32) (J : Nat → Nat → Int64) (T : Nat → Nat → Nat) (n s : Nat) : am_R (am_k kt, I, J, am_r T, n, s) 37 0 = 38 := rfl
theorem rs_37_2 (kt : Nat → Nat × Nat) (I : Nat → Nat → Int32) (J : Nat → Nat → Int64) (T : Nat → Nat → Nat) (n s : Nat) : am_R (am_k kt, I, J, am_r T, n, s) 37 2 = 39 := rfl
theorem rs_37_3 (kt : Nat → Nat × Nat) (I : Nat → Nat → Int32) (J : Nat → Nat → Int64) (T : Nat → Nat → Nat) (n s : Nat) : am_R (am_k kt, I, J, am_r T, n, s) 37 3 = 40 := rfl
theorem rs_37_5 (kt : Nat → Nat × Nat) (I : Nat → Nat → Int32) (J : Nat → Nat → Int64) (T : Nat → Nat → Nat) (n s : Nat) : am_R (am_k kt, I, J, am_r T, n, s) 37 5 = 41 := rfl
theorem rs_37_7 (kt : Nat → Nat × Nat) (I : Nat → Nat → Int32) (J : Nat → Nat → Int64) (T : Nat → Nat → Nat) (n s : Nat) : am_R (am_k kt, I, J, am_r T, n, s) 37 7 = 42 := rfl
theorem rs_38_0 (kt : Nat → Nat × Nat) (I : Nat → Nat → Int32) (J : Nat → Nat → Int64) (T : Nat → Nat → Nat) (n s : Nat) : am_R (am_k kt, I, J, am_r T, n, s) 38 0 = 43 := rfl
theorem rs_38_1 (kt : Nat → Nat × Nat) (I : Nat → Nat → Int32) (J : Nat → Nat → Int64) (T : Nat → Nat → Nat) (n s : Nat) : am_R (am_k kt, I, J, am_r T, n, s) 38 1 = 44 := rfl
theorem rs_38_2 (kt : Nat → Nat × Nat) (I : Nat → Nat → Int32) (J : Nat → Nat → Int64) (T : Nat → Nat → Nat) (n s : Nat) : am_R (am_k kt, I, J, am_r T, n, s) 38 2 = 45 := rfl
theorem rs_38_3 (kt : Nat → Nat × Nat) (I : Nat → Nat → Int32) (J : Nat → Nat → Int64) (T : Nat → Nat → Nat) (n s : Nat) : am_R (am_k kt, I, J, am_r T, n, s) 38 3 = 46 := rfl
theorem rs_38_4 (kt : Nat → Nat × Nat) (I : Nat → Nat → Int32) (J : Nat → Nat → Int64) (T : Nat → Nat → Nat) (n s : Nat) : am_R (am_k kt, I, J, am_r T, n, s) 38 4 = 47 := rfl
theorem rs_38_5 (kt : Nat → Nat × Nat) (I : Nat → Nat → Int32) (J : Nat → Nat → Int64) (T : Nat → Nat → Nat) (n s : Nat) : am_R (am_k kt, I, J, am_r T, n, s) 38 5 = 48 := rfl
theorem rs_38_6 (kt : Nat → Nat × Nat) (I : Nat → Nat → Int32) (J : Nat → Nat → Int64) (T : Nat → Nat → Nat) (n s : Nat) : am_R (am_k kt, I, J, am_r T, n, s) 38 6 = 49 := rfl
theorem rs_38_7 (kt : Nat → Nat × Nat) (I : Nat → Nat → Int32) (J : Nat → Nat → Int64) (T : Nat → Nat → Nat) (n s : Nat) : am_R (am_k kt, I, J, am_r T, n, s) 38 7 = 50 := rfl
theorem rs_38_8 (kt : Nat → Nat × Nat) (I : Nat → Nat → Int32) (J : Nat → Nat → Int64) (T : Nat → Nat → Nat) (n s : Nat) : am_R (am_k kt, I, J, am_r T, n, s) 38 8 = 51 := rfl
theorem rs_38_9 (kt : Nat → Nat × Nat) (I : Nat → Nat → Int32) (J : Nat → Nat → Int64) (T : Nat → Nat → Nat) (n s : Nat) : am_R (am_k kt, I, J, am_r T, n, s) 38 9 = 52 := rfl
theorem rs_53_0 (kt : Nat → Nat × Nat) (I : Nat → Nat → Int32) (J : Nat → Nat → Int64) (T : Nat → Nat → Nat) (n s : Nat) : am_R (am_k kt, I, J, am_r T, n, s) 53 0 = 54 := rfl
theorem rs_53_2 (kt : Nat → Nat × Nat) (I : Nat → Nat → Int32) (J : Nat → Nat → Int64) (T : Nat → Nat → Nat) (n s : Nat) : am_R (am_k kt, I, J, am_r T, n, s) 53 2 = 55 := rfl
theorem rs_53_3 (kt : Nat → Nat × Nat) (I : Nat → Nat → Int32) (J : Nat → Nat → Int64) (T : Nat → Nat → Nat) (n s : Nat) : am_R (am_k kt, I, J, am_r T, n, s) 53 3 = 56 := rfl
theorem rs_53_5 (kt : Nat → Nat × Nat) (I : Nat → Nat → Int32) (J : Nat → Nat → Int64) (T : Nat → Nat → Nat) (n s : Nat) : am_R (am_k kt, I, J, am_r T, n, s) 53 5 = 57 := rfl
theorem rs_53_7 (kt : Nat → Nat × Nat) (I : Nat → Nat → Int32) (J : Nat → Nat → Int64) (T : Nat → Nat → Nat) (n s : Nat) : am_R (am_k kt, I, J, am_r T, n, s) 53 7 = 58 := rfl
theorem rs_54_0 (kt : Nat → Nat × Nat) (I : Nat → Nat → Int32) (J : Nat → Nat → Int64) (T : Nat → Nat → Nat) (n s : Nat) : am_R (am_k kt, I, J, am_r T, n, s) 54 0 = 59 := rfl
theorem rs_54_1 (kt : Nat → Nat × Nat) (I : Nat → Nat → Int32) (J : Nat → Nat → Int64) (T : Nat → Nat → Nat) (n s : Nat) : am_R (am_k kt, I, J, am_r T, n, s) 54 1 = 60 := rfl
theorem rs_54_2 (kt : Nat → Nat × Nat) (I : Nat → Nat → Int32) (J : Nat → Nat → Int64) (T : Nat → Nat → Nat) (n s : Nat) : am_R (am_k kt, I, J, am_r T, n, s) 54 2 = 61 := rfl
theorem rs_54_3 (kt : Nat → Nat × Nat) (I : Nat → Nat → Int32) (J : Nat → Nat → Int64) (T : Nat → Nat → Nat) (n s : Nat) : am_R (am_k kt, I, J, am_r T, n, s) 54 3 = 62 := rfl
theorem rs_54_4 (kt : Nat → Nat × Nat) (I : Nat → Nat → Int32) (J : Nat → Nat → Int64) (T : Nat → Nat → Nat) (n s : Nat) : am_R (am_k kt, I, J, am_r T, n, s) 54 4 = 63 := rfl
theorem rs_54_5 (kt : Nat → Nat × Nat) (I : Nat → Nat → Int32) (J : Nat → Nat → Int64) (T : Nat → Nat → Nat) (n s : Nat) : am_R (am_k kt, I, J, am_r T, n, s) 54 5 = 64 := rfl
theorem rs_54_6 (kt : Nat → Nat × Nat) (I : Nat → Nat → Int32) (J : Nat → Nat → Int64) (T : Nat → Nat → Nat) (n s : Nat) : am_R (am_k kt, I, J, am_r T, n, s) 54 6 = 65 := rfl
theorem rs_54_7 (kt : Nat → Nat × Nat) (I : Nat → Nat → Int32) (J : Nat → Nat → Int64) (T : Nat → Nat → Nat) (n s : Nat) : am_R (am_k kt, I, J, am_r T, n, s) 54 7 = 66 := rfl
theorem rs_54_8 (kt : Nat → Nat × Nat) (I : Nat → Nat → Int32) (J : Nat → Nat → Int64) (T : Nat → Nat → Nat) (n s : Nat) : am_R (am_k kt, I, J, am_r T, n, s) 54 8 = 67 := rfl
theorem rs_54_9 (kt : Nat → Nat × Nat) (I : Nat → Nat → Int32) (J : Nat → Nat → Int64) (T : Nat → Nat → Nat) (n s : Nat) : am_R (am_k kt, I, J, am_r T, n, s) 54 9 = 68 := rfl
theorem rs_69_0 (kt : Nat → Nat × Nat) (I : Nat → Nat → Int32) (J : Nat → Nat → Int64) (T : Nat → Nat → Nat) (n s : Nat) : am_R (am_k kt, I, J, am_r T, n, s) 69 0 = 70 := rfl
theorem rs_69_1 (kt : Nat → Nat × Nat) (I : Nat → Nat → Int32) (J : Nat → Nat → Int64) (T : Nat → Nat → Nat) (n s : Nat) : am_R (am_k kt, I, J, am_r T, n, s) 69 1 = 71 := rfl
theorem rs_72_0 (kt : Nat → Nat × Nat) (I : Nat → Nat → Int32) (J : Nat → Nat → Int64) (T : Nat → Nat → Nat) (n s : Nat) : am_R (am_k kt, I, J, am_r T, n, s) 72 0 = 73 := rfl
theorem rs_72_9 (kt : Nat → Nat × Nat) (I : Nat → Nat → Int32) (J : Nat → Nat → Int64) (T : Nat → Nat → Nat) (n s : Nat) : am_R (am_k kt, I, J, am_r T, n, s) 72 9 = 74 := rfl
theorem rs_75_0 (kt : Nat → Nat × Nat) (I : Nat → Nat → Int32) (J : Nat → Nat → Int64) (T : Nat → Nat → Nat) (n s : Nat) : am_R (am_k kt, I, J, am_r T, n, s) 75 0 = 79 := rfl
theorem rs_75_1 (kt : Nat → Nat × Nat) (I : Nat → Nat → Int32) (J : Nat → Nat → Int64) (T : Nat → Nat → Nat) (n s : Nat) : am_R (am_k kt, I, J, am_r T, n, s) 75 1 = 81 := rfl
theorem rs_75_2 (kt : Nat → Nat × Nat) (I : Nat → Nat → Int32) (J : Nat → Nat → Int64) (T : Nat → Nat → Nat) (n s : Nat) : am_R (am_k kt, I, J, am_r T, n, s) 75 2 = 83 := rfl
theorem rs_75_3 (kt : Nat → Nat × Nat) (I : Nat → Nat → Int32) (J : Nat → Nat → Int64) (T : Nat → Nat → Nat) (n s : Nat) : am_R (am_k kt, I, J, am_r T, n, s) 75 3 = 85 := rfl
theorem rs_76_0 (kt : Nat → Nat × Nat) (I : Nat → Nat → Int32) (J : Nat → Nat → Int64) (T : Nat → Nat → Nat) (n s : Nat) : am_R (am_k kt, I, J, am_r T, n, s) 76 0 = 87 := rfl
theorem rs_76_1 (kt : Nat → Nat × Nat) (I : Nat → Nat → Int32) (J : Nat → Nat → Int64) (T : Nat → Nat → Nat) (n s : Nat) : am_R (am_k kt, I, J, am_r T, n, s) 76 1 = 91 := rfl
theorem rs_76_2 (kt : Nat → Nat × Nat) (I : Nat → Nat → Int32) (J : Nat → Nat → Int64) (T : Nat → Nat → Nat) (n s : Nat) : am_R (am_k kt, I, J, am_r T, n, s) 76 2 = 95 := rfl
theorem rs_76_3 (kt : Nat → Nat × Nat) (I : Nat → Nat → Int32) (J : Nat → Nat → Int64) (T : Nat → Nat → Nat) (n s : Nat) : am_R (am_k kt, I, J, am_r T, n, s) 76 3 = 99 := rfl
theorem rs_76_4 (kt : Nat → Nat × Nat) (I : Nat → Nat → Int32) (J : Nat → Nat → Int64) (T : Nat → Nat → Nat) (n s : Nat) : am_R (am_k kt, I, J, am_r T, n, s) 76 4 = 103 := rfl
theorem rs_79_2 (kt : Nat → Nat × Nat) (I : Nat → Nat → Int32) (J : Nat → Nat → Int64) (T : Nat → Nat → Nat) (n s : Nat) : am_R (am_k kt, I, J, am_r T, n, s) 79 2 = 80 := rfl
theorem rs_81_2 (kt : Nat → Nat × Nat) (I : Nat → Nat → Int32) (J : Nat → Nat → Int64) (T : Nat → Nat → Nat) (n s : Nat) : am_R (am_k kt, I, J, am_r T, n, s) 81 2 = 82 := rfl
theorem rs_83_2 (kt : Nat → Nat × Nat) (I : Nat → Nat → Int32) (J : Nat → Nat → Int64) (T : Nat → Nat → Nat) (n s : Nat) : am_R (am_k kt, I, J, am_r T, n, s) 83 2 = 84 := rfl
theorem rs_85_2 (kt : Nat → Nat × Nat) (I : Nat → Nat → Int32) (J : Nat → Nat → Int64) (T : Nat → Nat → Nat) (n s : Nat) : am_R (am_k kt, I, J, am_r T, n, s) 85 2 = 86 := rfl
theorem rs_87_2 (kt : Nat → Nat × Nat) (I : Nat → Nat → Int32) (J : Nat → Nat → Int64) (T : Nat → Nat → Nat) (n s : Nat) : am_R (am_k kt, I, J, am_r T, n, s) 87 2 = 88 := rfl
theorem rs_87_3 (kt : Nat → Nat × Nat) (I : Nat → Nat → Int32) (J : Nat → Nat → Int64) (T : Nat → Nat → Nat) (n s : Nat) : am_R (am_k kt, I, J, am_r T, n, s) 87 3 = 89 := rfl
theorem rs_89_2 (kt : Nat → Nat × Nat) (I : Nat → Nat → Int32) (J : Nat → Nat → Int64) (T : Nat → Nat → Nat) (n s : Nat) : am_R (am_k kt, I, J, am_r T, n, s) 89 2 = 90 := rfl
theorem rs_91_2 (kt : Nat → Nat × Nat) (I : Nat → Nat → Int32) (J : Nat → Nat → Int64) (T : Nat → Nat → Nat) (n s : Nat) : am_R (am_k kt, I, J, am_r T, n, s) 91 2 = 92 := rfl
theorem rs_91_3 (kt : Nat → Nat × Nat) (I : Nat → Nat → Int32) (J : Nat → Nat → Int64) (T : Nat → Nat → Nat) (n s : Nat) : am_R (am_k kt, I, J, am_r T, n, s) 91 3 = 93 := rfl
theorem rs_93_2 (kt : Nat → Nat × Nat) (I : Nat → Nat → Int32) (J : Nat → Nat → Int64) (T : Nat → Nat → Nat) (n s : Nat) : am_R (am_k kt, I, J, am_r T, n, s) 93 2 = 94 := rfl
theorem rs_95_2 (kt : Nat → Nat × Nat) (I : Nat → Nat → Int32) (J : Nat → Nat → Int64) (T : Nat → Nat → Nat) (n s : Nat) : am_R (am_k kt, I, J, am_r T, n, s) 95 2 = 96 := rfl
theorem rs_95_3 (kt : Nat → Nat × Nat) (I : Nat → Nat → Int32) (J : Nat → Nat → Int64) (T : Nat → Nat → Nat) (n s : Nat) : am_R (am_k kt, I, J, am_r T, n, s) 95 3 = 97 := rfl
theorem rs_97_2 (kt : Nat → Nat × Nat) (I : Nat → Nat → Int32) (J : Nat → Nat → Int64) (T : Nat → Nat → Nat) (n s : Nat) : am_R (am_k kt, I, J, am_r T, n, s) 97 2 = 98 := rfl
theorem rs_99_2 (kt : Nat → Nat × Nat) (I : Nat → Nat → Int32) (J : Nat → Nat → Int64) (T : Nat → Nat → Nat) (n s : Nat) : am_R (am_k kt, I, J, am_r T, n, s) 99 2 = 100 := rfl
theorem rs_99_3 (kt : Nat → Nat × Nat) (I : Nat → Nat → Int32) (J : Nat → Nat → Int64) (T : Nat → Nat → Nat) (n s : Nat) : am_R (am_k kt, I, J, am_r T, n, s) 99 3 = 101 := rfl
theorem rs_101_2 (kt : Nat → Nat × Nat) (I : Nat → Nat → Int32) (J : Nat → Nat → Int64) (T : Nat → Nat → Nat) (n s : Nat) : am_R (am_k kt, I, J, am_r T, n, s) 101 2 = 102 := rfl
theorem rs_103_2 (kt : Nat → Nat × Nat) (I : Nat → Nat → Int32) (J : Nat → Nat → Int64) (T : Nat → Nat → Nat) (n s : Nat) : am_R (am_k kt, I, J, am_r T, n, s) 103 2 = 104 := rfl
theorem rs_103_3 (kt : Nat → Nat × Nat) (I : Nat → Nat → Int32) (J : Nat → Nat → Int64) (T : Nat → Nat → Nat) (n s : Nat) : am_R (am_k kt, I, J, am_r T, n, s) 103 3 = 105 := rfl
theorem rs_105_2 (kt : Nat → Nat × Nat) (I : Nat → Nat → Int32) (J : Nat → Nat → Int64) (T : Nat → Nat → Nat) (n s : Nat) : am_R (am_k kt, I, J, am_r T, n, s) 105 2 = 106 := rfl
theorem rs_107_0 (kt : Nat → Nat × Nat) (I : Nat → Nat → Int32) (J : Nat → Nat → Int64) (T : Nat → Nat → Nat) (n s : Nat) : am_R (am_k kt, I, J, am_r T, n, s) 107 0 = 108 := rfl
theorem rs_107_1 (kt : Nat → Nat × Nat) (I : Nat → Nat → Int32) (J : Nat → Nat → Int64) (T : Nat → Nat → Nat) (n s : Nat) : am_R (am_k kt, I, J, am_r T, n, s) 107 1 = 109 := rfl
theorem rs_107_2 (kt : Nat → Nat × Nat) (I : Nat → Nat → Int32) (J : Nat → Nat → Int64) (T : Nat → Nat → Nat) (n s : Nat) : am_R (am_k kt, I, J, am_r T, n, s) 107 2 = 110 := rfl
theorem rs_107_4 (kt : Nat → Nat × Nat) (I : Nat → Nat → Int32) (J : Nat → Nat → Int64) (T : Nat → Nat → Nat) (n s : Nat) : am_R (am_k kt, I, J, am_r T, n, s) 107 4 = 111 := rfl
theorem rs_107_5 (kt : Nat → Nat × Nat) (I : Nat → Nat → Int32) (J : Nat → Nat → Int64) (T : Nat → Nat → Nat) (n s : Nat) : am_R (am_k kt, I, J, am_r T, n, s) 107 5 = 112 := rfl
theorem rs_107_6 (kt : Nat → Nat × Nat) (I : Nat → Nat → Int32) (J : Nat → Nat → Int64) (T : Nat → Nat → Nat) (n s : Nat) : am_R (am_k kt, I, J, am_r T, n, s) 107 6 = 113 := rfl
theorem rs_107_7 (kt : Nat → Nat × Nat) (I : Nat → Nat → Int32) (J : Nat → Nat → Int64) (T : Nat → Nat → Nat) (n s : Nat) : am_R (am_k kt, I, J, am_r T, n, s) 107 7 = 114 := rfl
theorem rs_107_8 (kt : Nat → Nat × Nat) (I : Nat → Nat → Int32) (J : Nat → Nat → Int64) (T : Nat → Nat → Nat) (n s : Nat) : am_R (am_k kt, I, J, am_r T, n, s) 107 8 = 115 := rfl
theorem rs_107_9 (kt : Nat → Nat × Nat) (I : Nat → Nat → Int32) (J : Nat → Nat → Int64) (T : Nat → Nat → Nat) (n s : Nat) : am_R (am_k kt, I, J, am_r T, n, s) 107 9 = 116 := rfl
theorem rs_107_10 (kt : Nat → Nat × Nat) (I : Nat → Nat → Int32) (J : Nat → Nat → Int64) (T : Nat → Nat → Nat) (n s : Nat) : am_R (am_k kt, I, J, am_r T, n, s) 107 10 = 117 := rfl
theorem rs_107_18 (kt : Nat → Nat × Nat) (I : Nat → Nat → Int32) (J : Nat → Nat → Int64) (T : Nat → Nat → Nat) (n s : Nat) : am_R (am_k kt, I, J, am_r T, n, s) 107 18 = 118 := rfl
theorem rs_107_19 (kt : Nat → Nat × Nat) (I : Nat → Nat → Int32) (J : Nat → Nat → Int64) (T : Nat → Nat → Nat) (n s : Nat) : am_R (am_k kt, I, J, am_r T, n, s) 107 19 = 119 := rfl
theorem rs_107_20 (kt : Nat → Nat × Nat) (I : Nat → Nat → Int32) (J : Nat → Nat → Int64) (T : Nat → Nat → Nat) (n s : Nat) : am_R (am_k kt, I, J, am_r T, n, s) 107 20 = 120 := rfl
theorem rs_107_23 (kt : Nat → Nat × Nat) (I : Nat → Nat → Int32) (J : Nat → Nat → Int64) (T : Nat → Nat → Nat) (n s : Nat) : am_R (am_k kt, I, J, am_r T, n, s) 107 23 = 121 := rfl
theorem rs_107_25 (kt : Nat → Nat × Nat) (I : Nat → Nat → Int32) (J : Nat → Nat → Int64) (T : Nat → Nat → Nat) (n s : Nat) : am_R (am_k kt, I, J, am_r T, n, s) 107 25 = 122 := rfl
theorem rs_107_26 (kt : Nat → Nat × Nat) (I : Nat → Nat → Int32) (J : Nat → Nat → Int64) (T : Nat → Nat → Nat) (n s : Nat) : am_R (am_k kt, I, J, am_r T, n, s) 107 26 = 123 := rfl
theorem rs_107_27 (kt : Nat → Nat × Nat) (I : Nat → Nat → Int32) (J : Nat → Nat → Int64) (T : Nat → Nat → Nat) (n s : Nat) : am_R (am_k kt, I, J, am_r T, n, s) 107 27 = 124 := rfl
theorem rs_107_28 (kt : Nat → Nat × Nat) (I : Nat → Nat → Int32) (J : Nat → Nat → Int64) (T : Nat → Nat → Nat) (n s : Nat) : am_R (am_k kt, I, J, am_r T, n, s) 107 28 = 125 := rfl
theorem rs_107_29 (kt : Nat → Nat × Nat) (I : Nat → Nat → Int32) (J : Nat → Nat → Int64) (T : Nat → Nat → Nat) (n s : Nat) : am_R (am_k kt, I, J, am_r T, n, s) 107 29 = 126 := rfl
theorem rs_107_30 (kt : Nat → Nat × Nat) (I : Nat → Nat → Int32) (J : Nat → Nat → Int64) (T : Nat → Nat → Nat) (n s : Nat) : am_R (am_k kt, I, J, am_r T, n, s) 107 30 = 127 := rfl
theorem rs_107_31 (kt : Nat → Nat × Nat) (I : Nat → Nat → Int32) (J : Nat → Nat → Int64) (T : Nat → Nat → Nat) (n s : Nat) : am_R (am_k kt, I, J, am_r T, n, s) 107 31 = 128 := rfl
theorem rs_107_32 (kt : Nat → Nat × Nat) (I : Nat → Nat → Int32) (J : Nat → Nat → Int64) (T : Nat → Nat → Nat) (n s : Nat) : am_R (am_k kt, I, J, am_r T, n, s) 107 32 = 129 := rfl
theorem rs_107_33 (kt : Nat → Nat × Nat) (I : Nat → Nat → Int32) (J : Nat → Nat → Int64) (T : Nat → Nat → Nat) (n s : Nat) : am_R (am_k kt, I, J, am_r T, n, s) 107 33 = 130 := rfl
theorem rs_107_34 (kt : Nat → Nat × Nat) (I : Nat → Nat → Int32) (J : Nat → Nat → Int64) (T : Nat → Nat → Nat) (n s : Nat) : am_R (am_k kt, I, J, am_r T, n, s) 107 34 = 131 := rfl
theorem rs_107_35 (kt : Nat → Nat × Nat) (I : Nat → Nat → Int32) (J : Nat → Nat → Int64) (T : Nat → Nat → Nat) (n s : Nat) : am_R (am_k kt, I, J, am_r T, n, s) 107 35 = 132 := rfl
theorem rs_107_36 (kt : Nat → Nat × Nat) (I : Nat → Nat → Int32) (J : Nat → Nat → Int64) (T : Nat → Nat → Nat) (n s : Nat) : am_R (am_k kt, I, J, am_r T, n, s) 107 36 = 133 := rfl
end AM17
