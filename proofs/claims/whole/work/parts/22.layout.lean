/-! the memory behind the constructors: what of it stays -/
section AM17
def am_KO : List (List (Option (Nat × Nat))) := [[none, some (40, 0), some (40, 0), some (40, 0), some (40, 0), some (40, 0), some (40, 0), some (52, 3), some (52, 6), some (52, 4), some (52, 2), some (52, 3), some (52, 2), none, some (50, 6), some (54, 6)],
  [none, none, none, none, some (7, 11), some (2, 14), some (31, 10), some (20, 6), some (20, 6), some (36, 14), some (20, 3), some (1, 5), some (1, 5), some (1, 5), some (1, 5), some (1, 5)],
  [some (1, 5), some (1, 5), some (1, 5), some (1, 5), some (1, 5), some (2, 14), some (31, 10), some (20, 6), some (20, 6), some (36, 14), some (20, 3), some (1, 5), some (1, 5), some (1, 5), some (1, 5), some (1, 5)],
  [some (1, 5), some (1, 5), some (1, 5), some (1, 5), some (1, 5), some (2, 14), some (31, 10), some (20, 6), some (20, 6), some (36, 14), some (20, 3), some (1, 5), some (1, 5), some (1, 5), some (1, 5), some (1, 5)],
  [some (1, 5), some (1, 5), some (1, 5), some (1, 5), some (1, 5), some (0, 4), some (24, 64), some (24, 6), some (5, 11), some (20, 96), some (20, 96), some (33, 4), some (34, 5), some (20, 60), some (20, 10), some (3, 3)],
  [some (20, 24), some (3, 3), some (20, 24), some (3, 3), some (20, 24), some (3, 3), some (20, 24), some (4, 4), some (1, 5), some (3, 3), some (20, 24), some (4, 4), some (1, 5), some (3, 3), some (20, 24), some (4, 4)],
  [some (1, 5), some (3, 3), some (20, 24), some (4, 4), some (1, 5), some (3, 3), some (20, 24), some (4, 4), some (1, 5), some (3, 3), some (20, 24), some (8, 38), some (20, 1448), some (20, 1448), some (20, 1448), some (20, 11)],
  [some (21, 11), some (20, 7168), some (20, 6), some (20, 76), some (24, 10), some (20, 96), some (23, 13), some (20, 4), some (20, 96), some (20, 96), some (21, 10), some (20, 96), some (20, 4), some (20, 4), some (20, 4), some (20, 96)],
  [some (20, 5), some (20, 5), some (20, 5), some (20, 120), some (20, 24), some (20, 60), none, none, none, none, none, none, none, none, none, none]]
def am_RO : List (List (List (Option Nat))) := [[[], [], [], [], [], [], [], [], [], [], [], [], [], [], [], []],
  [[], [], [], [], [some 21, some 37, some 53, none, some 69, some 72, some 75, some 76, some 77, none, some 78], [some 22, none, some 23, some 24, none, some 25, none, some 26], [some 27, some 28, some 29, some 30, some 31, some 32, some 33, some 34, some 35, some 36], [], [], [], [], [], [], [], [], []],
  [[], [], [], [], [], [some 38, none, some 39, some 40, none, some 41, none, some 42], [some 43, some 44, some 45, some 46, some 47, some 48, some 49, some 50, some 51, some 52], [], [], [], [], [], [], [], [], []],
  [[], [], [], [], [], [some 54, none, some 55, some 56, none, some 57, none, some 58], [some 59, some 60, some 61, some 62, some 63, some 64, some 65, some 66, some 67, some 68], [], [], [], [], [], [], [], [], []],
  [[], [], [], [], [], [some 70, some 71], [], [], [some 73, none, none, none, none, none, none, none, none, some 74], [], [], [some 79, some 81, some 83, some 85], [some 87, some 91, some 95, some 99, some 103], [], [], [none, none, some 80]],
  [[], [none, none, some 82], [], [none, none, some 84], [], [none, none, some 86], [], [none, none, some 88, some 89], [], [none, none, some 90], [], [none, none, some 92, some 93], [], [none, none, some 94], [], [none, none, some 96, some 97]],
  [[], [none, none, some 98], [], [none, none, some 100, some 101], [], [none, none, some 102], [], [none, none, some 104, some 105], [], [none, none, some 106], [], [some 108, some 109, some 110, none, some 111, some 112, some 113, some 114, some 115, some 116, some 117, none, none, none, none, none, none, none, some 118, some 119, some 120, none, none, some 121, none, some 122, some 123, some 124, some 125, some 126, some 127, some 128, some 129, some 130, some 131, some 132, some 133], [], [], [], []],
  [[], [], [], [], [], [], [], [], [], [], [], [], [], [], [], []],
  [[], [], [], [], [], [], [], [], [], [], [], [], [], [], [], []]]
def am_od {α : Type} (d : α) : Option α → α
  | some x => x
  | none => d
/-- kinds: those that stay, and kt -/
def am_k (kt : Nat → Nat × Nat) : Nat → Nat × Nat := fun r => am_od (kt r) (am_ix2 none am_KO r)
/-- references: those that stay, and T -/
def am_r (T : Nat → Nat → Nat) : Nat → Nat → Nat := fun a k => am_od (T a k) (am_nth none (am_ix2 [] am_RO a) k)
abbrev am_mk (kt : Nat → Nat × Nat) (I : Nat → Nat → Int32) (J : Nat → Nat → Int64) (T : Nat → Nat → Nat) (n s : Nat) : am_M := (am_k kt, I, J, am_r T, n, s)
end AM17
