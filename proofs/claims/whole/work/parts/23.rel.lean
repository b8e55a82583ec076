/-! WHAT THE CLASS's CELLS AND THE REFERENCE's HAVE TO DO WITH EACH OTHER: I the class's side, S the reference's (one and the same memory between two calls) -/
section AM19
/-- a number of the class's code, in the reference's -/
def sg_tr (a : Int32) : Int32 :=
  if a = -1 then 10000 else if a = -2 then 10001 else if a = -3 then 10002
  else if a = -33 then -10 else if a = -38 then -2 else if a = -42 then -8 else if a = -43 then -6 else if a = -45 then -7 else if a = -47 then -9
  else if a = -60 then -3 else if a = -61 then -4 else if a = -62 then -5 else if a = -124 then -1 else a
/-- how many values a code leaves, from d on; none: it takes too many -/
def sg_dp : List Int32 → Nat → Option Nat
  | [], d => some d
  | a :: r, d => if -3 ≤ a then sg_dp r (d + 1) else if a = -33 then (if d = 0 then none else sg_dp r d) else (if d < 2 then none else sg_dp r (d - 1))
/-- a text: at r in the class, the t-th of the row N -/
def sg_Txt (kt : Nat → Nat × Nat) (I : Nat → Nat → Int32) (T : Nat → Nat → Nat) (n : Nat) (r t : Nat) (N : Nat → Int32) : Prop :=
  ∃ (key len : Nat) (cs : List Int32), 134 ≤ r ∧ r % 3 = 2 ∧ r + 2 < n ∧ kt r = (6, 4) ∧ kt (r + 1) = (20, len) ∧ kt (r + 2) = (20, len) ∧ T r 2 = r + 1 ∧ T r 3 = r + 2 ∧ key ≤ 2 ∧ len ≤ 95 ∧ cs.length = len ∧
    I r 0 = nI key ∧ I r 1 = N (77 + 2 * t) ∧ N (76 + 2 * t) = nI (1000 * key + len) ∧ (∀ k, k < len → I (r + 1) k = cs.getD k 0 ∧ N (104 + 96 * t + k) = sg_tr (cs.getD k 0)) ∧ sg_dp cs 0 = some 1 ∧
    ∀ k, k < len → ((-3 ≤ cs.getD k 0 ∧ cs.getD k 0 ≤ 9999) ∨ cs.getD k 0 ∈ [-33, -38, -42, -43, -45, -47, -60, -61, -62, -124]) ∧ (key ≠ 1 → cs.getD k 0 ≠ -3)
/-- which text counts for a key: -1, or the last of that key -/
def sg_cnt (N : Nat → Int32) (key : Nat) : Nat → Int32
  | 0 => -1
  | t + 1 => if N (76 + 2 * t) / 1000 = nI key then nI t else sg_cnt N key t
/-- numbers in their bounds -/
def sg_in (x : Int32) (a b : Int) : Prop := a ≤ x.toInt ∧ x.toInt ≤ b
def sg_LB (N : Nat → Int32) (hc wc : Nat) : Prop :=
  (∀ h, h < hc → sg_in (N (21 + 5 * h)) 0 5 ∧ sg_in (N (21 + 5 * h + 1)) 0 29 ∧ sg_in (N (21 + 5 * h + 2)) 0 99 ∧ sg_in (N (21 + 5 * h + 3)) 0 7 ∧ sg_in (N (21 + 5 * h + 4)) 0 999) ∧
  (∀ w, w < wc → sg_in (N (9 + 2 * w)) 0 29 ∧ sg_in (N (9 + 2 * w + 1)) 1 99) ∧ sg_in (N 3) 0 29 ∧ sg_in (N 4) 50 200 ∧ sg_in (N 2) 0 9999
/-- a land of the class at b, a row N of the reference -/
def sg_LR (kt : Nat → Nat × Nat) (I : Nat → Nat → Int32) (T : Nat → Nat → Nat) (n : Nat) (b : Nat) (N : Nat → Int32) (hc wc tc : Nat) : Prop :=
  hc ≤ 10 ∧ wc ≤ 6 ∧ tc ≤ 14 ∧ N 1 = nI hc ∧ N 7 = nI wc ∧ N 8 = nI tc ∧ I b 1 = nI hc ∧ I b 4 = nI wc ∧ I b 6 = nI tc ∧
  (∀ h, h < hc → ∀ k, k < 5 → I (b + 6 + h) k = N (21 + 5 * h + k)) ∧ (∀ w, w < wc → I (b + 2) w = N (9 + 2 * w) ∧ I (b + 3) w = N (9 + 2 * w + 1)) ∧
  I b 8 = N 3 ∧ I b 9 = N 4 ∧ I b 10 = N 2 ∧ I b 11 = N 5 ∧ I b 12 = N 6 ∧ I b 13 = N 0 ∧
  (∀ t, t < tc → sg_Txt kt I T n (T (b + 4) t) t N) ∧ ∀ key, key < 3 → I (b + 5) key = sg_cnt N key tc
def sg_Land (kt : Nat → Nat × Nat) (I : Nat → Nat → Int32) (T : Nat → Nat → Nat) (n : Nat) (b : Nat) (N : Nat → Int32) : Prop := ∃ hc wc tc : Nat, sg_LR kt I T n b N hc wc tc ∧ sg_LB N hc wc
def sg_Tape (I S : Nat → Nat → Int32) : Prop := ∃ len : Nat, len ≤ 96 ∧ I 72 1 = nI len ∧ S 107 11 = nI len ∧ ∀ i, i < len → I 73 i = S 117 i ∧ sg_in (S 117 i) 0 255
/-- a place of floats without a number -/
def sg_NONE : Int32 := -1000000005
def sg_num (x : Int32) : Prop := x = sg_NONE ∨ sg_in x (-99999) 99999
def sg_Sheet (I S : Nat → Nat → Int32) (q : Nat) : Prop := ∃ size : Nat, size ≤ 24 ∧ I (79 + 2 * q) 0 = S 125 q ∧ sg_in (S 125 q) (-1) 1 ∧ I (79 + 2 * q) 1 = nI size ∧ S 126 q = nI size ∧ ∀ k, k < 24 → I (80 + 2 * q) k = S 127 (24 * q + k) ∧ sg_num (S 127 (24 * q + k))
/-- what a hole is worth -/
def sg_worth (kind place depth owner : Int32) : Int32 :=
  if kind = 1 then depth + owner else if kind = 2 then 120 - depth else if kind = 3 then 2 * (depth + owner) else if kind = 4 then 111 - depth else if kind = 5 then place else depth
def sg_Slot (I S : Nat → Nat → Int32) (q : Nat) : Prop :=
  I (87 + 4 * q) 0 = S 128 q ∧ sg_in (S 128 q) 0 3 ∧
  (S 128 q = 1 → I (88 + 4 * q) 0 = S 129 q ∧ sg_in (S 129 q) 0 5 ∧ S 130 q = sg_worth (I (88 + 4 * q) 0) (I (88 + 4 * q) 1) (I (88 + 4 * q) 2) (I (88 + 4 * q) 3)) ∧
  (S 128 q = 2 → ∃ size : Nat, size ≤ 24 ∧ I (89 + 4 * q) 1 = nI size ∧ S 129 q = nI size ∧ ∀ k, k < 24 → I (90 + 4 * q) k = S 131 (24 * q + k) ∧ sg_num (S 131 (24 * q + k))) ∧
  (S 128 q = 3 → I (87 + 4 * q) 1 = S 129 q)
def sg_Wait (I S : Nat → Nat → Int32) : Prop := ∃ c : Nat, c ≤ 60 ∧ I 20 9 = nI c ∧ S 107 37 = nI c ∧ ∀ i, i < c → I 77 i = S 133 i
def sg_keys (j : Nat) : Int32 := [108, 97, 119, 115, 101, 116, 116, 108, 101, 102, 105, 110, 101].getD j 0
def sg_keyAt (j : Nat) : Int32 := [0, 3, 9, 13].getD j 0
/-- what no call changes -/
def sg_Fix (kt : Nat → Nat × Nat) (I : Nat → Nat → Int32) (J : Nat → Nat → Int64) (n : Nat) (L : Nat) (xs : Nat → Int32) : Prop :=
  134 ≤ n ∧ n % 3 = 2 ∧ (∀ r, n ≤ r → kt r = (99, 0)) ∧ kt 13 = (50, L) ∧ (∀ r, r < 20 → I r = am_fI xs r ∧ J r = am_fJ r) ∧ (∀ j, j < 13 → I 118 j = sg_keys j) ∧ ∀ j, j < 4 → I 119 j = sg_keyAt j
def sg_Rel (kt : Nat → Nat × Nat) (I : Nat → Nat → Int32) (T : Nat → Nat → Nat) (n : Nat) (S : Nat → Nat → Int32) : Prop :=
  sg_Land kt I T n 21 (S 108) ∧ (I 20 3 = S 107 3 ∧ (S 107 3 = 0 ∨ S 107 3 = 1) ∧ (S 107 3 = 1 → sg_Land kt I T n 53 (S 109))) ∧ sg_Tape I S ∧ (∀ q, q < 4 → sg_Sheet I S q) ∧ (∀ q, q < 5 → sg_Slot I S q) ∧ sg_Wait I S
/-- between two calls -/
def sg_Sim (L : Nat) (xs : Nat → Int32) (kt : Nat → Nat × Nat) (I : Nat → Nat → Int32) (J : Nat → Nat → Int64) (T : Nat → Nat → Nat) (n : Nat) : Prop := sg_Fix kt I J n L xs ∧ sg_Rel kt I T n I
end AM19
