/-! THE INSTRUCTIONS, as what they do to a frame and the memory -/
section AM2
def am_lg : List Value → Nat → Value
  | [], _ => .null
  | v :: _, 0 => v
  | _ :: r, n + 1 => am_lg r n
def am_nl : Value → Value
  | .long _ => .null
  | .double _ => .null
  | v => v
def am_l1 : List Value → Nat → Value → List Value
  | [], _, _ => []
  | _ :: r, 0, w => w :: r
  | v :: r, 1, w => am_nl v :: am_l1 r 0 w
  | v :: r, n + 2, w => v :: am_l1 r (n + 1) w
def am_nh : List Value → List Value
  | [] => []
  | _ :: r => .null :: r
def am_l2 : List Value → Nat → Value → List Value
  | [], _, _ => []
  | _ :: r, 0, w => w :: am_nh r
  | v :: r, 1, w => am_nl v :: am_l2 r 0 w
  | v :: r, n + 2, w => v :: am_l2 r (n + 1) w
def am_cats : List Value → Nat
  | [] => 0
  | v :: r => v.category + am_cats r
def am_tk : Nat → List Value → List Value → Option (List Value × List Value)
  | 0, st, acc => some (acc, st)
  | _ + 1, [], _ => none
  | k + 1, v :: st, acc => am_tk k st (v :: acc)
/-- the arguments as locals: a long takes two places -/
def am_ar : List Value → List Value
  | [] => []
  | .long x :: r => .long x :: .null :: am_ar r
  | .double x :: r => .double x :: .null :: am_ar r
  | v :: r => v :: am_ar r
def am_pad : Nat → List Value → List Value
  | 0, _ => []
  | n + 1, [] => .null :: am_pad n []
  | n + 1, v :: r => v :: am_pad n r
abbrev am_fr (f : am_F) (np : Nat) (st : List Value) : am_F := match f with | (z, b, _, l, _) => (z, b, np, l, st)
abbrev am_fl (f : am_F) (np : Nat) (g : List Value → List Value) (st : List Value) : am_F := match f with | (z, b, _, l, _) => (z, b, np, g l, st)
def o_push (v : Value) (np : Nat) : am_Op := fun f M => am_go (am_fr f np (v :: f.2.2.2.2)) M
def o_iload (i np : Nat) : am_Op := fun f M => match am_lg f.2.2.2.1 i with
  | .int x => am_go (am_fr f np (.int x :: f.2.2.2.2)) M
  | _ => am_no
def o_lload (i np : Nat) : am_Op := fun f M => match am_lg f.2.2.2.1 i with
  | .long x => am_go (am_fr f np (.long x :: f.2.2.2.2)) M
  | _ => am_no
def o_aload (i np : Nat) : am_Op := fun f M => match am_lg f.2.2.2.1 i with
  | .ref x => am_go (am_fr f np (.ref x :: f.2.2.2.2)) M
  | _ => am_no
def o_istore (i np : Nat) : am_Op := fun f M => match f.2.2.2.2 with
  | .int x :: r => am_go (am_fl f np (fun l => am_l1 l i (.int x)) r) M
  | _ => am_no
def o_astore (i np : Nat) : am_Op := fun f M => match f.2.2.2.2 with
  | .ref x :: r => am_go (am_fl f np (fun l => am_l1 l i (.ref x)) r) M
  | _ => am_no
def o_lstore (i np : Nat) : am_Op := fun f M => match f.2.2.2.2 with
  | .long x :: r => am_go (am_fl f np (fun l => am_l2 l i (.long x)) r) M
  | _ => am_no
def o_iinc (i : Nat) (c : Int32) (np : Nat) : am_Op := fun f M => match am_lg f.2.2.2.1 i with
  | .int x => am_go (am_fl f np (fun l => am_l1 l i (.int (x + c))) f.2.2.2.2) M
  | _ => am_no
def o_bin (g : Int32 → Int32 → Int32) (np : Nat) : am_Op := fun f M => match f.2.2.2.2 with
  | .int y :: .int x :: r => am_go (am_fr f np (.int (g x y) :: r)) M
  | _ => am_no
def o_binS (g : Int32 → Int32 → Int32) (np : Nat) : am_Op := fun f M => match f.2.2.2.2 with
  | .int y :: .int x :: r => am_goS (¬ y = 0) (am_fr f np (.int (g x y) :: r)) M
  | _ => am_no
def o_lbin (g : Int64 → Int64 → Int64) (np : Nat) : am_Op := fun f M => match f.2.2.2.2 with
  | .long y :: .long x :: r => am_go (am_fr f np (.long (g x y) :: r)) M
  | _ => am_no
def o_lbinS (g : Int64 → Int64 → Int64) (np : Nat) : am_Op := fun f M => match f.2.2.2.2 with
  | .long y :: .long x :: r => am_goS (¬ y = 0) (am_fr f np (.long (g x y) :: r)) M
  | _ => am_no
def o_un (g : Int32 → Int32) (np : Nat) : am_Op := fun f M => match f.2.2.2.2 with
  | .int x :: r => am_go (am_fr f np (.int (g x) :: r)) M
  | _ => am_no
def o_lneg (np : Nat) : am_Op := fun f M => match f.2.2.2.2 with
  | .long x :: r => am_go (am_fr f np (.long (-x) :: r)) M
  | _ => am_no
def o_i2l (np : Nat) : am_Op := fun f M => match f.2.2.2.2 with
  | .int x :: r => am_go (am_fr f np (.long x.toInt64 :: r)) M
  | _ => am_no
def o_l2i (np : Nat) : am_Op := fun f M => match f.2.2.2.2 with
  | .long x :: r => am_go (am_fr f np (.int x.toInt32 :: r)) M
  | _ => am_no
/-- lcmp and the branch on it behind it -/
def o_lcmp (np : Nat) : am_Op := fun f M => match f.2.2.2.2 with
  | .long y :: .long x :: r => am_go (am_fr f np (.int (lg_cmp x y) :: r)) M
  | _ => am_no
def o_if (c : Int32 → Prop) (tg np : Nat) : am_Op := fun f _ => match f.2.2.2.2 with
  | .int x :: r => am_br (c x) (am_fr f tg r) (am_fr f np r)
  | _ => am_no
def o_icmp (c : Int32 → Int32 → Prop) (tg np : Nat) : am_Op := fun f _ => match f.2.2.2.2 with
  | .int y :: .int x :: r => am_br (c x y) (am_fr f tg r) (am_fr f np r)
  | _ => am_no
/-- null: there; else here -/
def o_null (tg np : Nat) : am_Op := fun f _ => match f.2.2.2.2 with
  | .ref a :: r => am_br (a = 0) (am_fr f tg r) (am_fr f np r)
  | _ => am_no
/-- the same: there; else here -/
def o_same (tg np : Nat) : am_Op := fun f _ => match f.2.2.2.2 with
  | .ref b :: .ref a :: r => am_brS (20 ≤ a ∧ 20 ≤ b) (a = b) (am_fr f tg r) (am_fr f np r)
  | _ => am_no
def o_goto (tg : Nat) : am_Op := fun f M => am_go (am_fr f tg f.2.2.2.2) M
def o_sw (cs : List (Int32 × Nat)) (d : Nat) : am_Op := fun f _ => match f.2.2.2.2 with
  | .int x :: r => am_sw x (cs.map (fun q => (q.1, am_fr f q.2 r))) (am_fr f d r)
  | _ => am_no
def o_getI (c N k np : Nat) : am_Op := fun f M => match f.2.2.2.2 with
  | .ref a :: r => am_goS (am_K M a = (c, N)) (am_fr f np (.int (am_I M a k) :: r)) M
  | _ => am_no
def o_getJ (c N k np : Nat) : am_Op := fun f M => match f.2.2.2.2 with
  | .ref a :: r => am_goS (am_K M a = (c, N)) (am_fr f np (.long (am_J M a k) :: r)) M
  | _ => am_no
def o_getR (c N k np : Nat) : am_Op := fun f M => match f.2.2.2.2 with
  | .ref a :: r => am_goS (am_K M a = (c, N)) (am_fr f np (.ref (am_R M a k) :: r)) M
  | _ => am_no
def o_putI (c N k np : Nat) : am_Op := fun f M => match f.2.2.2.2 with
  | .int x :: .ref a :: r => am_goS (am_K M a = (c, N)) (am_fr f np r) (am_setI M a k x)
  | _ => am_no
def o_putZ (c N k np : Nat) : am_Op := fun f M => match f.2.2.2.2 with
  | .int x :: .ref a :: r => am_goS (am_K M a = (c, N) ∧ (x = 0 ∨ x = 1)) (am_fr f np r) (am_setI M a k x)
  | _ => am_no
def o_putJ (c N k np : Nat) : am_Op := fun f M => match f.2.2.2.2 with
  | .long x :: .ref a :: r => am_goS (am_K M a = (c, N)) (am_fr f np r) (am_setJ M a k x)
  | _ => am_no
def o_putR (c N k np : Nat) : am_Op := fun f M => match f.2.2.2.2 with
  | .ref x :: .ref a :: r => am_goS (am_K M a = (c, N) ∧ (x = 0 ∨ 20 ≤ x)) (am_fr f np r) (am_setR M a k x)
  | _ => am_no
def o_iald (t np : Nat) : am_Op := fun f M => match f.2.2.2.2 with
  | .int i :: .ref a :: r => am_goS ((am_K M a).1 = t ∧ vp_in i (am_K M a).2) (am_fr f np (.int (am_I M a i.toNatClampNeg) :: r)) M
  | _ => am_no
def o_lald (t np : Nat) : am_Op := fun f M => match f.2.2.2.2 with
  | .int i :: .ref a :: r => am_goS ((am_K M a).1 = t ∧ vp_in i (am_K M a).2) (am_fr f np (.long (am_J M a i.toNatClampNeg) :: r)) M
  | _ => am_no
def o_aald (t np : Nat) : am_Op := fun f M => match f.2.2.2.2 with
  | .int i :: .ref a :: r => am_goS ((am_K M a).1 = t ∧ vp_in i (am_K M a).2) (am_fr f np (.ref (am_R M a i.toNatClampNeg) :: r)) M
  | _ => am_no
def o_iast (np : Nat) : am_Op := fun f M => match f.2.2.2.2 with
  | .int x :: .int i :: .ref a :: r => am_goS ((am_K M a).1 = 20 ∧ vp_in i (am_K M a).2) (am_fr f np r) (am_setI M a i.toNatClampNeg x)
  | _ => am_no
def o_zast (np : Nat) : am_Op := fun f M => match f.2.2.2.2 with
  | .int x :: .int i :: .ref a :: r => am_goS ((am_K M a).1 = 21 ∧ vp_in i (am_K M a).2 ∧ (x = 0 ∨ x = 1)) (am_fr f np r) (am_setI M a i.toNatClampNeg x)
  | _ => am_no
def o_cast (np : Nat) : am_Op := fun f M => match f.2.2.2.2 with
  | .int x :: .int i :: .ref a :: r => am_goS ((am_K M a).1 = 23 ∧ vp_in i (am_K M a).2 ∧ vp_nar .char x = x) (am_fr f np r) (am_setI M a i.toNatClampNeg x)
  | _ => am_no
def o_last (np : Nat) : am_Op := fun f M => match f.2.2.2.2 with
  | .long x :: .int i :: .ref a :: r => am_goS ((am_K M a).1 = 24 ∧ vp_in i (am_K M a).2) (am_fr f np r) (am_setJ M a i.toNatClampNeg x)
  | _ => am_no
def o_aast (c N np : Nat) : am_Op := fun f M => match f.2.2.2.2 with
  | .ref v :: .int i :: .ref a :: r => am_goS ((am_K M a).1 = 30 + c ∧ vp_in i (am_K M a).2 ∧ am_K M v = (c, N)) (am_fr f np r) (am_setR M a i.toNatClampNeg v)
  | _ => am_no
def o_alen (t np : Nat) : am_Op := fun f M => match f.2.2.2.2 with
  | .ref a :: r => am_goS ((am_K M a).1 = t) (am_fr f np (.int (Int32.ofNat (am_K M a).2) :: r)) M
  | _ => am_no
def o_newa (t np : Nat) : am_Op := fun f M => match f.2.2.2.2 with
  | .int n :: r => am_goS (¬ n < 0 ∧ n.toNatClampNeg ≤ 100000) (am_fr f np (.ref (am_n M) :: r)) (am_new M t n.toNatClampNeg)
  | _ => am_no
def o_new (c N np : Nat) : am_Op := fun f M => am_go (am_fr f np (.ref (am_n M) :: f.2.2.2.2)) (am_new M c N)
def o_dup (np : Nat) : am_Op := fun f M => match f.2.2.2.2 with
  | .int x :: r => am_go (am_fr f np (.int x :: .int x :: r)) M
  | .ref x :: r => am_go (am_fr f np (.ref x :: .ref x :: r)) M
  | _ => am_no
def o_dup2 (np : Nat) : am_Op := fun f M => match f.2.2.2.2 with
  | .int y :: .ref x :: r => am_go (am_fr f np (.int y :: .ref x :: .int y :: .ref x :: r)) M
  | _ => am_no
def o_pop (np : Nat) : am_Op := fun f M => match f.2.2.2.2 with
  | .int _ :: r => am_go (am_fr f np r) M
  | _ => am_no
/-- static calls, and constructors: z the method, mL its locals, b its budget, k arguments -/
def o_cs (z mL b k np : Nat) : am_Op := fun f _ => match am_tk k f.2.2.2.2 [] with
  | some (as, r) => bif ((Nat.blt b f.2.1 && Nat.ble (am_cats r) 8) && Nat.ble (am_ar as).length mL) then am_ca none as (z, b, 0, am_pad mL (am_ar as), []) (am_fr f np r) else am_no
  | none => am_no
/-- virtual calls: the receiver's kind -/
def o_cv (c N z mL b k np : Nat) : am_Op := fun f M => match am_tk k f.2.2.2.2 [] with
  | some (as, .ref a :: r) => bif ((Nat.blt b f.2.1 && Nat.ble (am_cats r) 8) && Nat.ble (am_ar (.ref a :: as)).length mL) then am_ca (some (am_K M a = (c, N))) (.ref a :: as) (z, b, 0, am_pad mL (am_ar (.ref a :: as)), []) (am_fr f np r) else am_no
  | _ => am_no
/-- the same, out of a frame whose budget is a name: the callee's is b -/
def o_cvp (c N z mL b k np : Nat) : am_Op := fun f M => match am_tk k f.2.2.2.2 [] with
  | some (as, .ref a :: r) => bif (Nat.ble (am_cats r) 8 && Nat.ble (am_ar (.ref a :: as)).length mL) then am_ca (some (am_K M a = (c, N) ∧ b < f.2.1)) (.ref a :: as) (z, b, 0, am_pad mL (am_ar (.ref a :: as)), []) (am_fr f np r) else am_no
  | _ => am_no
def o_csp (z mL b k np : Nat) : am_Op := fun f _ => match am_tk k f.2.2.2.2 [] with
  | some (as, r) => bif (Nat.ble (am_cats r) 8 && Nat.ble (am_ar as).length mL) then am_ca (some (b < f.2.1)) as (z, b, 0, am_pad mL (am_ar as), []) (am_fr f np r) else am_no
  | _ => am_no
/-- the same, of a method of the caller's own ring: one frame less -/
def o_cvr (c N z mL k np : Nat) : am_Op := fun f M => match am_tk k f.2.2.2.2 [] with
  | some (as, .ref a :: r) => bif (Nat.ble (am_cats r) 8 && Nat.ble (am_ar (.ref a :: as)).length mL) then am_ca (some (am_K M a = (c, N) ∧ 0 < f.2.1)) (.ref a :: as) (z, f.2.1 - 1, 0, am_pad mL (am_ar (.ref a :: as)), []) (am_fr f np r) else am_no
  | _ => am_no
def o_oinit (np : Nat) : am_Op := fun f M => match f.2.2.2.2 with
  | .ref a :: r => bif Nat.ble (am_cats r) 8 then am_goS (¬ a = 0) (am_fr f np r) M else am_no
  | _ => am_no
def o_acopy (np : Nat) : am_Op := fun f M => match f.2.2.2.2 with
  | .int n :: .int dp :: .ref a :: .int sp :: .ref a0 :: r => bif Nat.ble (am_cats r) 8 then am_goS ((am_K M a0).1 = 20 ∧ (am_K M a).1 = 20 ∧ ¬ sp < 0 ∧ ¬ dp < 0 ∧ ¬ n < 0 ∧ sp.toNatClampNeg + n.toNatClampNeg ≤ (am_K M a0).2 ∧ dp.toNatClampNeg + n.toNatClampNeg ≤ (am_K M a).2) (am_fr f np r) (am_rowI M a (va_cpy (am_I M a0) (am_I M a) sp.toNatClampNeg dp.toNatClampNeg n.toNatClampNeg)) else am_no
  | _ => am_no
/-- a String constant's bytes, its coder -/
def o_strV (np : Nat) : am_Op := fun f M => match f.2.2.2.2 with
  | .ref a :: r => am_goS (1 ≤ a ∧ a ≤ 6) (am_fr f np (.ref (a + 6) :: r)) M
  | _ => am_no
def o_strC (np : Nat) : am_Op := fun f M => match f.2.2.2.2 with
  | .ref a :: r => am_goS (1 ≤ a ∧ a ≤ 6) (am_fr f np (.int 0 :: r)) M
  | _ => am_no
def o_ret : am_Op := fun f _ => match f.2.2.2.2 with
  | [] => am_rt none none
  | _ => am_no
def o_iret : am_Op := fun f _ => match f.2.2.2.2 with
  | [.int x] => am_rt none (some (.int x))
  | _ => am_no
def o_nret (ty : FieldType) : am_Op := fun f _ => match f.2.2.2.2 with
  | [.int x] => am_rt (some (narrow ty (.int x) = .int x)) (some (.int x))
  | _ => am_no
def o_lret : am_Op := fun f _ => match f.2.2.2.2 with
  | [.long x] => am_rt none (some (.long x))
  | _ => am_no
def o_aret : am_Op := fun f _ => match f.2.2.2.2 with
  | [.ref x] => am_rt none (some (.ref x))
  | _ => am_no
/-- Math.min, max, abs -/
def o_mbin (g : Int32 → Int32 → Int32) (np : Nat) : am_Op := fun f M => match f.2.2.2.2 with
  | .int y :: .int x :: r => bif Nat.ble (am_cats r) 8 then am_go (am_fr f np (.int (g x y) :: r)) M else am_no
  | _ => am_no
def o_mabs (np : Nat) : am_Op := fun f M => match f.2.2.2.2 with
  | .int x :: r => bif Nat.ble (am_cats r) 8 then am_go (am_fr f np (.int (if 0 ≤ x then x else 0 - x) :: r)) M else am_no
  | _ => am_no
def o_mminL (np : Nat) : am_Op := fun f M => match f.2.2.2.2 with
  | .long y :: .long x :: r => bif Nat.ble (am_cats r) 8 then am_go (am_fr f np (.long (if y < x then y else x) :: r)) M else am_no
  | _ => am_no
end AM2
