/-! a hole laid anew, a depth dug, spades lifted -/
section T74
variable {kt : Nat → Nat × Nat} {I I' : Nat → Nat → Int32} {J J' : Nat → Nat → Int64} {T T' : Nat → Nat → Nat} {n s : Nat} {L : Nat} {xs : Nat → Int32} {K : Option Value → am_M → Prop} {N N' : Nat → Int32} {hc wc tc h w : Nat}
theorem lay_LR {r : Nat} {a b c d : Int32} (hh : r < 10) (hR : sg_LR kt I T n 21 N hc wc tc) : sg_LR kt (cl5 I (27 + r) a b c d) T n 21 (layN N r a b c d) hc wc tc := by
  have q1 := LR_up (v := a) (r := 27 + r) (k := 0) (j := 21 + 5 * r + 0) (by decide) (by unfold cellR; omega) hR
  have q2 := LR_up (v := b) (r := 27 + r) (k := 1) (j := 21 + 5 * r + 1) (by decide) (by unfold cellR; omega) q1
  have q3 := LR_up (v := c) (r := 27 + r) (k := 2) (j := 21 + 5 * r + 2) (by decide) (by unfold cellR; omega) q2
  have q4 := LR_up (v := d) (r := 27 + r) (k := 3) (j := 21 + 5 * r + 3) (by decide) (by unfold cellR; omega) q3
  exact LR_up (v := 0) (r := 27 + r) (k := 4) (j := 21 + 5 * r + 4) (by decide) (by unfold cellR; omega) q4
theorem lay_LB {r : Nat} {a b c d : Int32} (hw : wc ≤ 6) (ha : sg_in a 0 5) (hb : sg_in b 0 29) (hcc : sg_in c 0 99) (hd : sg_in d 0 7) (hB : sg_LB N hc wc) : sg_LB (layN N r a b c d) hc wc := by
  have q1 := LB_hole (h := r) (k := 0) hw (by decide) (show sg_in a 0 (bd 0) from ha) hB
  have q2 := LB_hole (h := r) (k := 1) hw (by decide) (show sg_in b 0 (bd 1) from hb) q1
  have q3 := LB_hole (h := r) (k := 2) hw (by decide) (show sg_in c 0 (bd 2) from hcc) q2
  have q4 := LB_hole (h := r) (k := 3) hw (by decide) (show sg_in d 0 (bd 3) from hd) q3
  exact LB_hole (h := r) (k := 4) hw (by decide) (show sg_in 0 0 (bd 4) by unfold sg_in; decide) q4
/-- the depth dug and the spades lifted, in the class and in the reference -/
def dgI (I : Nat → Nat → Int32) (h : Nat) (e sp : Int32) : Nat → Nat → Int32 := am_up (am_up I (27 + h) 2 (I (27 + h) 2 - e)) 21 11 (I 21 11 + sp)
def dgN (N : Nat → Int32) (h : Nat) (e sp : Int32) : Nat → Int32 := upN (upN N (21 + 5 * h + 2) (N (21 + 5 * h + 2) - e)) 5 (N 5 + sp)
theorem dg_LR {e sp : Int32} (hh : h < hc) (hR : sg_LR kt I T n 21 N hc wc tc) : sg_LR kt (dgI I h e sp) T n 21 (dgN N h e sp) hc wc tc := by
  have h10 := hR.1
  have q1 := LR_up (v := I (27 + h) 2 - e) (r := 27 + h) (k := 2) (j := 21 + 5 * h + 2) (by decide) (by unfold cellR; omega) hR
  have q2 := LR_up (v := I 21 11 + sp) (r := 21) (k := 11) (j := 5) (by decide) (by unfold cellR; omega) q1
  have e2 : I (27 + h) 2 = N (21 + 5 * h + 2) := hR.2.2.2.2.2.2.2.2.2.1 h hh 2 (by decide)
  have e5 : N 5 = I 21 11 := by
    have := hR.2.2.2.2.2.2.2.2.2.2.2.2.2.2.1
    first | exact this | exact this.symm
  unfold dgI dgN
  rw [e5, ← e2]
  exact q2
theorem dg_LB {e sp : Int32} (hw : wc ≤ 6) (hv : sg_in (N (21 + 5 * h + 2) - e) 0 99) (hB : sg_LB N hc wc) : sg_LB (dgN N h e sp) hc wc :=
  LB_more 5 (by omega) (LB_hole (h := h) (k := 2) hw (by decide) (show sg_in _ 0 (bd 2) from hv) hB)
end T74
