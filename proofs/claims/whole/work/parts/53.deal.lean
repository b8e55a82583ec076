/-! the dealing of the reference -/
section T53
theorem nI_or (a b : Nat) : nI a ||| nI b = nI (a ||| b) := by
  apply Int32.toBitVec_inj.mp
  rw [Int32.toBitVec_or]
  show BitVec.ofNat 32 a ||| BitVec.ofNat 32 b = BitVec.ofNat 32 (a ||| b)
  exact (BitVec.ofNat_or ..).symm
theorem shl1 : ∀ h, h < 11 → (1 : Int32) <<< (nI h &&& 31) = nI (2 ^ h) := by decide +kernel
theorem or_bor {u h : Nat} (hh : h < 11) : nI u ||| ((1 : Int32) <<< (nI h &&& 31)) = nI (bor u h) := by
  rw [shl1 h hh, nI_or]; unfold bor; rw [Nat.one_shiftLeft]
theorem and_bit {s u h : Nat} (hh : h < 11) : ((nI s &&& (nI u ^^^ (-1))) &&& ((1 : Int32) <<< (nI h &&& 31)) = 0) ↔ (s.testBit h && !u.testBit h) = false := by
  rw [shl1 h hh, ← Int32.toBitVec_inj, Int32.toBitVec_and, Int32.toBitVec_and, Int32.toBitVec_xor]
  show ((BitVec.ofNat 32 s &&& (BitVec.ofNat 32 u ^^^ BitVec.allOnes 32)) &&& BitVec.ofNat 32 (2 ^ h) = 0#32) ↔ _
  have hb : ∀ i, i < 32 → ((BitVec.ofNat 32 s &&& (BitVec.ofNat 32 u ^^^ BitVec.allOnes 32)) &&& BitVec.ofNat 32 (2 ^ h)).getLsbD i = (s.testBit i && !u.testBit i && decide (h = i)) := fun i hi => by
    simp only [BitVec.getLsbD_and, BitVec.getLsbD_xor, BitVec.getLsbD_ofNat, BitVec.getLsbD_allOnes, Nat.testBit_two_pow, decide_eq_true hi, Bool.true_and, Bool.xor_true]
  constructor
  · intro q
    have := hb h (by omega)
    rw [q, decide_eq_true rfl, Bool.and_true] at this
    rw [← this]; simp
  · intro q
    apply BitVec.eq_of_getLsbD_eq
    intro i hi
    rw [hb i hi]
    by_cases e : h = i
    · subst e; rw [q]; simp
    · rw [decide_eq_false e, Bool.and_false]; simp
theorem shr_bit : ∀ u, u < 1024 → ∀ h, h < 10 → (¬ (nI u >>> (nI h &&& 31)) &&& 1 = 0) = (u.testBit h = true) := by
  intro u hu h hh
  have key : ∀ h, h < 10 → ∀ u, u < 1024 → decide (¬ (nI u >>> (nI h &&& 31)) &&& 1 = 0) = u.testBit h := by decide +kernel
  have := key h hh u hu
  apply propext
  rw [← this]; simp
/-- the best of some -/
def mxh (g : Nat → Nat) (c : Nat → Bool) (b : Nat) : Nat → Nat
  | 0 => b
  | h + 1 => if c h = true then (if mxh g c b h < g h then g h else mxh g c b h) else mxh g c b h
theorem mxh_ge {g : Nat → Nat} {c : Nat → Bool} {b : Nat} : ∀ k, b ≤ mxh g c b k ∧ ∀ h, h < k → c h = true → g h ≤ mxh g c b k
  | 0 => ⟨Nat.le_refl _, fun h hh => absurd hh (by omega)⟩
  | k + 1 => by
    obtain ⟨i1, i2⟩ := mxh_ge (g := g) (c := c) (b := b) k
    unfold mxh
    refine ⟨by split; split; all_goals omega, fun h hh hc => ?_⟩
    by_cases e : h = k
    · subst e; rw [if_pos hc]; split <;> omega
    · have := i2 h (by omega) hc
      split
      · split <;> omega
      · exact this
theorem mxh_at {g : Nat → Nat} {c : Nat → Bool} {b : Nat} : ∀ k, mxh g c b k = b ∨ ∃ h, h < k ∧ c h = true ∧ mxh g c b k = g h
  | 0 => .inl rfl
  | k + 1 => by
    have ih := mxh_at (g := g) (c := c) (b := b) k
    unfold mxh
    by_cases q : c k = true
    · rw [if_pos q]
      split
      · exact .inr ⟨k, by omega, q, rfl⟩
      · rcases ih with e | ⟨h, a, b, d⟩
        · exact .inl e
        · exact .inr ⟨h, by omega, b, d⟩
    · rw [if_neg q]
      rcases ih with e | ⟨h, a, b, d⟩
      · exact .inl e
      · exact .inr ⟨h, by omega, b, d⟩
def Sc (tk : Nat → Nat → Bool) (fa : Nat → Nat → Nat) (W hc : Nat) : Nat → Nat → Nat
  | 0, _ => 0
  | k + 1, u => mxh (fun h => Sc tk fa W hc k (bor u h) + 1000 - fa (W - (k + 1)) h) (fun h => tk (W - (k + 1)) h && !u.testBit h) (Sc tk fa W hc k u) hc
theorem Sc_b {tk : Nat → Nat → Bool} {fa : Nat → Nat → Nat} {W hc : Nat} : ∀ k u, Sc tk fa W hc k u ≤ 1000 * k
  | 0, _ => Nat.le_refl _
  | k + 1, u => by
    unfold Sc
    rcases mxh_at (g := fun h => Sc tk fa W hc k (bor u h) + 1000 - fa (W - (k + 1)) h) (c := fun h => tk (W - (k + 1)) h && !u.testBit h) (b := Sc tk fa W hc k u) hc with e | ⟨h, _, _, e⟩
    · rw [e]; have := Sc_b (tk := tk) (fa := fa) (W := W) (hc := hc) k u; omega
    · rw [e]; have := Sc_b (tk := tk) (fa := fa) (W := W) (hc := hc) k (bor u h); omega
theorem Sc_GS {tk : Nat → Nat → Bool} {fa : Nat → Nat → Nat} {far : Nat → Nat → Int} {W hc : Nat} (hfa : ∀ w h, tk w h = true → far w h = fa w h ∧ fa w h ≤ 29) : GS tk far W hc (fun w u => (Sc tk fa W hc (W - w) u : Int)) := by
  refine ⟨fun u _ => by show ((Sc tk fa W hc (W - W) u : Nat) : Int) = 0; rw [Nat.sub_self]; rfl, fun w u hw _ => ?_⟩
  obtain ⟨k, hk⟩ : ∃ k, W - w = k + 1 := ⟨W - w - 1, by omega⟩
  have e1 : W - (w + 1) = k := by omega
  have e2 : W - (k + 1) = w := by omega
  simp only [hk, e1]
  have ge := mxh_ge (g := fun h => Sc tk fa W hc k (bor u h) + 1000 - fa w h) (c := fun h => tk w h && !u.testBit h) (b := Sc tk fa W hc k u) hc
  have at' := mxh_at (g := fun h => Sc tk fa W hc k (bor u h) + 1000 - fa w h) (c := fun h => tk w h && !u.testBit h) (b := Sc tk fa W hc k u) hc
  have ed : Sc tk fa W hc (k + 1) u = mxh (fun h => Sc tk fa W hc k (bor u h) + 1000 - fa w h) (fun h => tk w h && !u.testBit h) (Sc tk fa W hc k u) hc := by
    show mxh _ _ _ _ = _
    rw [e2]
  rw [ed]
  refine ⟨by have := ge.1; omega, fun h hh ht hb => ?_, ?_⟩
  · have := ge.2 h hh (by rw [ht, hb]; rfl)
    have f := hfa w h ht
    rw [f.1]; omega
  · rcases at' with e | ⟨h, a, b, e⟩
    · left; rw [e]
    · obtain ⟨b1, b2⟩ := (Bool.and_eq_true _ _).mp b
      have f := hfa w h b1
      refine .inr ⟨h, a, b1, by simpa using b2, ?_⟩
      rw [e, f.1]; omega
variable {kt : Nat → Nat × Nat} {I I' : Nat → Nat → Int32} {J J' : Nat → Nat → Int64} {T : Nat → Nat → Nat} {n s : Nat} {K : Option Value → am_M → Prop} {N : Nat → Int32} {hc wc tc h w : Nat}
def PG (r : Nat) : Prop := r = 113 ∨ r = 114 ∨ PF r
abbrev faM (N : Nat → Int32) (w h : Nat) : Nat := (faN N w h).toNat
noncomputable abbrev tkD (N : Nat → Int32) (hc wc tc : Nat) : Nat → Nat → Bool := tkS N hc wc tc (-1) (-1)
noncomputable abbrev SD (N : Nat → Int32) (hc wc tc k u : Nat) : Nat := Sc (tkD N hc wc tc) (faM N) wc hc k u
theorem nI_nm1 {k : Nat} (hk : k < 1000) : ¬ nI k = -1 := fun q => absurd (nI_pos (n := k) (by omega)) (by rw [q]; decide)
theorem tkD_t (hw : w < wc) (hw6 : wc ≤ 6) (hh : h < hc) (h10 : hc ≤ 10) : tkD N hc wc tc w h = true ↔ MT N tc w h := ⟨fun q => (tkS_t.mp q).2.2.2.2, fun q => tkS_t.mpr ⟨hh, hw, nI_nm1 (by omega), nI_nm1 (by omega), q⟩⟩
theorem SD_b {k u : Nat} (hk : k ≤ 6) : SD N hc wc tc k u ≤ 6000 := by have := Sc_b (tk := tkD N hc wc tc) (fa := faM N) (W := wc) (hc := hc) k u; unfold SD; omega
theorem faM_b (hB : HB N hc) (hW : WB N wc) (hh : h < hc) (hw : w < wc) : faM N w h ≤ 29 ∧ apt (N (21 + 5 * h + 1)) (N (9 + 2 * w)) = nI (faM N w h) := by
  obtain ⟨k, hk, e1, e2⟩ := faN_k hB hW hh hw
  unfold faM
  rw [e2]
  exact ⟨by omega, by rw [e1]; rfl⟩
theorem i1024 (w u : Nat) : (1024 : Int32) * nI w + nI u = nI (1024 * w + u) := by rw [show (1024 : Int32) = nI 1024 from rfl, pk_mul, nI_add]
set_option maxRecDepth 4000 in
theorem m_score {u v : Nat} (hN : I 108 = N) (hB : HB N hc) (hW : WB N wc) (h10 : hc ≤ 10) (hw6 : wc ≤ 6) (hh : h < hc) (hw : w < wc) (hu : u < 2 ^ hc) (hS : I 113 (1024 * (w + 1) + bor u h) = nI v) (hK : K (some (.int (nI (v + 1000 - faM N w h)))) (am_mk kt I J T n s)) : am_T am_C (150, 2, 0, [.ref 107, .int (nI w), .int (nI u), .int (nI h)], []) (am_mk kt I J T n s) K := by
  have hb := bor_lt hu hh
  have h2 : 2 ^ hc ≤ 1024 := Nat.pow_le_pow_right (n := 2) (by decide) h10
  have f := faM_b hB hW hh hw
  have e1 : (1024 : Int32) * (nI w + 1) + (nI u ||| ((1 : Int32) <<< (nI h &&& 31))) = nI (1024 * (w + 1) + bor u h) := by rw [or_bor (by omega), nI_1, i1024]
  have v1 : vp_in ((1024 : Int32) * (nI w + 1) + (nI u ||| ((1 : Int32) <<< (nI h &&& 31)))) 7168 := by rw [e1]; exact vpl (by omega) (by decide)
  have e2 : (9 : Int32) + 2 * nI w = nI (9 + 2 * w) := e9_of w
  have v2 : vp_in ((9 : Int32) + 2 * nI w) 1448 := by rw [e2]; exact vpl (by omega) (by decide)
  have f1 : I 113 ((1024 : Int32) * (nI w + 1) + (nI u ||| ((1 : Int32) <<< (nI h &&& 31)))).toNatClampNeg = nI v := by rw [e1, nI_clamp (by omega)]; exact hS
  have f2 : I 108 ((9 : Int32) + 2 * nI w).toNatClampNeg = N (9 + 2 * w) := by rw [e2, nI_clamp (by omega), hN]
  have e3 : nI v + 1000 - nI (faM N w h) = nI (v + 1000 - faM N w h) := by rw [show (1000 : Int32) = nI 1000 from rfl, nI_add, nI_subI (by omega)]
  rw [← e3, ← f1] at hK
  refine am_wq_T (cut := fun _ _ => false) (inl := fun z => !(Nat.beq z 140)) 120 _ _ _ ?_
  refine And.intro rfl (And.intro ⟨rfl, v1⟩ (And.intro rfl (And.intro ⟨rfl, v2⟩ (And.intro rfl (m_apartV (h := h) (ap := nI (faM N w h)) hN (by omega) ?_ ?_)))))
  · show apt (N (21 + 5 * h + 1)) (I 108 ((9 : Int32) + 2 * nI w).toNatClampNeg) = _
    rw [f2]; exact f.2
  · exact hK
end T53
