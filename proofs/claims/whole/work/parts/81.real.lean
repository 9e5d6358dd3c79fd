/-! a number out of its bits, on both sides -/
def mrv (v : Int64) (p1 p2 : Int32) : UInt64 := if ((ju v (p1 + p2)) &&& (1 : Int64)) = (1 : Int64) then (FP.dneg (fp_v (mrm v p1 p2).toInt.toNat (mre v p1 p2).toInt)) else (fp_v (mrm v p1 p2).toInt.toNat (mre v p1 p2).toInt)
def mrk (v : Int64) (p1 p2 : Int32) : Prop := 0 ≤ (mrm v p1 p2).toInt ∧ (mrm v p1 p2).toInt < 2 ^ 53 ∧ -1074 ≤ (mre v p1 p2).toInt ∧ (mre v p1 p2).toInt ≤ 971
theorem hc_M_realOf {X : pm_X} {d : Nat} {I : st_I} {J : st_J} {p0 : Int64} {p1 p2 : Int32} (r : pm_R) : (mrk p0 p1 p2) ∧ r = (.inl (some (.double (mrv p0 p1 p2))), st_h I J, 0, 0) → Ex X (d + 1) 203 [.long p0, .int p1, .int p2] (st_h I J) r := by
  rintro ⟨⟨h1, h2, h3, h4⟩, rfl⟩
  exact mr_ex h1 h2 h3 h4
/-- both manners' exponents -/
theorem exo_i {x : Int64} {s m : Int32} {n : Nat} (hm : m.toBitVec.toNat = 2 ^ n - 1) (hn : n ≤ 12) : 0 ≤ ((Int64.toInt32 (ju x s)) &&& m).toInt ∧ ((Int64.toInt32 (ju x s)) &&& m).toInt < 4096 := by
  have h : ((Int64.toInt32 (ju x s)) &&& m).toBitVec.toNat = (Int64.toInt32 (ju x s)).toBitVec.toNat % 2 ^ n := bn_and32 m hm
  have hp : 2 ^ n ≤ 2 ^ 12 := Nat.pow_le_pow_right (by decide) hn
  have hlt : (Int64.toInt32 (ju x s)).toBitVec.toNat % 2 ^ n < 2 ^ n := Nat.mod_lt _ (Nat.two_pow_pos n)
  rw [bn_i h (by omega)]
  omega
theorem one_c (x : Int64) : (¬ ((x &&& 1) = 0)) ↔ (x &&& 1) = 1 := by
  have h : (x &&& 1).toInt = ((wn x % 2 : Nat) : Int) := bn_j (bn_and64 (n := 1) 1 rfl) (by omega)
  rw [i64_eq, i64_eq, h, j0, show (1 : Int64).toInt = 1 from rfl]
  omega
theorem exo_p {e : Int32} {a b c : Int32} (h : 0 ≤ e.toInt ∧ e.toInt < 4096) (hab : b.toInt = a.toInt + 1) (ha : 0 ≤ a.toInt ∧ a.toInt < 4096) : ((if e < (1 : Int32) then (1 : Int32) else e) - a) - c = (((if e = (0 : Int32) then (1 : Int32) else e) - b) + (1 : Int32)) - c := by
  have e1 : (1 : Int32).toInt = 1 := rfl
  have hx : (if e < (1 : Int32) then (1 : Int32) else e) = (if e = (0 : Int32) then (1 : Int32) else e) := by
    by_cases q : e = 0
    · rw [if_pos q, if_pos (by rw [q]; decide)]
    · rw [if_neg q, if_neg]
      rw [i32_eq, i0] at q
      rw [i32_lt, e1]
      omega
  rw [hx]
  congr 1
  have hb : 0 ≤ (if e = (0 : Int32) then (1 : Int32) else e).toInt ∧ (if e = (0 : Int32) then (1 : Int32) else e).toInt < 4096 := by
    split
    · decide
    · exact h
  generalize (if e = (0 : Int32) then (1 : Int32) else e) = x at *
  rw [i32_eq, ia2 (is2 rfl rfl (by omega) (by omega)) e1 (by omega) (by omega), is2 rfl rfl (by omega) (by omega)]
  omega
def fbv (v : Int64) (p : Int32) : UInt64 := if p = (0 : Int32) then mrv v 23 8 else mrv v 52 11
def fbk (v : Int64) (p : Int32) : Prop := (p = 0 → mrk v 23 8) ∧ (p ≠ 0 → mrk v 52 11)
set_option maxRecDepth 20000 in
theorem hc_Ra_fromBits {X : pm_X} {d : Nat} {I : st_I} {J : st_J} {p0 : Int64} {p1 : Int32} (r : pm_R) : (fbk p0 p1) ∧ r = (.inl (some (.double (fbv p0 p1))), st_h I J, 0, 0) → Ex X (d + 3) 80 [.long p0, .int p1] (st_h I J) r := by
  rintro ⟨⟨h0, h1⟩, rfl⟩
  by_cases c : p1 = 0
  · subst c
    obtain ⟨k1, k2, k3, k4⟩ := h0 rfl
    have hv : fbv p0 0 = mrv p0 23 8 := if_pos rfl
    rw [hv]
    have sc := sc_ex (X := X) (d := d) (I := I) (J := J) (m := (mrm p0 23 8).toInt.toNat) (p1 := mre p0 23 8) (by omega) k3 k4
    rw [← fp_l2d k1] at sc
    refine iv_Ra_fromBits (K := I) (b := fp_v (mrm p0 23 8).toInt.toNat (mre p0 23 8).toInt) _ ⟨?_, ?_⟩
    · have e1 : (if ((Int64.toInt32 (ju p0 (if (0 : Int32) = (0 : Int32) then (23 : Int32) else (52 : Int32)))) &&& (if (0 : Int32) = (0 : Int32) then (255 : Int32) else (2047 : Int32))) = (0 : Int32) then (FP.l2d (p0 &&& (if (if (0 : Int32) = (0 : Int32) then (23 : Int32) else (52 : Int32)) < (64 : Int32) then ((jl (1 : Int64) (if (0 : Int32) = (0 : Int32) then (23 : Int32) else (52 : Int32))) - (1 : Int64)) else (-1 : Int64)))) else (FP.l2d ((p0 &&& (if (if (0 : Int32) = (0 : Int32) then (23 : Int32) else (52 : Int32)) < (64 : Int32) then ((jl (1 : Int64) (if (0 : Int32) = (0 : Int32) then (23 : Int32) else (52 : Int32))) - (1 : Int64)) else (-1 : Int64))) ||| (jl (1 : Int64) (if (0 : Int32) = (0 : Int32) then (23 : Int32) else (52 : Int32)))))) = FP.l2d (mrm p0 23 8) := by
        unfold mrm
        rw [if_pos (show (0 : Int32) = 0 from rfl), if_pos (show (0 : Int32) = 0 from rfl), if_pos (show (23 : Int32) < 64 by decide), show (il (1 : Int32) 8) - 1 = 255 by decide]
        split <;> rfl
      have e2 : (((if ((Int64.toInt32 (ju p0 (if (0 : Int32) = (0 : Int32) then (23 : Int32) else (52 : Int32)))) &&& (if (0 : Int32) = (0 : Int32) then (255 : Int32) else (2047 : Int32))) < (1 : Int32) then (1 : Int32) else ((Int64.toInt32 (ju p0 (if (0 : Int32) = (0 : Int32) then (23 : Int32) else (52 : Int32)))) &&& (if (0 : Int32) = (0 : Int32) then (255 : Int32) else (2047 : Int32)))) - (if (0 : Int32) = (0 : Int32) then (127 : Int32) else (1023 : Int32))) - (if (0 : Int32) = (0 : Int32) then (23 : Int32) else (52 : Int32))) = mre p0 23 8 := by
        unfold mre
        rw [if_pos (show (0 : Int32) = 0 from rfl), if_pos (show (0 : Int32) = 0 from rfl), if_pos (show (0 : Int32) = 0 from rfl), show (il (1 : Int32) 8) - 1 = 255 by decide]
        exact exo_p (exo_i (n := 8) rfl (by decide)) (by decide) (by decide)
      rw [e1, e2]
      exact sc
    · unfold mrv
      rw [if_pos (show (0 : Int32) = 0 from rfl), show (23 : Int32) + 8 = 31 by decide]
      have hs := one_c (ju p0 31)
      by_cases q : (ju p0 31 &&& 1) = 1
      · rw [if_pos q, if_pos (hs.mpr q)]
      · rw [if_neg q, if_neg (fun z => q (hs.mp z))]
  · obtain ⟨k1, k2, k3, k4⟩ := h1 c
    have hv : fbv p0 p1 = mrv p0 52 11 := if_neg c
    rw [hv]
    have sc := sc_ex (X := X) (d := d) (I := I) (J := J) (m := (mrm p0 52 11).toInt.toNat) (p1 := mre p0 52 11) (by omega) k3 k4
    rw [← fp_l2d k1] at sc
    refine iv_Ra_fromBits (K := I) (b := fp_v (mrm p0 52 11).toInt.toNat (mre p0 52 11).toInt) _ ⟨?_, ?_⟩
    · rw [if_neg c, if_neg c, if_neg c]
      have e1 : (if ((Int64.toInt32 (ju p0 (52 : Int32))) &&& (2047 : Int32)) = (0 : Int32) then (FP.l2d (p0 &&& (if (52 : Int32) < (64 : Int32) then ((jl (1 : Int64) (52 : Int32)) - (1 : Int64)) else (-1 : Int64)))) else (FP.l2d ((p0 &&& (if (52 : Int32) < (64 : Int32) then ((jl (1 : Int64) (52 : Int32)) - (1 : Int64)) else (-1 : Int64))) ||| (jl (1 : Int64) (52 : Int32))))) = FP.l2d (mrm p0 52 11) := by
        unfold mrm
        rw [if_pos (show (52 : Int32) < 64 by decide), show (il (1 : Int32) 11) - 1 = 2047 by decide]
        split <;> rfl
      have e2 : (((if ((Int64.toInt32 (ju p0 (52 : Int32))) &&& (2047 : Int32)) < (1 : Int32) then (1 : Int32) else ((Int64.toInt32 (ju p0 (52 : Int32))) &&& (2047 : Int32))) - (1023 : Int32)) - (52 : Int32)) = mre p0 52 11 := by
        unfold mre
        rw [show (il (1 : Int32) 11) - 1 = 2047 by decide]
        exact exo_p (exo_i (n := 11) rfl (by decide)) (by decide) (by decide)
      rw [e1, e2]
      exact sc
    · unfold mrv
      rw [if_neg c, show (52 : Int32) + 11 = 63 by decide]
      have hs := one_c (ju p0 63)
      by_cases q : (ju p0 63 &&& 1) = 1
      · rw [if_pos q, if_pos (hs.mpr q)]
      · rw [if_neg q, if_neg (fun z => q (hs.mp z))]
/-- what is finite can be made -/
theorem mrk_of {v : Int64} {p1 p2 m : Int32} {n w : Nat} (h1 : p1.toInt = n) (hn : n ≤ 52) (hm : (il (1 : Int32) p2) - 1 = m) (hw : m.toBitVec.toNat = 2 ^ w - 1) (hwl : w ≤ 12) (hb : (il (1 : Int32) (p2 - 1)).toInt = (2 ^ (w - 1) : Nat)) (hmi : m.toInt = ((2 ^ w - 1 : Nat) : Int)) (hr1 : (2 : Int) - (2 ^ (w - 1) : Nat) - n ≥ -1074) (hr2 : ((2 ^ w - 1 : Nat) : Int) - (2 ^ (w - 1) : Nat) - n ≤ 971) (hx : ¬ ((Int64.toInt32 (ju v p1)) &&& m) = m) : mrk v p1 p2 := by
  have hf : (v &&& ((jl (1 : Int64) p1) - (1 : Int64))).toBitVec.toNat = v.toBitVec.toNat % 2 ^ n := bn_and64 _ (bw_ones h1 (by omega))
  have hp : 2 ^ n ≤ 2 ^ 52 := Nat.pow_le_pow_right (by decide) hn
  have hlt : v.toBitVec.toNat % 2 ^ n < 2 ^ n := Nat.mod_lt _ (Nat.two_pow_pos n)
  have hfb : (v &&& ((jl (1 : Int64) p1) - (1 : Int64))).toBitVec.toNat < 2 ^ 53 := by omega
  have hjb : (jl (1 : Int64) p1).toBitVec.toNat < 2 ^ 53 := by
    rw [bs_jl, bs_of h1 (by omega), BitVec.toNat_shiftLeft, Nat.shiftLeft_eq]
    show 1 * 2 ^ n % 2 ^ 64 < _
    have := Nat.mod_le (1 * 2 ^ n) (2 ^ 64)
    omega
  have hob : ((v &&& ((jl (1 : Int64) p1) - (1 : Int64))) ||| (jl (1 : Int64) p1)).toBitVec.toNat < 2 ^ 53 := by
    show ((v &&& ((jl (1 : Int64) p1) - (1 : Int64))).toBitVec ||| (jl (1 : Int64) p1).toBitVec).toNat < _
    rw [BitVec.toNat_or]
    exact Nat.or_lt_two_pow hfb hjb
  have hE := exo_i (x := v) (s := p1) hw hwl
  have hEm : ((Int64.toInt32 (ju v p1)) &&& m).toInt < m.toInt := by
    have h : ((Int64.toInt32 (ju v p1)) &&& m).toBitVec.toNat = (Int64.toInt32 (ju v p1)).toBitVec.toNat % 2 ^ w := bn_and32 m hw
    have hpw : 2 ^ w ≤ 2 ^ 12 := Nat.pow_le_pow_right (by decide) hwl
    have hl : (Int64.toInt32 (ju v p1)).toBitVec.toNat % 2 ^ w < 2 ^ w := Nat.mod_lt _ (Nat.two_pow_pos w)
    have hv := bn_i h (by omega)
    have hne : ((Int64.toInt32 (ju v p1)) &&& m).toInt ≠ m.toInt := fun q => hx (Int32.toInt_inj.mp q)
    rw [hmi] at hne ⊢
    omega
  unfold mrk mrm mre
  rw [hm]
  refine ⟨?_, ?_, ?_⟩
  · split
    · rw [bn_j rfl (by omega)]; omega
    · rw [bn_j rfl (by omega)]; omega
  · split
    · rw [bn_j rfl (by omega)]; omega
    · rw [bn_j rfl (by omega)]; omega
  · have hX : 1 ≤ (if ((Int64.toInt32 (ju v p1)) &&& m) = (0 : Int32) then (1 : Int32) else ((Int64.toInt32 (ju v p1)) &&& m)).toInt ∧ (if ((Int64.toInt32 (ju v p1)) &&& m) = (0 : Int32) then (1 : Int32) else ((Int64.toInt32 (ju v p1)) &&& m)).toInt ≤ max 1 (m.toInt - 1) := by
      by_cases q : ((Int64.toInt32 (ju v p1)) &&& m) = (0 : Int32)
      · rw [if_pos q, show (1 : Int32).toInt = 1 from rfl]
        omega
      · rw [if_neg q]
        rw [i32_eq, i0] at q
        omega
    have hpw : 2 ^ (w - 1) ≤ 2 ^ 12 := Nat.pow_le_pow_right (by decide) (by omega)
    have hpw2 : 2 ^ w ≤ 2 ^ 12 := Nat.pow_le_pow_right (by decide) hwl
    generalize (if ((Int64.toInt32 (ju v p1)) &&& m) = (0 : Int32) then (1 : Int32) else ((Int64.toInt32 (ju v p1)) &&& m)) = x at *
    rw [hmi] at hX
    generalize 2 ^ (w - 1) = z at *
    generalize 2 ^ w = z2 at *
    rw [is2 (ia2 (is2 rfl hb (by omega) (by omega)) (show (1 : Int32).toInt = 1 from rfl) (by omega) (by omega)) h1 (by omega) (by omega)]
    omega
