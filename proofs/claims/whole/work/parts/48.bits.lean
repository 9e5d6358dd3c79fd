/-! ints, longs, their bits; the fields of a word -/
/-- a word as a number -/
def wn (w : Int64) : Nat := w.toBitVec.toNat
set_option maxRecDepth 100000 in
theorem ju_bv (w : Int64) (k : Int32) : (ju w k).toBitVec = w.toBitVec >>> ((k.toInt64.toBitVec &&& 63#64).toNat % 64) := by
  rfl
set_option maxRecDepth 100000 in
theorem bn_i {x : Int32} {n : Nat} (h : x.toBitVec.toNat = n) (h2 : n < 2 ^ 31) : x.toInt = n := by
  show x.toBitVec.toInt = n
  rw [BitVec.toInt_eq_toNat_of_lt (by omega), h]
set_option maxRecDepth 100000 in
theorem bn_j {x : Int64} {n : Nat} (h : x.toBitVec.toNat = n) (h2 : n < 2 ^ 63) : x.toInt = n := by
  show x.toBitVec.toInt = n
  rw [BitVec.toInt_eq_toNat_of_lt (by omega), h]
set_option maxRecDepth 100000 in
theorem bn_lt (w : Int64) : wn w < 2 ^ 64 := w.toBitVec.isLt
set_option maxRecDepth 100000 in
/-- the lower half -/
theorem bn_low (w : Int64) : (Int64.toInt32 w).toBitVec.toNat = wn w % 2 ^ 32 := by
  show (w.toBitVec.signExtend 32).toNat = _
  rw [BitVec.signExtend_eq_setWidth_of_le _ (by decide), BitVec.toNat_setWidth]
  rfl
set_option maxRecDepth 100000 in
theorem bn_u {w : Int64} {k : Int32} {n : Nat} (h : (k.toInt64.toBitVec &&& 63#64).toNat % 64 = n) : (ju w k).toBitVec.toNat = wn w / 2 ^ n := by
  rw [ju_bv, BitVec.toNat_ushiftRight, Nat.shiftRight_eq_div_pow, h]
  rfl
set_option maxRecDepth 100000 in
theorem bn_and32 {x : Int32} {n : Nat} (m : Int32) (hm : m.toBitVec.toNat = 2 ^ n - 1) : (x &&& m).toBitVec.toNat = x.toBitVec.toNat % 2 ^ n := by
  show (x.toBitVec &&& m.toBitVec).toNat = _
  rw [BitVec.toNat_and, hm, Nat.and_two_pow_sub_one_eq_mod]
set_option maxRecDepth 100000 in
theorem bn_and64 {x : Int64} {n : Nat} (m : Int64) (hm : m.toBitVec.toNat = 2 ^ n - 1) : (x &&& m).toBitVec.toNat = x.toBitVec.toNat % 2 ^ n := by
  show (x.toBitVec &&& m.toBitVec).toNat = _
  rw [BitVec.toNat_and, hm, Nat.and_two_pow_sub_one_eq_mod]
/-! the fields of a word: kind, offset, .. -/
def wk (w : Int64) : Nat := wn w % 4
def wo (w : Int64) : Int := ((wn w : Int)).bmod (2 ^ 32) / 4
def wd (w : Int64) : Nat := wn w / 2 ^ 32 % 2 ^ 16
def wp (w : Int64) : Nat := wn w / 2 ^ 48
def wc (w : Int64) : Nat := wn w / 2 ^ 32 % 8
def we (w : Int64) : Nat := wn w / 2 ^ 35
def wt (w : Int64) : Nat := wn w / 4 % 2
def wf (w : Int64) : Nat := wn w % 2 ^ 32 / 8
def ws (w : Int64) : Nat := wn w / 2 ^ 32
set_option maxRecDepth 100000 in
theorem bp_kind (w : Int64) : ((Int64.toInt32 w) &&& 3).toInt = wk w := bn_i ((bn_and32 (n := 2) 3 rfl).trans (by rw [bn_low]; unfold wk; omega)) (by unfold wk; omega)
set_option maxRecDepth 100000 in
theorem bm_kind (w : Int64) : (w &&& 3).toInt = wk w := bn_j (bn_and64 (n := 2) 3 rfl) (by unfold wk; omega)
set_option maxRecDepth 100000 in
theorem bm_kind7 (w : Int64) : (w &&& 7).toInt = ((wn w % 8 : Nat) : Int) := bn_j (bn_and64 (n := 3) 7 rfl) (by omega)
set_option maxRecDepth 100000 in
theorem bp_data (w : Int64) : ((Int64.toInt32 (ju w 32)) &&& 65535).toInt = wd w := bn_i ((bn_and32 (n := 16) 65535 rfl).trans (by rw [bn_low]; unfold wd wn; rw [bn_u (n := 32) rfl]; unfold wn; omega)) (by unfold wd; omega)
set_option maxRecDepth 100000 in
theorem bm_data (w : Int64) : (Int64.toInt32 (ju w 32 &&& 65535)).toInt = wd w := bn_i ((bn_low _).trans (by unfold wn; rw [bn_and64 (n := 16) 65535 rfl, bn_u (n := 32) rfl]; unfold wd wn; omega)) (by unfold wd; omega)
set_option maxRecDepth 100000 in
theorem bp_ptrs (w : Int64) : (Int64.toInt32 (ju w 48)).toInt = wp w := bn_i ((bn_low _).trans (by unfold wn; rw [bn_u (n := 48) rfl]; have := bn_lt w; unfold wp; unfold wn at *; omega)) (by have := bn_lt w; unfold wp; omega)
set_option maxRecDepth 100000 in
theorem bp_code (w : Int64) : ((Int64.toInt32 (ju w 32)) &&& 7).toInt = wc w := bn_i ((bn_and32 (n := 3) 7 rfl).trans (by rw [bn_low]; unfold wc wn; rw [bn_u (n := 32) rfl]; unfold wn; omega)) (by unfold wc; omega)
set_option maxRecDepth 100000 in
theorem bm_code (w : Int64) : (Int64.toInt32 (ju w 32 &&& 7)).toInt = wc w := bn_i ((bn_low _).trans (by unfold wn; rw [bn_and64 (n := 3) 7 rfl, bn_u (n := 32) rfl]; unfold wc wn; omega)) (by unfold wc; omega)
set_option maxRecDepth 100000 in
theorem bp_elem (w : Int64) : (Int64.toInt32 (ju w 35)).toInt = we w := bn_i ((bn_low _).trans (by unfold wn; rw [bn_u (n := 35) rfl]; have := bn_lt w; unfold we; unfold wn at *; omega)) (by have := bn_lt w; unfold we; omega)
set_option maxRecDepth 100000 in
theorem bm_elem (w : Int64) : (ju w 35).toInt = we w := bn_j ((bn_u (n := 35) rfl).trans rfl) (by have := bn_lt w; unfold we; omega)
set_option maxRecDepth 100000 in
theorem bp_seg (w : Int64) : (ju w 32).toInt = ws w := bn_j ((bn_u (n := 32) rfl).trans rfl) (by have := bn_lt w; unfold ws; omega)
set_option maxRecDepth 100000 in
theorem bp_far (w : Int64) : (iu (Int64.toInt32 w) 3).toInt = wf w := by
  refine bn_i (?_ : ((Int64.toInt32 w).toBitVec >>> 3).toNat = _) (by have := bn_lt w; unfold wf; omega)
  rw [BitVec.toNat_ushiftRight, Nat.shiftRight_eq_div_pow, bn_low]
  rfl
set_option maxRecDepth 100000 in
theorem bm_far (w : Int64) : (ju w 3 &&& 536870911).toInt = wf w := bn_j ((bn_and64 (n := 29) 536870911 rfl).trans (by rw [bn_u (n := 3) rfl]; unfold wf; omega)) (by unfold wf; omega)
set_option maxRecDepth 100000 in
theorem bp_off (w : Int64) : (ir (Int64.toInt32 w) 2).toInt = wo w := by
  show ((Int64.toInt32 w).toBitVec.sshiftRight 2).toInt = _
  rw [BitVec.toInt_sshiftRight, Int.shiftRight_eq_div_pow, BitVec.toInt_eq_toNat_bmod, bn_low]
  unfold wo
  rw [show ((wn w % 2 ^ 32 : Nat) : Int).bmod (2 ^ 32) = (wn w : Int).bmod (2 ^ 32) by rw [Int.natCast_emod]; exact Int.emod_bmod _ _]
  rfl
set_option maxRecDepth 100000 in
theorem bn_bit (x i : Nat) : x &&& 2 ^ i = 0 ↔ x / 2 ^ i % 2 = 0 := by
  constructor
  · intro h
    have h1 : (x &&& 2 ^ i).testBit i = false := by rw [h, Nat.zero_testBit]
    rw [Nat.testBit_and, Nat.testBit_two_pow_self, Bool.and_true, Nat.testBit_eq_decide_div_mod_eq] at h1
    have := of_decide_eq_false h1
    omega
  · intro h
    refine Nat.eq_of_testBit_eq fun j => ?_
    rw [Nat.zero_testBit, Nat.testBit_and, Nat.testBit_two_pow]
    by_cases hj : i = j
    · subst hj
      rw [Nat.testBit_eq_decide_div_mod_eq, decide_eq_false (by omega)]
      rfl
    · rw [decide_eq_false hj, Bool.and_false]
set_option maxRecDepth 100000 in
theorem bp_near (w : Int64) : (w &&& 2) = 0 ↔ wk w < 2 := by
  rw [← Int64.toBitVec_inj]
  show w.toBitVec &&& 2#64 = 0#64 ↔ _
  rw [← BitVec.toNat_inj, BitVec.toNat_and]
  show wn w &&& 2 ^ 1 = 0 ↔ wn w % 4 < 2
  rw [bn_bit]
  omega
set_option maxRecDepth 100000 in
theorem bp_dbl (w : Int64) : (w &&& 4) = 0 ↔ wt w = 0 := by
  rw [← Int64.toBitVec_inj]
  show w.toBitVec &&& 4#64 = 0#64 ↔ _
  rw [← BitVec.toNat_inj, BitVec.toNat_and]
  show wn w &&& 2 ^ 2 = 0 ↔ wn w / 4 % 2 = 0
  rw [bn_bit]
set_option maxRecDepth 100000 in
theorem bm_dbl (w : Int64) : (ju w 2 &&& 1).toInt = wt w := bn_j ((bn_and64 (n := 1) 1 rfl).trans (by rw [bn_u (n := 2) rfl]; rfl)) (by unfold wt; omega)
set_option maxRecDepth 100000 in
theorem wn_0 {w : Int64} : w = 0 ↔ wn w = 0 := by
  rw [← Int64.toBitVec_inj, ← BitVec.toNat_inj]
  rfl

/-! pointers put together -/
set_option maxRecDepth 100000 in
theorem bw_ext {x y : Int64} (h : ∀ i, i < 64 → x.toBitVec.getLsbD i = y.toBitVec.getLsbD i) : x = y := Int64.toBitVec_inj.mp (BitVec.eq_of_getLsbD_eq h)
set_option maxRecDepth 100000 in
theorem bw_or (x y : Int64) (i : Nat) : (x ||| y).toBitVec.getLsbD i = (x.toBitVec.getLsbD i || y.toBitVec.getLsbD i) := BitVec.getLsbD_or
set_option maxRecDepth 100000 in
theorem bw_and (x y : Int64) (i : Nat) : (x &&& y).toBitVec.getLsbD i = (x.toBitVec.getLsbD i && y.toBitVec.getLsbD i) := BitVec.getLsbD_and
set_option maxRecDepth 100000 in
theorem bw_xor (x y : Int64) (i : Nat) : (x ^^^ y).toBitVec.getLsbD i = (x.toBitVec.getLsbD i ^^ y.toBitVec.getLsbD i) := BitVec.getLsbD_xor
/-- by how much a long is shifted -/
def bs (k : Int32) : Nat := (k.toInt64.toBitVec &&& 63#64).toNat
set_option maxRecDepth 100000 in
theorem bs_lt (k : Int32) : bs k < 64 := by
  unfold bs
  rw [BitVec.toNat_and]
  show _ &&& (2 ^ 6 - 1) < 64
  rw [Nat.and_two_pow_sub_one_eq_mod]
  omega
set_option maxRecDepth 100000 in
theorem bs_of {k : Int32} {n : Nat} (h : k.toInt = n) (hn : n < 64) : bs k = n := by
  unfold bs
  rw [BitVec.toNat_and]
  show _ &&& (2 ^ 6 - 1) = n
  rw [Nat.and_two_pow_sub_one_eq_mod]
  have e : k.toInt64.toBitVec.toInt = n := by
    show k.toInt64.toInt = n
    rw [Int32.toInt_toInt64, h]
  have e2 : k.toInt64.toBitVec.toNat = n := by
    rw [BitVec.toInt_eq_toNat_cond] at e
    split at e
    · omega
    · have := k.toInt64.toBitVec.isLt; omega
  rw [e2]
  omega
set_option maxRecDepth 100000 in
theorem bs_smod (k : Int32) : ((k.toInt64 &&& 63).toBitVec.smod 64#64).toNat = bs k := by
  have h : ∀ m : Fin 64, ((BitVec.ofNat 64 m.1).smod 64#64).toNat = m.1 := by decide +kernel
  have e : (k.toInt64 &&& 63).toBitVec = BitVec.ofNat 64 (bs k) := by
    unfold bs
    rw [BitVec.ofNat_toNat, BitVec.setWidth_eq]
    rfl
  rw [e]
  exact h ⟨bs k, bs_lt k⟩
set_option maxRecDepth 100000 in
theorem bs_ju (w : Int64) (k : Int32) : (ju w k).toBitVec = w.toBitVec >>> bs k := by
  rw [ju_bv]
  rw [show (k.toInt64.toBitVec &&& 63#64).toNat % 64 = bs k from Nat.mod_eq_of_lt (bs_lt k)]
set_option maxRecDepth 100000 in
theorem bs_jl (w : Int64) (k : Int32) : (jl w k).toBitVec = w.toBitVec <<< bs k := by
  unfold jl
  rw [Int64.toBitVec_shiftLeft]
  show w.toBitVec <<< ((k.toInt64 &&& 63).toBitVec.smod 64#64).toNat = _
  rw [bs_smod]
set_option maxRecDepth 100000 in
theorem bw_jl {x : Int64} {k : Int32} {n i : Nat} (h : bs k = n) (hi : i < 64) : (jl x k).toBitVec.getLsbD i = (!decide (i < n) && x.toBitVec.getLsbD (i - n)) := by
  rw [bs_jl, h, BitVec.getLsbD_shiftLeft, decide_eq_true hi, Bool.true_and]
set_option maxRecDepth 100000 in
theorem bw_ju {x : Int64} {k : Int32} {n i : Nat} (h : bs k = n) : (ju x k).toBitVec.getLsbD i = x.toBitVec.getLsbD (n + i) := by
  rw [bs_ju, h, BitVec.getLsbD_ushiftRight]
set_option maxRecDepth 100000 in
theorem bw_c (i : Nat) (n : Int64) : n.toBitVec.getLsbD i = n.toBitVec.toNat.testBit i := rfl
set_option maxRecDepth 100000 in
theorem bw_off : (4294967292 : Int64).toBitVec.toNat = 2 ^ 32 - 4 := by decide
set_option maxRecDepth 100000 in
theorem bw_low {i n : Nat} {x : Int64} (hx : x.toBitVec.toNat = 2 ^ n - 1) : x.toBitVec.getLsbD i = decide (i < n) := by
  show x.toBitVec.toNat.testBit i = _
  rw [hx, Nat.testBit_two_pow_sub_one]
set_option maxRecDepth 100000 in
/-- the offset's bits are 2 to 31 -/
theorem bw_mask {i : Nat} (hi : i < 64) : (4294967292 : Int64).toBitVec.getLsbD i = (decide (2 ≤ i) && decide (i < 32)) := by
  have h : ∀ i : Fin 64, (4294967292 : Int64).toBitVec.getLsbD i.1 = (decide (2 ≤ i.1) && decide (i.1 < 32)) := by decide +kernel
  exact h ⟨i, hi⟩
set_option maxRecDepth 100000 in
theorem bw_maskn {i : Nat} (hi : i < 64) : (-4294967293 : Int64).toBitVec.getLsbD i = !(decide (2 ≤ i) && decide (i < 32)) := by
  have h : ∀ i : Fin 64, (-4294967293 : Int64).toBitVec.getLsbD i.1 = !(decide (2 ≤ i.1) && decide (i.1 < 32)) := by decide +kernel
  exact h ⟨i, hi⟩
set_option maxRecDepth 100000 in
theorem bw_mid {w : Int64} (h : wn w % 2 ^ 32 < 4) {i : Nat} (h2 : 2 ≤ i) (h32 : i < 32) : w.toBitVec.getLsbD i = false := by
  show (wn w).testBit i = false
  rw [show i = 2 + (i - 2) by omega]
  have e : (wn w).testBit (2 + (i - 2)) = (wn w % 2 ^ 32).testBit (2 + (i - 2)) := by
    rw [Nat.testBit_mod_two_pow, decide_eq_true (by omega), Bool.true_and]
  rw [e]
  refine Nat.testBit_lt_two_pow (Nat.lt_of_lt_of_le h ?_)
  calc 4 = 2 ^ 2 := rfl
    _ ≤ 2 ^ (2 + (i - 2)) := Nat.pow_le_pow_right (by decide) (by omega)
set_option maxRecDepth 100000 in
/-- an offset put in, in both manners -/
theorem bw_near {w : Int64} (h : wn w % 2 ^ 32 < 4) (o : Int32) : ((w &&& -4294967293) ||| (jl (Int32.toInt64 o) 2 &&& 4294967292)) = (w ||| jl (Int32.toInt64 o &&& 1073741823) 2) := by
  refine bw_ext fun i hi => ?_
  rw [bw_or, bw_and, bw_and, bw_or, bw_jl (n := 2) rfl hi, bw_jl (n := 2) rfl hi, bw_and, bw_mask hi, bw_maskn hi, bw_low (x := 1073741823) (n := 30) rfl]
  by_cases h2 : 2 ≤ i
  · by_cases h32 : i < 32
    · rw [bw_mid h h2 h32, decide_eq_true h2, decide_eq_true h32, decide_eq_false (show ¬ i < 2 by omega), decide_eq_true (show i - 2 < 30 by omega)]
      simp
    · rw [decide_eq_false h32, decide_eq_false (show ¬ i - 2 < 30 by omega)]
      simp
  · rw [decide_eq_false h2, decide_eq_true (show i < 2 by omega)]
    simp

set_option maxRecDepth 100000 in
theorem bw_sh (v m : Int64) (s : Int32) : jl (v &&& m) s = (jl v s &&& jl m s) := by
  refine bw_ext fun i hi => ?_
  rw [bw_and, bw_jl rfl hi, bw_jl rfl hi, bw_jl rfl hi, bw_and]
  cases decide (i < bs s) <;> simp
set_option maxRecDepth 100000 in
theorem bw_ones {k : Int32} {n : Nat} (h : k.toInt = n) (hn : n < 64) : (jl 1 k - 1).toBitVec.toNat = 2 ^ n - 1 := by
  show ((jl 1 k).toBitVec - 1#64).toNat = _
  rw [bs_jl, bs_of h hn]
  have h1 : (1#64 <<< n).toNat = 2 ^ n := by
    rw [BitVec.toNat_shiftLeft, Nat.shiftLeft_eq]
    show 1 * 2 ^ n % 2 ^ 64 = _
    rw [Nat.one_mul]
    exact Nat.mod_eq_of_lt (Nat.pow_lt_pow_right (by decide) hn)
  have h2 : 1 ≤ 2 ^ n := Nat.one_le_two_pow
  have h3 : 2 ^ n < 2 ^ 64 := Nat.pow_lt_pow_right (by decide) hn
  rw [BitVec.toNat_sub]
  show (2 ^ 64 - 1 + (1#64 <<< n).toNat) % 2 ^ 64 = _
  rw [h1]
  generalize 2 ^ n = z at *
  omega
/-! ints and longs as whole numbers -/
set_option maxRecDepth 100000 in
theorem ia {a b : Int32} (h1 : -2 ^ 31 ≤ a.toInt + b.toInt) (h2 : a.toInt + b.toInt < 2 ^ 31) : (a + b).toInt = a.toInt + b.toInt := by
  rw [Int32.toInt_add]
  exact Int.bmod_eq_of_le (by omega) (by omega)
set_option maxRecDepth 100000 in
theorem is {a b : Int32} (h1 : -2 ^ 31 ≤ a.toInt - b.toInt) (h2 : a.toInt - b.toInt < 2 ^ 31) : (a - b).toInt = a.toInt - b.toInt := by
  rw [Int32.toInt_sub]
  exact Int.bmod_eq_of_le (by omega) (by omega)
set_option maxRecDepth 100000 in
theorem im {a b : Int32} (h1 : -2 ^ 31 ≤ a.toInt * b.toInt) (h2 : a.toInt * b.toInt < 2 ^ 31) : (a * b).toInt = a.toInt * b.toInt := by
  rw [Int32.toInt_mul]
  exact Int.bmod_eq_of_le (by omega) (by omega)
set_option maxRecDepth 100000 in
theorem ja {a b : Int64} (h1 : -2 ^ 63 ≤ a.toInt + b.toInt) (h2 : a.toInt + b.toInt < 2 ^ 63) : (a + b).toInt = a.toInt + b.toInt := by
  rw [Int64.toInt_add]
  exact Int.bmod_eq_of_le (by omega) (by omega)
set_option maxRecDepth 100000 in
theorem js {a b : Int64} (h1 : -2 ^ 63 ≤ a.toInt - b.toInt) (h2 : a.toInt - b.toInt < 2 ^ 63) : (a - b).toInt = a.toInt - b.toInt := by
  rw [Int64.toInt_sub]
  exact Int.bmod_eq_of_le (by omega) (by omega)
set_option maxRecDepth 100000 in
theorem jm {a b : Int64} (h1 : -2 ^ 63 ≤ a.toInt * b.toInt) (h2 : a.toInt * b.toInt < 2 ^ 63) : (a * b).toInt = a.toInt * b.toInt := by
  rw [Int64.toInt_mul]
  exact Int.bmod_eq_of_le (by omega) (by omega)
set_option maxRecDepth 100000 in
theorem id_ {a b : Int32} (ha : 0 ≤ a.toInt) (hb : 0 < b.toInt) : (a / b).toInt = a.toInt / b.toInt := by
  rw [Int32.toInt_div, Int.tdiv_eq_ediv_of_nonneg ha]
  have h1 := Int.ediv_nonneg ha (Int.le_of_lt hb)
  have h2 := Int.ediv_le_self b.toInt ha
  have := a.toInt_lt
  exact Int.bmod_eq_of_le (by omega) (by omega)
set_option maxRecDepth 100000 in
theorem jd {a b : Int64} (ha : 0 ≤ a.toInt) (hb : 0 < b.toInt) : (a / b).toInt = a.toInt / b.toInt := by
  rw [Int64.toInt_div, Int.tdiv_eq_ediv_of_nonneg ha]
  have h1 := Int.ediv_nonneg ha (Int.le_of_lt hb)
  have h2 := Int.ediv_le_self b.toInt ha
  have := a.toInt_lt
  exact Int.bmod_eq_of_le (by omega) (by omega)
set_option maxRecDepth 100000 in
theorem irm_ {a b : Int32} (ha : 0 ≤ a.toInt) (hb : 0 < b.toInt) : (irm a b).toInt = a.toInt % b.toInt := by
  have hd := id_ ha hb
  have h1 := Int.emod_nonneg a.toInt (by omega : b.toInt ≠ 0)
  have h2 := Int.emod_lt_of_pos a.toInt hb
  have h3 := Int.mul_ediv_add_emod a.toInt b.toInt
  have h4 := a.toInt_lt
  have h5 := b.toInt_lt
  have h6 : (a / b * b).toInt = b.toInt * (a.toInt / b.toInt) := by
    rw [im, hd, Int.mul_comm]
    · rw [hd, Int.mul_comm]; omega
    · rw [hd, Int.mul_comm]; omega
  unfold irm
  rw [is] <;> rw [h6] <;> omega
set_option maxRecDepth 100000 in
theorem tl (a : Int32) : (Int32.toInt64 a).toInt = a.toInt := Int32.toInt_toInt64 a
set_option maxRecDepth 100000 in
theorem ti {a : Int64} (h1 : -2 ^ 31 ≤ a.toInt) (h2 : a.toInt < 2 ^ 31) : (Int64.toInt32 a).toInt = a.toInt := by
  rw [Int64.toInt_toInt32]
  exact Int.bmod_eq_of_le (by omega) (by omega)
