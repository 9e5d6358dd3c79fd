/-! doubles: numbers with a leading digit, written by digits and exponent -/
def fp_n (s : Bool) (D : Nat) (q : Int) : UInt64 := FP.Core.of64 (.fin s D q)
def fp_N (D : Nat) (q : Int) : Prop := 2 ^ 52 ≤ D ∧ D < 2 ^ 53 ∧ -1074 ≤ q ∧ q ≤ 971
set_option maxRecDepth 100000 in
theorem fp_qmin : FP.Core.b64.qmin = -1074 := by decide
set_option maxRecDepth 100000 in
theorem fp_qmax : FP.Core.b64.qmax = 971 := by decide
set_option maxRecDepth 100000 in
theorem fp_tails : FP.Core.b64.tails = 2 ^ 52 := by decide
set_option maxRecDepth 100000 in
theorem fp_fit {s : Bool} {D : Nat} {q : Int} (h : fp_N D q) : FP.Core.fits FP.Core.b64 (.fin s D q) := by
  refine ⟨h.2.1, ?_, ?_, Or.inr ?_⟩
  · rw [fp_qmin]; exact h.2.2.1
  · rw [fp_qmax]; exact h.2.2.2
  · rw [fp_tails]; exact h.1
set_option maxRecDepth 100000 in
theorem fp_val {s : Bool} {D : Nat} {q : Int} (h : fp_N D q) : FP.Core.val64 (fp_n s D q) = .fin s D q := FP.Core.val64_of64 (fp_fit h)
set_option maxRecDepth 100000 in
theorem fp_mul {s : Bool} {D : Nat} {q j : Int} {y : UInt64} (h : fp_N D q) (h' : fp_N D (q + j)) (hy : FP.Core.val64 y = .fin false (2 ^ 52) (j - 52)) : FP.dmul (fp_n s D q) y = fp_n s D (q + j) := by
  show FP.Core.of64 (FP.Core.round FP.Core.b64 (FP.Core.exactProduct (FP.Core.val64 (fp_n s D q)) (FP.Core.val64 y))) = _
  rw [fp_val h, hy]
  show FP.Core.of64 (FP.Core.roundRatio FP.Core.b64 (s != false) (D * 2 ^ 52) 1 (q + (j - 52))) = _
  rw [Bool.bne_false, FP.Core.roundRatio_exact FP.Core.good_b64 (by decide) (fp_fit (s := s) h') ?_]
  · rfl
  · rw [show (q + (j - 52) - (q + j)).toNat = 0 by omega, show (q + j - (q + (j - 52))).toNat = 52 by omega]
    omega
set_option maxRecDepth 100000 in
theorem fp_div {s : Bool} {D : Nat} {q j : Int} {y : UInt64} (h : fp_N D q) (h' : fp_N D (q - j)) (hy : FP.Core.val64 y = .fin false (2 ^ 52) (j - 52)) : FP.ddiv (fp_n s D q) y = fp_n s D (q - j) := by
  show FP.Core.of64 (FP.Core.quotient FP.Core.b64 (FP.Core.val64 (fp_n s D q)) (FP.Core.val64 y)) = _
  rw [fp_val h, hy]
  show FP.Core.of64 (if (2 ^ 52 : Nat) = 0 then (if D = 0 then .nan else .inf (s != false)) else FP.Core.roundRatio FP.Core.b64 (s != false) D (2 ^ 52) (q - (j - 52))) = _
  rw [if_neg (by decide), Bool.bne_false, FP.Core.roundRatio_exact FP.Core.good_b64 (by decide) (fp_fit (s := s) h') ?_]
  · rfl
  · rw [show (q - (j - 52) - (q - j)).toNat = 52 by omega, show (q - j - (q - (j - 52))).toNat = 0 by omega]
    rw [Nat.pow_zero, Nat.mul_one]
set_option maxRecDepth 100000 in
/-- beside a power of two -/
theorem fp_lt {D : Nat} {q j : Int} {y : UInt64} (h : fp_N D q) (hy : FP.Core.val64 y = .fin false (2 ^ 52) (j - 52)) (hl : q < j - 52) : FP.dcmp (fp_n false D q) y = some .lt := by
  show FP.Core.order (FP.Core.val64 (fp_n false D q)) (FP.Core.val64 y) = _
  rw [fp_val h, hy]
  show some (compare ((D * 2 ^ (q - min q (j - 52)).toNat : Nat) : Int) ((2 ^ 52 * 2 ^ (j - 52 - min q (j - 52)).toNat : Nat) : Int)) = _
  rw [show min q (j - 52) = q by omega, show (q - q).toNat = 0 by omega]
  obtain ⟨t, ht⟩ : ∃ t : Nat, (j - 52 - q).toNat = t + 1 := ⟨(j - 52 - q).toNat - 1, by omega⟩
  rw [ht, FP.Core.compare_ite, if_pos]
  have h2 : 1 ≤ 2 ^ t := Nat.one_le_two_pow
  have h3 : 2 ^ 52 * 2 ^ (t + 1) = 2 ^ 53 * 2 ^ t := by rw [Nat.pow_succ 2 t]; omega
  have h4 : 2 ^ 53 * 1 ≤ 2 ^ 53 * 2 ^ t := Nat.mul_le_mul_left _ h2
  have := h.2.1
  rw [h3]
  generalize 2 ^ 53 * 2 ^ t = z at *
  omega
set_option maxRecDepth 100000 in
theorem fp_ge {D : Nat} {q j : Int} {y : UInt64} (h : fp_N D q) (hy : FP.Core.val64 y = .fin false (2 ^ 52) (j - 52)) (hl : ¬ q < j - 52) : FP.dcmp (fp_n false D q) y = some .eq ∨ FP.dcmp (fp_n false D q) y = some .gt := by
  have e : FP.dcmp (fp_n false D q) y = some (compare ((D * 2 ^ (q - min q (j - 52)).toNat : Nat) : Int) ((2 ^ 52 * 2 ^ (j - 52 - min q (j - 52)).toNat : Nat) : Int)) := by
    show FP.Core.order (FP.Core.val64 (fp_n false D q)) (FP.Core.val64 y) = _
    rw [fp_val h, hy]
    rfl
  rw [e, show min q (j - 52) = j - 52 by omega, show (j - 52 - (j - 52)).toNat = 0 by omega, FP.Core.compare_ite]
  have h4 : 2 ^ 52 * 1 ≤ D * 2 ^ (q - (j - 52)).toNat := Nat.mul_le_mul h.1 Nat.one_le_two_pow
  rw [if_neg (by generalize D * 2 ^ (q - (j - 52)).toNat = z at *; omega)]
  by_cases hq : ((D * 2 ^ (q - (j - 52)).toNat : Nat) : Int) = ((2 ^ 52 * 2 ^ 0 : Nat) : Int)
  · rw [if_pos hq]; exact Or.inl rfl
  · rw [if_neg hq]; exact Or.inr rfl
set_option maxRecDepth 100000 in
/-- the constants -/
theorem fp_c2 : FP.Core.val64 (4611686018427387904 : UInt64) = .fin false (2 ^ 52) (1 - 52) := by decide +kernel
set_option maxRecDepth 100000 in
theorem fp_c1 : FP.Core.val64 (4607182418800017408 : UInt64) = .fin false (2 ^ 52) (0 - 52) := by decide +kernel
set_option maxRecDepth 100000 in
theorem fp_cS : FP.Core.val64 (4751297606875873280 : UInt64) = .fin false (2 ^ 52) (32 - 52) := by decide +kernel
set_option maxRecDepth 100000 in
theorem fp_c8 : FP.Core.val64 (4593671619917905920 : UInt64) = .fin false (2 ^ 52) (-3 - 52) := by decide +kernel
/-! numbers of whole digits and an exponent, as near as a double comes -/
def fp_v (m : Nat) (e : Int) : UInt64 := FP.Core.of64 (FP.Core.roundRatio FP.Core.b64 false m 1 e)
set_option maxRecDepth 100000 in
theorem fp_log {m : Nat} (h0 : 0 < m) (h : m < 2 ^ 53) : ∃ t : Nat, t ≤ 52 ∧ 2 ^ 52 ≤ m * 2 ^ t ∧ m * 2 ^ t < 2 ^ 53 := by
  have hl : m.log2 < 53 := (Nat.log2_lt (by omega)).mpr h
  refine ⟨52 - m.log2, by omega, ?_, ?_⟩
  · have h1 : 2 ^ m.log2 ≤ m := Nat.log2_self_le (by omega)
    calc 2 ^ 52 = 2 ^ m.log2 * 2 ^ (52 - m.log2) := by rw [← Nat.pow_add]; congr 1; omega
      _ ≤ m * 2 ^ (52 - m.log2) := Nat.mul_le_mul_right _ h1
  · have h1 : m < 2 ^ (m.log2 + 1) := Nat.lt_log2_self
    calc m * 2 ^ (52 - m.log2) < 2 ^ (m.log2 + 1) * 2 ^ (52 - m.log2) := Nat.mul_lt_mul_of_pos_right h1 (Nat.two_pow_pos _)
      _ = 2 ^ 53 := by rw [← Nat.pow_add]; congr 1; omega
set_option maxRecDepth 100000 in
theorem fp_ex {m : Nat} {e : Int} (hm : m < 2 ^ 53) (h1 : -1074 ≤ e) (h2 : e ≤ 971) : ∃ t : Nat, FP.Core.roundRatio FP.Core.b64 false m 1 e = .fin false (m * 2 ^ t) (e - t) ∧ FP.Core.fits FP.Core.b64 (.fin false (m * 2 ^ t) (e - t)) := by
  have key : ∃ t : Nat, FP.Core.fits FP.Core.b64 (.fin false (m * 2 ^ t) (e - t)) := by
    by_cases h0 : m = 0
    · subst h0
      refine ⟨(e + 1074).toNat, ?_⟩
      rw [Nat.zero_mul, show e - ((e + 1074).toNat : Int) = FP.Core.b64.qmin by rw [fp_qmin]; omega]
      exact FP.Core.zero_fits FP.Core.good_b64 _
    · obtain ⟨t, ht, a, b⟩ := fp_log (by omega) hm
      by_cases hs : (t : Int) ≤ e + 1074
      · exact ⟨t, fp_fit ⟨a, b, by omega, by omega⟩⟩
      · have he : ((e + 1074).toNat : Int) = e + 1074 := by omega
        have hle : (e + 1074).toNat ≤ t := by omega
        refine ⟨(e + 1074).toNat, ?_, ?_, ?_, Or.inl ?_⟩
        · exact Nat.lt_of_le_of_lt (Nat.mul_le_mul_left m (Nat.pow_le_pow_right (by decide) hle)) b
        · rw [fp_qmin]; omega
        · rw [fp_qmax]; omega
        · rw [fp_qmin]; omega
  obtain ⟨t, ht⟩ := key
  refine ⟨t, FP.Core.roundRatio_exact FP.Core.good_b64 (by decide) ht ?_, ht⟩
  rw [show (e - (e - (t : Int))).toNat = t by omega, show (e - (t : Int) - e).toNat = 0 by omega]
  omega
set_option maxRecDepth 100000 in
theorem fp_vm {m : Nat} {e j : Int} {y : UInt64} (hm : m < 2 ^ 53) (h1 : -1074 ≤ e) (h2 : e ≤ 971) (hy : FP.Core.val64 y = .fin false (2 ^ 52) (j - 52)) : FP.dmul (fp_v m e) y = fp_v m (e + j) := by
  obtain ⟨t, ht, hf⟩ := fp_ex hm h1 h2
  have hv : FP.Core.val64 (fp_v m e) = .fin false (m * 2 ^ t) (e - t) := by
    unfold fp_v
    rw [ht]
    exact FP.Core.val64_of64 hf
  show FP.Core.of64 (FP.Core.round FP.Core.b64 (FP.Core.exactProduct (FP.Core.val64 (fp_v m e)) (FP.Core.val64 y))) = _
  rw [hv, hy]
  show FP.Core.of64 (FP.Core.roundRatio FP.Core.b64 false (m * 2 ^ t * 2 ^ 52) 1 (e - t + (j - 52))) = FP.Core.of64 _
  rw [FP.Core.roundRatio_congr (A' := m) (B' := 1) (e' := e + j) (by decide) (by decide) ?_]
  rw [show (e - (t : Int) + (j - 52) - (e + j)).toNat = 0 by omega, show (e + j - (e - (t : Int) + (j - 52))).toNat = t + 52 by omega, Nat.pow_add, Nat.pow_zero]
  simp only [Nat.mul_one, Nat.mul_assoc]
set_option maxRecDepth 100000 in
theorem fp_vd {m : Nat} {e j : Int} {y : UInt64} (hm : m < 2 ^ 53) (h1 : -1074 ≤ e) (h2 : e ≤ 971) (hy : FP.Core.val64 y = .fin false (2 ^ 52) (j - 52)) : FP.ddiv (fp_v m e) y = fp_v m (e - j) := by
  obtain ⟨t, ht, hf⟩ := fp_ex hm h1 h2
  have hv : FP.Core.val64 (fp_v m e) = .fin false (m * 2 ^ t) (e - t) := by
    unfold fp_v
    rw [ht]
    exact FP.Core.val64_of64 hf
  show FP.Core.of64 (FP.Core.quotient FP.Core.b64 (FP.Core.val64 (fp_v m e)) (FP.Core.val64 y)) = _
  rw [hv, hy]
  show FP.Core.of64 (if (2 ^ 52 : Nat) = 0 then (if m * 2 ^ t = 0 then .nan else .inf (false != false)) else FP.Core.roundRatio FP.Core.b64 (false != false) (m * 2 ^ t) (2 ^ 52) (e - t - (j - 52))) = FP.Core.of64 _
  rw [if_neg (by decide), Bool.bne_false, FP.Core.roundRatio_congr (A' := m) (B' := 1) (e' := e - j) (by decide) (by decide) ?_]
  by_cases h : t ≤ 52
  · rw [show (e - (t : Int) - (j - 52) - (e - j)).toNat = 52 - t by omega, show (e - j - (e - (t : Int) - (j - 52))).toNat = 0 by omega, Nat.pow_zero, Nat.mul_one, Nat.mul_one, Nat.mul_assoc, ← Nat.pow_add, show t + (52 - t) = 52 by omega]
  · rw [show (e - (t : Int) - (j - 52) - (e - j)).toNat = 0 by omega, show (e - j - (e - (t : Int) - (j - 52))).toNat = t - 52 by omega, Nat.pow_zero, Nat.mul_one, Nat.mul_one, Nat.mul_assoc, ← Nat.pow_add, show 52 + (t - 52) = t by omega]
set_option maxRecDepth 100000 in
theorem fp_l2d {a : Int64} (h : 0 ≤ a.toInt) : FP.l2d a = fp_v a.toInt.toNat 0 := by
  show FP.Core.of64 (FP.Core.roundRatio FP.Core.b64 (decide (a.toInt < 0)) a.toInt.natAbs 1 0) = _
  rw [decide_eq_false (by omega), show a.toInt.natAbs = a.toInt.toNat by omega]
  rfl
set_option maxRecDepth 100000 in
theorem fp_vn {m : Nat} {e : Int} (hm : m < 2 ^ 53) (h1 : -1074 ≤ e) (h2 : e ≤ 971) : FP.dIsNaN (fp_v m e) = false := by
  obtain ⟨t, ht, hf⟩ := fp_ex hm h1 h2
  show decide (FP.Core.val64 (fp_v m e) = .nan) = false
  unfold fp_v
  rw [ht, FP.Core.val64_of64 hf]
  rfl
set_option maxRecDepth 100000 in
theorem fp_nn {s : Bool} {D : Nat} {q : Int} (h : fp_N D q) : FP.dIsNaN (fp_n s D q) = false := by
  show decide (FP.Core.val64 (fp_n s D q) = .nan) = false
  rw [fp_val h]
  rfl
set_option maxRecDepth 100000 in
/-- the number that is put: an int's eighth -/
theorem fp_put {k : Int32} (hk : k.toInt ≠ 0) : ∃ D q, fp_N D q ∧ -55 ≤ q ∧ q ≤ -24 ∧ FP.dmul (FP.i2d k) (4593671619917905920 : UInt64) = fp_n (decide (k.toInt < 0)) D q := by
  have b1 := k.toInt_lt
  have b2 := k.le_toInt
  have hm : 0 < k.toInt.natAbs := by omega
  obtain ⟨t, ht, a, b⟩ := fp_log hm (by omega)
  have h21 : 21 ≤ t := by
    refine Nat.le_of_not_lt fun hlt => ?_
    have : k.toInt.natAbs * 2 ^ t ≤ 2 ^ 31 * 2 ^ 20 := Nat.mul_le_mul (by omega) (Nat.pow_le_pow_right (by decide) (by omega))
    omega
  have hN : fp_N (k.toInt.natAbs * 2 ^ t) (0 - t) := ⟨a, b, by omega, by omega⟩
  have hN' : fp_N (k.toInt.natAbs * 2 ^ t) (0 - t + (-3)) := ⟨a, b, by omega, by omega⟩
  have e : FP.i2d k = fp_n (decide (k.toInt < 0)) (k.toInt.natAbs * 2 ^ t) (0 - t) := by
    show FP.Core.of64 (FP.Core.roundRatio FP.Core.b64 (decide (k.toInt < 0)) k.toInt.natAbs 1 0) = FP.Core.of64 _
    rw [FP.Core.roundRatio_exact FP.Core.good_b64 (by decide) (fp_fit hN) ?_]
    rw [show ((0 : Int) - (0 - (t : Int))).toNat = t by omega, show ((0 : Int) - (t : Int) - 0).toNat = 0 by omega]
    omega
  refine ⟨_, _, hN', by omega, by omega, ?_⟩
  rw [e, fp_mul hN hN' fp_c8]
set_option maxRecDepth 100000 in
theorem fp_neg {s : Bool} {D : Nat} {q : Int} (h : fp_N D q) : FP.dneg (fp_n s D q) = fp_n (!s) D q := by
  refine FP.Core.val64_inj ?_ ?_
  · rw [FP.val64_dneg, fp_val h]; exact fun h => nomatch h
  · rw [FP.val64_dneg, fp_val h, fp_val h]; rfl
set_option maxRecDepth 100000 in
theorem fp_0 : FP.Core.val64 (0 : UInt64) = .fin false 0 (-1074) := by decide +kernel
set_option maxRecDepth 100000 in
theorem fp_cz {s : Bool} {D : Nat} {q : Int} (h : fp_N D q) : FP.dcmp (fp_n s D q) 0 = some (if s then .lt else .gt) := by
  show FP.Core.order (FP.Core.val64 (fp_n s D q)) (FP.Core.val64 0) = _
  rw [fp_val h, fp_0]
  show some (compare (FP.Core.signed s (D * 2 ^ (q - min q (-1074)).toNat)) (FP.Core.signed false (0 * 2 ^ (-1074 - min q (-1074)).toNat))) = _
  rw [Nat.zero_mul, FP.Core.compare_ite]
  have h0 : 0 < D * 2 ^ (q - min q (-1074)).toNat := Nat.mul_pos (by have := h.1; omega) (Nat.two_pow_pos _)
  generalize D * 2 ^ (q - min q (-1074)).toNat = z at *
  cases s with
  | true =>
    show some (if -(z : Int) < ((0 : Nat) : Int) then Ordering.lt else _) = _
    rw [if_pos (by omega)]; rfl
  | false =>
    show some (if (z : Int) < ((0 : Nat) : Int) then Ordering.lt else if (z : Int) = ((0 : Nat) : Int) then _ else _) = _
    rw [if_neg (by omega), if_neg (by omega)]; rfl
set_option maxRecDepth 100000 in
/-- beside a number of a greater exponent -/
theorem fp_cb {s t : Bool} {D E : Nat} {q r : Int} (h : fp_N D q) (h' : fp_N E r) (hl : q < r) : FP.dcmp (fp_n s D q) (fp_n t E r) = some (if t then .gt else .lt) := by
  show FP.Core.order (FP.Core.val64 (fp_n s D q)) (FP.Core.val64 (fp_n t E r)) = _
  rw [fp_val h, fp_val h']
  show some (compare (FP.Core.signed s (D * 2 ^ (q - min q r).toNat)) (FP.Core.signed t (E * 2 ^ (r - min q r).toNat))) = _
  rw [show min q r = q by omega, show (q - q).toNat = 0 by omega, FP.Core.compare_ite]
  obtain ⟨u, hu⟩ : ∃ u : Nat, (r - q).toNat = u + 1 := ⟨(r - q).toNat - 1, by omega⟩
  rw [hu]
  have h4 : 2 ^ 52 * 2 ≤ E * 2 ^ (u + 1) := Nat.mul_le_mul h'.1 (by rw [Nat.pow_succ]; have : 1 ≤ 2 ^ u := Nat.one_le_two_pow; omega)
  have := h.2.1
  rw [Nat.pow_zero, Nat.mul_one]
  generalize E * 2 ^ (u + 1) = z at *
  cases t with
  | true =>
    have e : FP.Core.signed true z = -(z : Int) := rfl
    have e' : -(D : Int) ≤ FP.Core.signed s D := by cases s <;> simp only [FP.Core.signed] <;> omega
    rw [e, if_neg (by omega), if_neg (by omega)]; rfl
  | false =>
    have e : FP.Core.signed false z = (z : Int) := rfl
    have e' : FP.Core.signed s D ≤ (D : Int) := by cases s <;> simp only [FP.Core.signed] <;> omega
    rw [e, if_pos (by omega)]; rfl
set_option maxRecDepth 100000 in
/-- through a float and back -/
theorem fp_f32 {s : Bool} {D : Nat} {q : Int} (h : fp_N D q) (h1 : -100 ≤ q) (h2 : q ≤ 60) : ∃ c r, FP.Core.roundRatio FP.Core.b32 s D 1 q = .fin s c r ∧ 2 ^ 23 ≤ c ∧ c < 2 ^ 24 ∧ q + 29 ≤ r ∧ r ≤ q + 30 := by
  have hq : FP.Core.quantum FP.Core.b32 D 1 q = q + 29 := by
    refine FP.Core.quantum_eq (by have := h.1; omega) (by decide) ?_ ?_ (Or.inr ?_)
    · rw [show FP.Core.b32.qmin = -149 by decide]; omega
    · unfold FP.Core.Below
      rw [show (FP.Core.b32.p : Int) = 24 from rfl, show (-(q + 29 - q + 24)).toNat = 0 by omega, show (q + 29 - q + 24).toNat = 53 by omega]
      have := h.2.1
      omega
    · unfold FP.Core.Below
      rw [show (FP.Core.b32.p : Int) = 24 from rfl, show (-(q + 29 - q + (24 - 1))).toNat = 0 by omega, show (q + 29 - q + (24 - 1)).toNat = 52 by omega]
      have := h.1
      omega
  unfold FP.Core.roundRatio
  rw [if_neg (by have := h.1; omega), hq]
  unfold FP.Core.roundAt FP.Core.unitsNum FP.Core.unitsDen FP.Core.settle FP.Core.bound
  rw [show (q - (q + 29)).toNat = 0 by omega, show (q + 29 - q).toNat = 29 by omega, show FP.Core.b32.p = 24 from rfl, show FP.Core.b32.qmax = 104 by decide, show FP.Core.b32.tails = 2 ^ 23 by decide]
  have n1 : 2 ^ 23 ≤ FP.Core.nearest (D * 2 ^ 0) (1 * 2 ^ 29) := FP.Core.nearest_ge (by decide) (by have := h.1; omega)
  by_cases hc : FP.Core.nearest (D * 2 ^ 0) (1 * 2 ^ 29) < 2 ^ 24
  · rw [if_pos hc, if_pos (by omega)]
    exact ⟨_, _, rfl, n1, hc, by omega, by omega⟩
  · rw [if_neg hc, if_pos (by omega)]
    exact ⟨_, _, rfl, by decide, by decide, by omega, by omega⟩
set_option maxRecDepth 100000 in
theorem fp_flt {s : Bool} {D : Nat} {q : Int} (h : fp_N D q) (h1 : -100 ≤ q) (h2 : q ≤ 60) : ∃ D' q', fp_N D' q' ∧ q ≤ q' ∧ q' ≤ q + 1 ∧ D' % 2 ^ 29 = 0 ∧ FP.f2d (FP.d2f (fp_n s D q)) = fp_n s D' q' := by
  obtain ⟨c, r, e, c1, c2, r1, r2⟩ := fp_f32 (s := s) h h1 h2
  have hv : FP.Core.val32 (FP.d2f (fp_n s D q)) = .fin s c r := by
    rw [FP.d2f_core (fp_nn h), FP.Core.val32_d2f, fp_val h]
    exact e
  have hN : fp_N (c * 2 ^ 29) (r - 29) := ⟨by omega, by omega, by omega, by omega⟩
  refine ⟨c * 2 ^ 29, r - 29, hN, by omega, by omega, by omega, ?_⟩
  rw [FP.f2d_core (by show decide (FP.Core.val32 _ = .nan) = false; rw [hv]; rfl)]
  show FP.Core.of64 (FP.Core.round FP.Core.b64 (FP.Core.val32 (FP.d2f (fp_n s D q)))) = FP.Core.of64 _
  rw [hv]
  show FP.Core.of64 (FP.Core.roundRatio FP.Core.b64 s c 1 r) = _
  rw [FP.Core.roundRatio_exact FP.Core.good_b64 (by decide) (fp_fit hN) ?_]
  rw [show (r - (r - 29)).toNat = 29 by omega, show (r - 29 - r).toNat = 0 by omega]
  omega
set_option maxRecDepth 100000 in
/-- the digits as a whole number -/
theorem fp_d2l {D : Nat} {q : Int} (h : fp_N D q) (h1 : -64 ≤ q) (h2 : q ≤ 0) : FP.d2l (fp_n false D q) = Int64.ofNat (D / 2 ^ (-q).toNat) := by
  show FP.Core.toL (FP.Core.val64 (fp_n false D q)) = _
  rw [fp_val h]
  show Int64.ofInt (max (-2 ^ 63) (min (2 ^ 63 - 1) ((D * 2 ^ q.toNat / 2 ^ (-q).toNat : Nat) : Int))) = _
  rw [show q.toNat = 0 by omega, Nat.pow_zero, Nat.mul_one]
  have h3 : D / 2 ^ (-q).toNat ≤ D := Nat.div_le_self _ _
  have := h.2.1
  generalize D / 2 ^ (-q).toNat = z at *
  rw [show max (-2 ^ 63) (min (2 ^ 63 - 1) (z : Int)) = (z : Int) by omega]
  rfl
set_option maxRecDepth 100000 in
theorem fp_sum {D M : Nat} {e : Int} (h : M ≤ D) : FP.Core.exactSum (.fin false D e) (.fin true M e) = .fin false (D - M) e := by
  have h0 : FP.Core.sumUnits false D e true M e e = ((D - M : Nat) : Int) := by
    unfold FP.Core.sumUnits FP.Core.inUnits FP.Core.signed
    rw [if_neg (by decide), if_pos rfl, Int.sub_self]
    show ((D * 1 : Nat) : Int) + -((M * 1 : Nat) : Int) = _
    omega
  have h1 : FP.Core.sumSign false true ((D - M : Nat) : Int) = false := by
    unfold FP.Core.sumSign
    by_cases hz : ((D - M : Nat) : Int) = 0
    · rw [if_pos hz]; rfl
    · rw [if_neg hz]; exact decide_eq_false (by omega)
  unfold FP.Core.exactSum
  dsimp only
  rw [show min e e = e by omega, h0, h1]
  rfl
set_option maxRecDepth 100000 in
theorem fp_c1n : FP.Core.negate (FP.Core.val64 (4607182418800017408 : UInt64)) = .fin true (2 ^ 52) (-52) := by decide +kernel
set_option maxRecDepth 100000 in
/-- what the reference does with digits between 1 and 2: one is taken off, the rest is made whole -/
theorem fp_one {D : Nat} (h : fp_N D (-52)) : FP.dsub (fp_n false D (-52)) 4607182418800017408 = fp_v (D - 2 ^ 52) (-52) := by
  have e : FP.Core.exactSum (FP.Core.val64 (fp_n false D (-52))) (FP.Core.negate (FP.Core.val64 4607182418800017408)) = .fin false (D - 2 ^ 52) (-52) := by
    rw [fp_val h, fp_c1n]
    exact fp_sum h.1
  have e2 : FP.dsub (fp_n false D (-52)) 4607182418800017408 = FP.Core.of64 (FP.Core.round FP.Core.b64 (FP.Core.exactSum (FP.Core.val64 (fp_n false D (-52))) (FP.Core.negate (FP.Core.val64 4607182418800017408)))) := rfl
  rw [e2, e]
  rfl
set_option maxRecDepth 100000 in
theorem fp_tr {m t b : Nat} (hb : b ≤ 52) (hm : m < 2 ^ 53) : FP.Core.toL (.fin false (m * 2 ^ t) (-52 + b - t)) = Int64.ofNat (m / 2 ^ (52 - b)) := by
  show Int64.ofInt (max (-2 ^ 63) (min (2 ^ 63 - 1) ((m * 2 ^ t * 2 ^ (-52 + (b : Int) - t).toNat / 2 ^ (-(-52 + (b : Int) - t)).toNat : Nat) : Int))) = _
  rw [show (-52 + (b : Int) - t).toNat = 0 by omega, show (-(-52 + (b : Int) - t)).toNat = t + (52 - b) by omega, Nat.pow_zero, Nat.mul_one, Nat.pow_add, Nat.mul_comm m (2 ^ t), Nat.mul_div_mul_left _ _ (Nat.two_pow_pos t)]
  have h3 : m / 2 ^ (52 - b) ≤ m := Nat.div_le_self _ _
  generalize m / 2 ^ (52 - b) = z at *
  rw [show max (-2 ^ 63) (min (2 ^ 63 - 1) (z : Int)) = (z : Int) by omega]
  rfl
set_option maxRecDepth 100000 in
theorem fp_ref {D : Nat} {b : Nat} {y : UInt64} (h : fp_N D (-52)) (hb : b ≤ 52) (hy : FP.Core.val64 y = .fin false (2 ^ 52) ((b : Int) - 52)) : FP.dIsNaN (FP.dsub (fp_n false D (-52)) 4607182418800017408) = false ∧ FP.dIsNaN (FP.dmul (FP.dsub (fp_n false D (-52)) 4607182418800017408) y) = false ∧ FP.d2l (FP.dmul (FP.dsub (fp_n false D (-52)) 4607182418800017408) y) = Int64.ofNat ((D - 2 ^ 52) / 2 ^ (52 - b)) := by
  rw [fp_one h]
  have hm : D - 2 ^ 52 < 2 ^ 53 := by have := h.2.1; omega
  generalize D - 2 ^ 52 = m at *
  have e2 : FP.dmul (fp_v m (-52)) y = fp_v m (-52 + b) := fp_vm hm (by omega) (by omega) hy
  rw [e2]
  refine ⟨fp_vn hm (by omega) (by omega), fp_vn hm (by omega) (by omega), ?_⟩
  obtain ⟨t, ht, hf⟩ := fp_ex (e := -52 + (b : Int)) hm (by omega) (by omega)
  have hv : FP.Core.val64 (fp_v m (-52 + b)) = .fin false (m * 2 ^ t) (-52 + b - t) := by
    unfold fp_v
    rw [ht]
    exact FP.Core.val64_of64 hf
  have e3 : FP.d2l (fp_v m (-52 + b)) = FP.Core.toL (FP.Core.val64 (fp_v m (-52 + b))) := rfl
  rw [e3, hv]
  exact fp_tr hb hm
