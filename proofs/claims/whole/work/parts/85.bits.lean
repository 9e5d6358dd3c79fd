/-! the bits of a number that is put: by the reference -/
theorem cv_lt {a b : UInt64} (h : FP.dcmp a b = some .lt) (m : CmpOp) : Op.cmpValue (FP.dcmp a b) m < 0 := by rw [h]; cases m <;> decide
theorem cv_ge {a b : UInt64} (h : FP.dcmp a b = some .eq ∨ FP.dcmp a b = some .gt) (m : CmpOp) : ¬ Op.cmpValue (FP.dcmp a b) m < 0 := by
  rcases h with h | h <;> rw [h] <;> cases m <;> decide
theorem n64_n {s : Bool} {D : Nat} {q : Int} (h : fp_N D q) : pm_n64 (fp_n s D q) = true := n64_of (fp_nn h)
theorem fN {D : Nat} (h : 2 ^ 52 ≤ D ∧ D < 2 ^ 53) {q : Int} (h1 : -1074 ≤ q) (h2 : q ≤ 971) : fp_N D q := ⟨h.1, h.2, h1, h2⟩
theorem bo_48 {X : pm_X} {d : Nat} {I : st_I} {J : st_J} {p0 : UInt64} {p1 p2 : Int32} {r : pm_R} {D : Nat} (hD : 2 ^ 52 ≤ D ∧ D < 2 ^ 53) {b : Nat} (hb : b ≤ 52) (hy : FP.Core.val64 (FP.l2d (jl (1 : Int64) p1)) = .fin false (2 ^ 52) ((b : Int) - 52)) {e : Int} (he : -1000 ≤ e ∧ e ≤ 1000) (hr : r = (.inl (some (.long (((jl (if (Op.cmpValue (FP.dcmp p0 FP.dconst0) .g) < (0 : Int32) then (1 : Int64) else (0 : Int64)) (p1 + p2)) ||| (jl (Int32.toInt64 ((Int32.ofInt e + (il (1 : Int32) (p2 - (1 : Int32)))) - (1 : Int32))) p1)) ||| (Int64.ofNat ((D - 2 ^ 52) / 2 ^ (52 - b)))))), st_h I J, 0, 0)) : ∀ n : Nat, n ≤ 900 → Gx X d (kc_M_bitsOfReal, []) (48, [some (.double p0), none, some (.int p1), some (.int p2), some (.double (fp_n false D (-52 - (n : Int)))), none, some (.int (Int32.ofInt (e + n))), none, none], [], st_h I J, 0, 0) r := by
  intro n
  induction n with
  | zero =>
    intro _
    refine (b_M_bitsOfReal_48 _).mpr ?_
    have hN : fp_N D (-52 - ((0 : Nat) : Int)) := fN hD (by omega) (by omega)
    rw [show FP.dconst1 = 4607182418800017408 from rfl, if_neg (cv_ge (fp_ge hN (j := 0) fp_c1 (by omega)) _)]
    have hR := fp_ref (D := D) (fN hD (by omega) (by omega)) hb hy
    have e0 : (-52 - ((0 : Nat) : Int)) = -52 := by omega
    rw [e0]
    refine ⟨n64_of hR.1, n64_of hR.2.1, ?_⟩
    rw [hR.2.2, show e + ((0 : Nat) : Int) = e by omega]
    exact hr
  | succ n ih =>
    intro hn
    refine (b_M_bitsOfReal_48 _).mpr ?_
    have hN : fp_N D (-52 - ((n + 1 : Nat) : Int)) := fN hD (by omega) (by omega)
    have hN' : fp_N D (-52 - ((n + 1 : Nat) : Int) + 1) := fN hD (by omega) (by omega)
    rw [show FP.dconst1 = 4607182418800017408 from rfl, if_pos (cv_lt (fp_lt hN (j := 0) fp_c1 (by omega)) _), fp_mul hN hN' fp_c2]
    refine ⟨n64_n hN', ?_⟩
    have hi : Int32.ofInt (e + ((n + 1 : Nat) : Int)) + (-1) = Int32.ofInt (e + (n : Int)) := eq_oz (by
      rw [ia2 (oz_i (by omega) (by omega)) (show (-1 : Int32).toInt = -1 from rfl) (by omega) (by omega)]
      omega)
    rw [hi, show -52 - ((n + 1 : Nat) : Int) + 1 = -52 - (n : Int) by omega]
    exact ih (by omega)
theorem bo_25 {X : pm_X} {d : Nat} {I : st_I} {J : st_J} {p0 : UInt64} {p1 p2 : Int32} {r : pm_R} {D : Nat} (hD : 2 ^ 52 ≤ D ∧ D < 2 ^ 53) {e : Int} (he : -1000 ≤ e ∧ e ≤ 1000) : ∀ n : Nat, n ≤ 900 → Gx X d (kc_M_bitsOfReal, []) (48, [some (.double p0), none, some (.int p1), some (.int p2), some (.double (fp_n false D (-52))), none, some (.int (Int32.ofInt e)), none, none], [], st_h I J, 0, 0) r → Gx X d (kc_M_bitsOfReal, []) (25, [some (.double p0), none, some (.int p1), some (.int p2), some (.double (fp_n false D (-52 + (n : Int)))), none, some (.int (Int32.ofInt (e - n))), none, none], [], st_h I J, 0, 0) r := by
  intro n
  induction n with
  | zero =>
    intro _ h
    refine (b_M_bitsOfReal_25 _).mpr ?_
    have hN : fp_N D (-52 + ((0 : Nat) : Int)) := fN hD (by omega) (by omega)
    rw [if_pos (cv_lt (fp_lt hN (j := 1) fp_c2 (by omega)) _), show -52 + ((0 : Nat) : Int) = -52 by omega, show e - ((0 : Nat) : Int) = e by omega]
    exact h
  | succ n ih =>
    intro hn h
    refine (b_M_bitsOfReal_25 _).mpr ?_
    have hN : fp_N D (-52 + ((n + 1 : Nat) : Int)) := fN hD (by omega) (by omega)
    have hN' : fp_N D (-52 + ((n + 1 : Nat) : Int) - 1) := fN hD (by omega) (by omega)
    rw [if_neg (cv_ge (fp_ge hN (j := 1) fp_c2 (by omega)) _), fp_div hN hN' fp_c2]
    refine ⟨n64_n hN', ?_⟩
    have hi : Int32.ofInt (e - ((n + 1 : Nat) : Int)) + 1 = Int32.ofInt (e - (n : Int)) := eq_oz (by
      rw [ia2 (oz_i (by omega) (by omega)) (show (1 : Int32).toInt = 1 from rfl) (by omega) (by omega)]
      omega)
    rw [hi, show -52 + ((n + 1 : Nat) : Int) - 1 = -52 + (n : Int) by omega]
    exact ih (by omega) h
theorem bo_ex {X : pm_X} {d : Nat} {I : st_I} {J : st_J} {p1 p2 : Int32} {s : Bool} {D : Nat} {q : Int} (h : fp_N D q) (h1 : -800 ≤ q) (h2 : q ≤ 800) {b : Nat} (hb : b ≤ 52) (hy : FP.Core.val64 (FP.l2d (jl (1 : Int64) p1)) = .fin false (2 ^ 52) ((b : Int) - 52)) : Ex X (d + 1) 219 [.double (fp_n s D q), .int p1, .int p2] (st_h I J) (.inl (some (.long (((jl (if s then (1 : Int64) else (0 : Int64)) (p1 + p2)) ||| (jl (Int32.toInt64 ((Int32.ofInt (q + 52) + (il (1 : Int32) (p2 - (1 : Int32)))) - (1 : Int32))) p1)) ||| (Int64.ofNat ((D - 2 ^ 52) / 2 ^ (52 - b)))))), st_h I J, 0, 0) := by
  refine (e_M_bitsOfReal _).mpr ?_
  have hz : FP.dcmp (fp_n s D q) FP.dconst0 = some (if s then .lt else .gt) := fp_cz h
  have hD : 2 ^ 52 ≤ D ∧ D < 2 ^ 53 := ⟨h.1, h.2.1⟩
  have hsg : (if (Op.cmpValue (FP.dcmp (fp_n s D q) FP.dconst0) .g) < (0 : Int32) then (1 : Int64) else (0 : Int64)) = (if s then (1 : Int64) else (0 : Int64)) := by
    rw [hz]
    cases s <;> rfl
  have hab : (if (Op.cmpValue (FP.dcmp (fp_n s D q) FP.dconst0) .g) < (0 : Int32) then (FP.dneg (fp_n s D q)) else (fp_n s D q)) = fp_n false D q := by
    rw [hz]
    cases s
    · rfl
    · rw [fp_neg h]; rfl
  rw [if_neg (by rw [hz]; cases s <;> decide), hab]
  have key := fun (e : Int) (he : -1000 ≤ e ∧ e ≤ 1000) (hr : _) => bo_48 (X := X) (d := d) (I := I) (J := J) (p0 := fp_n s D q) (p1 := p1) (p2 := p2) (r := (.inl (some (.long (((jl (if s then (1 : Int64) else (0 : Int64)) (p1 + p2)) ||| (jl (Int32.toInt64 ((Int32.ofInt (q + 52) + (il (1 : Int32) (p2 - (1 : Int32)))) - (1 : Int32))) p1)) ||| (Int64.ofNat ((D - 2 ^ 52) / 2 ^ (52 - b)))))), st_h I J, 0, 0)) hD hb hy he hr
  by_cases c : -52 ≤ q
  · have k1 := key (q + 52) (by omega) (by rw [hsg]) 0 (by omega)
    rw [show -52 - ((0 : Nat) : Int) = -52 by omega, show q + 52 + ((0 : Nat) : Int) = q + 52 by omega] at k1
    have k2 := bo_25 (X := X) (d := d) (I := I) (J := J) (p0 := fp_n s D q) (p1 := p1) (p2 := p2) hD (e := q + 52) (by omega) (q + 52).toNat (by omega) k1
    rw [show (-52 + (((q + 52).toNat : Nat) : Int)) = q by omega, show q + 52 - (((q + 52).toNat : Nat) : Int) = 0 by omega] at k2
    exact k2
  · have k1 := key (q + 52) (by omega) (by rw [hsg]) (-52 - q).toNat (by omega)
    rw [show -52 - (((-52 - q).toNat : Nat) : Int) = q by omega, show q + 52 + (((-52 - q).toNat : Nat) : Int) = 0 by omega] at k1
    refine (b_M_bitsOfReal_25 _).mpr ?_
    rw [if_pos (cv_lt (fp_lt h (j := 1) fp_c2 (by omega)) _)]
    exact k1
