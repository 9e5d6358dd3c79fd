/-! .. by the class -/
section SZ
variable {X : pm_X} {d : Nat} {I : st_I} {J : st_J} {p0 v4 : UInt64} {p1 v3 : Int32} {r : pm_R} {D b : Nat}
/-- the bits, put together -/
def szv (p1 v3 : Int32) (p : Int) (D b : Nat) : Int64 := (if ((Int32.ofInt p + v3) + (if p1 = (0 : Int32) then (127 : Int32) else (1023 : Int32))) < (1 : Int32) then (ju (Int64.ofNat (D / 2 ^ (52 - b))) ((1 : Int32) - ((Int32.ofInt p + v3) + (if p1 = (0 : Int32) then (127 : Int32) else (1023 : Int32))))) else ((jl (Int32.toInt64 ((Int32.ofInt p + v3) + (if p1 = (0 : Int32) then (127 : Int32) else (1023 : Int32)))) v3) ||| ((Int64.ofNat (D / 2 ^ (52 - b))) &&& (if v3 < (64 : Int32) then ((jl (1 : Int64) v3) - (1 : Int64)) else (-1 : Int64)))))
theorem sz_145 (hD : 2 ^ 52 ≤ D ∧ D < 2 ^ 53) (hb : b ≤ 52) (hb1 : 1 ≤ b) (hL : FP.Core.val64 v4 = .fin false (2 ^ 52) ((b : Int) - 52)) {p : Int} (hp : -1000 ≤ p ∧ p ≤ 1000) (hr : r = (.inl (some (.long (szv p1 v3 p D b))), st_h I J, 0, 0)) : ∀ n i : Nat, n + i ≤ 33 → Gx X (d + 2) (kc_Ra_sizeBits, []) (145, [some (.double p0), none, some (.int p1), some (.int v3), some (.double v4), none, some (.double (fp_n false D ((b : Int) - 52 - n))), none, some (.int (Int32.ofInt (p + n))), some (.int (Int32.ofNat i))], [], st_h I J, 0, 0) r := by
  intro n
  induction n with
  | zero =>
    intro i hi
    refine (b_Ra_sizeBits_145 _).mpr ?_
    have hN : fp_N D ((b : Int) - 52 - ((0 : Nat) : Int)) := fN hD (by omega) (by omega)
    have hd : FP.d2l (fp_n false D ((b : Int) - 52 - ((0 : Nat) : Int))) = Int64.ofNat (D / 2 ^ (52 - b)) := by
      rw [fp_d2l hN (by omega) (by omega), show (-((b : Int) - 52 - ((0 : Nat) : Int))).toNat = 52 - b by omega]
    rw [if_neg (cv_ge (fp_ge hN (j := b) hL (by omega)) _), hd, show p + ((0 : Nat) : Int) = p by omega]
    split
    · exact hr
    · exact hr
  | succ n ih =>
    intro i hi
    refine (b_Ra_sizeBits_145 _).mpr ?_
    have hN : fp_N D ((b : Int) - 52 - ((n + 1 : Nat) : Int)) := fN hD (by omega) (by omega)
    have hN' : fp_N D ((b : Int) - 52 - ((n + 1 : Nat) : Int) + 1) := fN hD (by omega) (by omega)
    rw [if_pos (show Int32.ofNat i < 33 by rw [i32_lt, oi_i (by omega), show (33 : Int32).toInt = 33 from rfl]; omega), if_pos (cv_lt (fp_lt hN (j := b) hL (by omega)) _), fp_mul hN hN' fp_c2, oi_a]
    refine ⟨n64_n hN', ?_⟩
    have hi' : Int32.ofInt (p + ((n + 1 : Nat) : Int)) + (-1) = Int32.ofInt (p + (n : Int)) := eq_oz (by
      rw [ia2 (oz_i (by omega) (by omega)) (show (-1 : Int32).toInt = -1 from rfl) (by omega) (by omega)]
      omega)
    rw [hi', show (b : Int) - 52 - ((n + 1 : Nat) : Int) + 1 = (b : Int) - 52 - (n : Int) by omega]
    exact ih (i + 1) (by omega)
theorem sz_106 (hD : 2 ^ 52 ≤ D ∧ D < 2 ^ 53) (hb : b ≤ 52) (hb1 : 1 ≤ b) (hL : FP.Core.val64 v4 = .fin false (2 ^ 52) ((b : Int) - 52)) (hL2 : FP.Core.val64 (FP.dmul v4 (4611686018427387904 : UInt64)) = .fin false (2 ^ 52) (((b + 1 : Nat) : Int) - 52)) (hLn : pm_n64 (FP.dmul v4 (4611686018427387904 : UInt64)) = true) {p : Int} (hp : -900 ≤ p ∧ p ≤ 900) (hr : r = (.inl (some (.long (szv p1 v3 p D b))), st_h I J, 0, 0)) {q : Int} (q1 : (b : Int) - 52 - 33 ≤ q) (q2 : q ≤ (b : Int) - 52 + 33) : Gx X (d + 2) (kc_Ra_sizeBits, []) (106, [some (.double p0), none, some (.int p1), some (.int v3), some (.double v4), none, some (.double (fp_n false D q)), none, some (.int (Int32.ofInt (p + ((b : Int) - 52) - q))), some (.int (0 : Int32))], [], st_h I J, 0, 0) r := by
  by_cases c : q ≤ (b : Int) - 52
  · refine (b_Ra_sizeBits_106 _).mpr ?_
    have hN : fp_N D q := fN hD (by omega) (by omega)
    rw [if_pos (by decide)]
    refine ⟨hLn, ?_⟩
    rw [if_pos (cv_lt (fp_lt hN (j := ((b + 1 : Nat) : Int)) hL2 (by omega)) _)]
    have k := sz_145 (X := X) (d := d) (I := I) (J := J) (p0 := p0) (p1 := p1) (v3 := v3) hD hb hb1 hL (p := p) (by omega) hr ((b : Int) - 52 - q).toNat 0 (by omega)
    rw [show (b : Int) - 52 - ((((b : Int) - 52 - q).toNat : Nat) : Int) = q by omega, show p + ((((b : Int) - 52 - q).toNat : Nat) : Int) = p + ((b : Int) - 52) - q by omega] at k
    exact k
  · have L : ∀ n i : Nat, n + i ≤ 33 → Gx X (d + 2) (kc_Ra_sizeBits, []) (106, [some (.double p0), none, some (.int p1), some (.int v3), some (.double v4), none, some (.double (fp_n false D ((b : Int) - 52 + n))), none, some (.int (Int32.ofInt (p - n))), some (.int (Int32.ofNat i))], [], st_h I J, 0, 0) r := by
      have k := sz_145 (X := X) (d := d) (I := I) (J := J) (p0 := p0) (p1 := p1) (v3 := v3) hD hb hb1 hL (p := p) (by omega) hr 0 0 (by omega)
      rw [show (b : Int) - 52 - ((0 : Nat) : Int) = (b : Int) - 52 by omega, show p + ((0 : Nat) : Int) = p by omega] at k
      intro n
      induction n with
      | zero =>
        intro i hi
        refine (b_Ra_sizeBits_106 _).mpr ?_
        have hN : fp_N D ((b : Int) - 52 + ((0 : Nat) : Int)) := fN hD (by omega) (by omega)
        by_cases ci : i < 33
        · rw [if_pos (show Int32.ofNat i < 33 by rw [i32_lt, oi_i (by omega), show (33 : Int32).toInt = 33 from rfl]; omega)]
          refine ⟨hLn, ?_⟩
          rw [if_pos (cv_lt (fp_lt hN (j := ((b + 1 : Nat) : Int)) hL2 (by omega)) _), show (b : Int) - 52 + ((0 : Nat) : Int) = (b : Int) - 52 by omega, show p - ((0 : Nat) : Int) = p by omega]
          exact k
        · rw [if_neg (show ¬ Int32.ofNat i < 33 by rw [i32_lt, oi_i (by omega), show (33 : Int32).toInt = 33 from rfl]; omega), show (b : Int) - 52 + ((0 : Nat) : Int) = (b : Int) - 52 by omega, show p - ((0 : Nat) : Int) = p by omega]
          exact k
      | succ n ih =>
        intro i hi
        refine (b_Ra_sizeBits_106 _).mpr ?_
        have hN : fp_N D ((b : Int) - 52 + ((n + 1 : Nat) : Int)) := fN hD (by omega) (by omega)
        have hN' : fp_N D ((b : Int) - 52 + ((n + 1 : Nat) : Int) - 1) := fN hD (by omega) (by omega)
        rw [if_pos (show Int32.ofNat i < 33 by rw [i32_lt, oi_i (by omega), show (33 : Int32).toInt = 33 from rfl]; omega)]
        refine ⟨hLn, ?_⟩
        rw [if_neg (cv_ge (fp_ge hN (j := ((b + 1 : Nat) : Int)) hL2 (by omega)) _), fp_div hN hN' fp_c2, oi_a]
        refine ⟨n64_n hN', ?_⟩
        have hi' : Int32.ofInt (p - ((n + 1 : Nat) : Int)) + 1 = Int32.ofInt (p - (n : Int)) := eq_oz (by
          rw [ia2 (oz_i (by omega) (by omega)) (show (1 : Int32).toInt = 1 from rfl) (by omega) (by omega)]
          omega)
        rw [hi', show (b : Int) - 52 + ((n + 1 : Nat) : Int) - 1 = (b : Int) - 52 + (n : Int) by omega]
        exact ih (i + 1) (by omega)
    have k := L (q - ((b : Int) - 52)).toNat 0 (by omega)
    rw [show (b : Int) - 52 + (((q - ((b : Int) - 52)).toNat : Nat) : Int) = q by omega, show p - (((q - ((b : Int) - 52)).toNat : Nat) : Int) = p + ((b : Int) - 52) - q by omega] at k
    exact k
end SZ
