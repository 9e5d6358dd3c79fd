section SZ2
variable {X : pm_X} {d : Nat} {I : st_I} {J : st_J} {p0 v4 : UInt64} {p1 v3 : Int32} {r : pm_R} {D b : Nat}
theorem sz_28 (hD : 2 ^ 52 ≤ D ∧ D < 2 ^ 53) (hb : b ≤ 52) (hb1 : 1 ≤ b) (hL : FP.Core.val64 v4 = .fin false (2 ^ 52) ((b : Int) - 52)) (hL2 : FP.Core.val64 (FP.dmul v4 (4611686018427387904 : UInt64)) = .fin false (2 ^ 52) (((b + 1 : Nat) : Int) - 52)) (hLn : pm_n64 (FP.dmul v4 (4611686018427387904 : UInt64)) = true) (hLS : FP.Core.val64 (FP.dmul v4 (4751297606875873280 : UInt64)) = .fin false (2 ^ 52) (((b : Int) + 32) - 52)) (hLSn : pm_n64 (FP.dmul v4 (4751297606875873280 : UInt64)) = true) (hLD : FP.Core.val64 (FP.ddiv v4 (4751297606875873280 : UInt64)) = .fin false (2 ^ 52) (((b : Int) - 32) - 52)) (hLDn : pm_n64 (FP.ddiv v4 (4751297606875873280 : UInt64)) = true) {q : Int} (q1 : (b : Int) - 116 ≤ q) (q2 : q ≤ (b : Int) - 21) (hr : r = (.inl (some (.long (szv p1 v3 (q - ((b : Int) - 52)) D b))), st_h I J, 0, 0)) (q3 : (b : Int) - 84 ≤ q ∨ q < (b : Int) - 84) (q4 : q ≤ (b : Int) - 52 + 33) : Gx X (d + 2) (kc_Ra_sizeBits, []) (28, [some (.double p0), none, some (.int p1), some (.int v3), some (.double v4), none, some (.double (fp_n false D q)), none, some (.int (0 : Int32)), some (.int (0 : Int32))], [], st_h I J, 0, 0) r := by
  have hN : fp_N D q := fN hD (by omega) (by omega)
  refine (b_Ra_sizeBits_28 _).mpr ?_
  rw [if_pos (by decide)]
  refine ⟨hLSn, ?_⟩
  rw [if_pos (cv_lt (fp_lt hN (j := (b : Int) + 32) hLS (by omega)) _)]
  refine (b_Ra_sizeBits_67 _).mpr ?_
  rw [if_pos (by decide)]
  refine ⟨hLDn, ?_⟩
  by_cases c : q < (b : Int) - 84
  · have hN' : fp_N D (q + 32) := fN hD (by omega) (by omega)
    rw [if_pos (cv_lt (fp_lt hN (j := (b : Int) - 32) hLD (by omega)) _), fp_mul hN hN' fp_cS]
    refine ⟨n64_n hN', ?_⟩
    refine (b_Ra_sizeBits_67 _).mpr ?_
    rw [if_pos (by decide)]
    refine ⟨hLDn, ?_⟩
    rw [if_neg (cv_ge (fp_ge hN' (j := (b : Int) - 32) hLD (by omega)) _)]
    have k := sz_106 (X := X) (d := d) (I := I) (J := J) (p0 := p0) (p1 := p1) (v3 := v3) hD hb hb1 hL hL2 hLn (p := q - ((b : Int) - 52)) (by omega) hr (q := q + 32) (by omega) (by omega)
    rw [show q - ((b : Int) - 52) + ((b : Int) - 52) - (q + 32) = -32 by omega] at k
    exact k
  · rw [if_neg (cv_ge (fp_ge hN (j := (b : Int) - 32) hLD (by omega)) _)]
    have k := sz_106 (X := X) (d := d) (I := I) (J := J) (p0 := p0) (p1 := p1) (v3 := v3) hD hb hb1 hL hL2 hLn (p := q - ((b : Int) - 52)) (by omega) hr (q := q) (by omega) (by omega)
    rw [show q - ((b : Int) - 52) + ((b : Int) - 52) - q = 0 by omega] at k
    exact k
end SZ2
theorem sz_w {X : pm_X} {d : Nat} {I : st_I} {J : st_J} {p1 : Int32} {D : Nat} {q : Int} (h : fp_N D q) (h1 : -60 ≤ q) (h2 : q ≤ -20) (hp : ¬ p1 = 0) : Ex X (d + 3) 122 [.double (fp_n false D q), .int p1] (st_h I J) (.inl (some (.long (szv p1 52 q D 52))), st_h I J, 0, 0) := by
  refine (e_Ra_sizeBits _).mpr ?_
  have hz : FP.dcmp (fp_n false D q) FP.dconst0 = some .gt := fp_cz h
  rw [if_neg (by rw [hz]; decide), if_neg hp]
  refine sz_28 (b := 52) ⟨h.1, h.2.1⟩ (by omega) (by omega) ?_ ?_ ?_ ?_ ?_ ?_ ?_ (by omega) (by omega) ?_ (by omega) (by omega)
  · decide +kernel
  · decide +kernel
  · decide +kernel
  · decide +kernel
  · decide +kernel
  · decide +kernel
  · decide +kernel
  · rw [show q - (((52 : Nat) : Int) - 52) = q by omega]
theorem sz_n {X : pm_X} {d : Nat} {I : st_I} {J : st_J} {D : Nat} {q : Int} (h : fp_N D q) (h1 : -60 ≤ q) (h2 : q ≤ -20) : Ex X (d + 3) 122 [.double (fp_n false D q), .int 0] (st_h I J) (.inl (some (.long (szv 0 23 (q + 29) D 23))), st_h I J, 0, 0) := by
  refine (e_Ra_sizeBits _).mpr ?_
  have hz : FP.dcmp (fp_n false D q) FP.dconst0 = some .gt := fp_cz h
  rw [if_neg (by rw [hz]; decide), if_pos rfl]
  refine sz_28 (b := 23) ⟨h.1, h.2.1⟩ (by omega) (by omega) ?_ ?_ ?_ ?_ ?_ ?_ ?_ (by omega) (by omega) ?_ (by omega) (by omega)
  · decide +kernel
  · decide +kernel
  · decide +kernel
  · decide +kernel
  · decide +kernel
  · decide +kernel
  · decide +kernel
  · rw [show q - (((23 : Nat) : Int) - 52) = q + 29 by omega]
