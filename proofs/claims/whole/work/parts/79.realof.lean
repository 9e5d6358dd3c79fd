/-! .. by the reference, step by step -/
theorem mr_90 {X : pm_X} {d : Nat} {I : st_I} {J : st_J} {p0 : Int64} {p1 p2 : Int32} {v4 : Int64} {v6 v9 : Int32} {m : Nat} (hm : m < 2 ^ 53) (h1 : -1074 ≤ v9.toInt) (h2 : v9.toInt ≤ 971) : Gx X d (kc_M_realOf, []) (90, [some (.long p0), none, some (.int p1), some (.int p2), some (.long v4), none, some (.int v6), some (.double (fp_v m (max v9.toInt 0))), none, some (.int v9), some (.int (0 : Int32))], [], st_h I J, 0, 0) (.inl (some (.double (if ((ju p0 (p1 + p2)) &&& (1 : Int64)) = (1 : Int64) then (FP.dneg (fp_v m v9.toInt)) else (fp_v m v9.toInt)))), st_h I J, 0, 0) := by
  by_cases hp : 0 ≤ v9.toInt
  · refine (b_M_realOf_90 _).mpr ?_
    rw [if_neg (show ¬ v9 < 0 by rw [i32_lt, i0]; omega), show max v9.toInt 0 = v9.toInt by omega]
  · obtain ⟨P, hP⟩ : ∃ P : Nat, (P : Int) = -v9.toInt := ⟨v9.toInt.natAbs, by omega⟩
    have L := lp (G := fun i => Gx X d (kc_M_realOf, []) (90, [some (.long p0), none, some (.int p1), some (.int p2), some (.long v4), none, some (.int v6), some (.double (fp_v m (-(i : Int)))), none, some (.int v9), some (.int (Int32.ofInt (-(i : Int))))], [], st_h I J, 0, 0) (.inl (some (.double (if ((ju p0 (p1 + p2)) &&& (1 : Int64)) = (1 : Int64) then (FP.dneg (fp_v m v9.toInt)) else (fp_v m v9.toInt)))), st_h I J, 0, 0)) P (fun i hi => by
      refine (b_M_realOf_90 _).trans ?_
      have hoz := oz_i (z := -(i : Int)) (by omega) (by omega)
      rw [if_pos (show v9 < Int32.ofInt (-(i : Int)) by rw [i32_lt, hoz]; omega), fp_vd hm (by omega) (by omega) fp_c2]
      have e : Int32.ofInt (-(i : Int)) + (-1) = Int32.ofInt (-((i + 1 : Nat) : Int)) := eq_oz (by
        rw [ia2 hoz (show (-1 : Int32).toInt = -1 from rfl) (by omega) (by omega)]
        omega)
      rw [e, show -(i : Int) - 1 = -((i + 1 : Nat) : Int) by omega]
      exact and_t (n64_v hm (by omega) (by omega)))
    have L := L.mpr ((b_M_realOf_90 _).mpr (by
      rw [if_neg (show ¬ v9 < Int32.ofInt (-(P : Int)) by rw [i32_lt, oz_i (by omega) (by omega)]; omega), show -(P : Int) = v9.toInt by omega]))
    rw [show max v9.toInt 0 = -((0 : Nat) : Int) by omega]
    exact L
theorem mr_66 {X : pm_X} {d : Nat} {I : st_I} {J : st_J} {p0 : Int64} {p1 p2 : Int32} {v4 : Int64} {v6 v9 : Int32} {m : Nat} (hm : m < 2 ^ 53) (h1 : -1074 ≤ v9.toInt) (h2 : v9.toInt ≤ 971) : Gx X d (kc_M_realOf, []) (66, [some (.long p0), none, some (.int p1), some (.int p2), some (.long v4), none, some (.int v6), some (.double (fp_v m 0)), none, some (.int v9), some (.int (0 : Int32))], [], st_h I J, 0, 0) (.inl (some (.double (if ((ju p0 (p1 + p2)) &&& (1 : Int64)) = (1 : Int64) then (FP.dneg (fp_v m v9.toInt)) else (fp_v m v9.toInt)))), st_h I J, 0, 0) := by
  obtain ⟨P, hP⟩ : ∃ P : Nat, (P : Int) = max v9.toInt 0 := ⟨(max v9.toInt 0).toNat, by omega⟩
  have L := lp (G := fun i => Gx X d (kc_M_realOf, []) (66, [some (.long p0), none, some (.int p1), some (.int p2), some (.long v4), none, some (.int v6), some (.double (fp_v m (i : Int))), none, some (.int v9), some (.int (Int32.ofNat i))], [], st_h I J, 0, 0) (.inl (some (.double (if ((ju p0 (p1 + p2)) &&& (1 : Int64)) = (1 : Int64) then (FP.dneg (fp_v m v9.toInt)) else (fp_v m v9.toInt)))), st_h I J, 0, 0)) P (fun i hi => by
    refine (b_M_realOf_66 _).trans ?_
    rw [if_pos (show Int32.ofNat i < v9 by rw [i32_lt, oi_i (by omega)]; omega), fp_vm hm (by omega) (by omega) fp_c2, oi_a, show (i : Int) + 1 = ((i + 1 : Nat) : Int) by omega]
    exact and_t (n64_v hm (by omega) (by omega)))
  refine L.mpr ((b_M_realOf_66 _).mpr ?_)
  rw [if_neg (show ¬ Int32.ofNat P < v9 by rw [i32_lt, oi_i (by omega)]; omega), hP]
  exact mr_90 hm h1 h2
/-- the digits and the exponent that the bits of a number say -/
def mrm (v : Int64) (p1 p2 : Int32) : Int64 := if ((Int64.toInt32 (ju v p1)) &&& ((il (1 : Int32) p2) - (1 : Int32))) = (0 : Int32) then (v &&& ((jl (1 : Int64) p1) - (1 : Int64))) else ((v &&& ((jl (1 : Int64) p1) - (1 : Int64))) ||| (jl (1 : Int64) p1))
def mre (v : Int64) (p1 p2 : Int32) : Int32 := (((if ((Int64.toInt32 (ju v p1)) &&& ((il (1 : Int32) p2) - (1 : Int32))) = (0 : Int32) then (1 : Int32) else ((Int64.toInt32 (ju v p1)) &&& ((il (1 : Int32) p2) - (1 : Int32)))) - (il (1 : Int32) (p2 - (1 : Int32)))) + (1 : Int32)) - p1
theorem mr_ex {X : pm_X} {d : Nat} {I : st_I} {J : st_J} {v : Int64} {p1 p2 : Int32} (h0 : 0 ≤ (mrm v p1 p2).toInt) (hm : (mrm v p1 p2).toInt < 2 ^ 53) (h1 : -1074 ≤ (mre v p1 p2).toInt) (h2 : (mre v p1 p2).toInt ≤ 971) : Ex X (d + 1) 203 [.long v, .int p1, .int p2] (st_h I J) (.inl (some (.double (if ((ju v (p1 + p2)) &&& (1 : Int64)) = (1 : Int64) then (FP.dneg (fp_v (mrm v p1 p2).toInt.toNat (mre v p1 p2).toInt)) else (fp_v (mrm v p1 p2).toInt.toNat (mre v p1 p2).toInt)))), st_h I J, 0, 0) := by
  refine (e_M_realOf _).mpr ?_
  have e : FP.l2d (mrm v p1 p2) = fp_v (mrm v p1 p2).toInt.toNat 0 := fp_l2d h0
  have R := mr_66 (X := X) (d := d) (I := I) (J := J) (p0 := v) (p1 := p1) (p2 := p2) (v4 := (v &&& ((jl (1 : Int64) p1) - (1 : Int64)))) (v6 := ((Int64.toInt32 (ju v p1)) &&& ((il (1 : Int32) p2) - (1 : Int32)))) (v9 := mre v p1 p2) (m := (mrm v p1 p2).toInt.toNat) (by omega) h1 h2
  rw [← e] at R
  exact R
