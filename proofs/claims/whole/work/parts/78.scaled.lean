/-! doubles made greater or smaller by powers of two -/
theorem n64_of {x : UInt64} (h : FP.dIsNaN x = false) : pm_n64 x = true := by
  have h1 : ¬ (9218868437227405312 < x.toNat % 2 ^ 63) := fun q => by
    have := (FP.Core.isNaN_bits x).mpr q
    rw [show FP.Core.dIsNaN x = FP.dIsNaN x from rfl, h] at this
    cases this
  unfold pm_n64
  refine decide_eq_true ?_
  rw [UInt64.le_iff_toNat_le, UInt64.toNat_and]
  show x.toNat &&& (2 ^ 63 - 1) ≤ 9218868437227405312
  rw [Nat.and_two_pow_sub_one_eq_mod]
  omega
theorem n64_v {m : Nat} {e : Int} (hm : m < 2 ^ 53) (h1 : -1074 ≤ e) (h2 : e ≤ 971) : pm_n64 (fp_v m e) = true := n64_of (fp_vn hm h1 h2)
set_option maxRecDepth 20000 in
theorem sc_ex {X : pm_X} {d : Nat} {I : st_I} {J : st_J} {m : Nat} {p1 : Int32} (hm : m < 2 ^ 53) (h1 : -1074 ≤ p1.toInt) (h2 : p1.toInt ≤ 971) : Ex X (d + 2) 83 [.double (fp_v m 0), .int p1] (st_h I J) (.inl (some (.double (fp_v m p1.toInt))), st_h I J, 0, 0) := by
  refine (e_Ra_scaled _).mpr ?_
  have e32 : (32 : Int32).toInt = 32 := rfl
  obtain ⟨P, hP⟩ : ∃ P : Nat, P = p1.toInt.natAbs := ⟨_, rfl⟩
  have hleft : (if p1 < (0 : Int32) then (-p1) else p1) = Int32.ofNat P := by
    by_cases q : p1 < 0
    · rw [if_pos q]
      rw [i32_lt, i0] at q
      refine eq_of ?_
      rw [Int32.toInt_neg, Int.bmod_eq_of_le (by omega) (by omega)]
      omega
    · rw [if_neg q]
      rw [i32_lt, i0] at q
      exact eq_of (by omega)
  rw [hleft]
  have L : ∀ n : Nat, ∀ k, k ≤ n → k ≤ P → ∀ v6 : UInt64, (32 ≤ k → v6 = 4751297606875873280) → Gx X (d + 1) (kc_Ra_scaled, []) (13, [some (.double (fp_v m 0)), none, some (.int p1), some (.double (fp_v m (if 0 < p1.toInt then (P : Int) - k else (k : Int) - P))), none, some (.int (Int32.ofNat k)), some (.double v6), none], [], st_h I J, 0, 0) (.inl (some (.double (fp_v m p1.toInt))), st_h I J, 0, 0) := by
    intro n
    induction n with
    | zero =>
      intro k hk hkP v6 h6
      have hk0 : k = 0 := by omega
      subst hk0
      refine (b_Ra_scaled_13 _).mpr ?_
      rw [if_neg (by decide), show (if 0 < p1.toInt then (P : Int) - (0 : Nat) else ((0 : Nat) : Int) - P) = p1.toInt by split <;> omega]
    | succ n ih =>
      intro k hk hkP v6 h6
      by_cases k0 : k = 0
      · subst k0
        refine (b_Ra_scaled_13 _).mpr ?_
        rw [if_neg (by decide), show (if 0 < p1.toInt then (P : Int) - (0 : Nat) else ((0 : Nat) : Int) - P) = p1.toInt by split <;> omega]
      · refine (b_Ra_scaled_13 _).mpr ?_
        rw [if_pos (show (0 : Int32) < Int32.ofNat k by rw [i32_lt, i0, oi_i (by omega)]; omega)]
        by_cases k32 : k < 32
        · rw [if_pos (show Int32.ofNat k < 32 by rw [i32_lt, oi_i (by omega), e32]; omega)]
          have hs : Int32.ofNat k - 1 = Int32.ofNat (k - 1) := i_fin (oi_i (by omega)) (show (1 : Int32).toInt = ((1 : Nat) : Int) from rfl) (by omega)
          by_cases hp : 0 < p1.toInt
          · rw [if_pos (show (0 : Int32) < p1 by rw [i32_lt, i0]; omega), if_pos hp, fp_vm hm (by omega) (by omega) fp_c2, hs]
            have := ih (k - 1) (by omega) (by omega) 4611686018427387904 (by omega)
            rw [if_pos hp, show (P : Int) - ((k - 1 : Nat) : Int) = (P : Int) - k + 1 by omega] at this
            exact ⟨n64_v hm (by omega) (by omega), this⟩
          · rw [if_neg (show ¬ (0 : Int32) < p1 by rw [i32_lt, i0]; omega), if_neg hp, fp_vd hm (by omega) (by omega) fp_c2, hs]
            have := ih (k - 1) (by omega) (by omega) 4611686018427387904 (by omega)
            rw [if_neg hp, show ((k - 1 : Nat) : Int) - (P : Int) = (k : Int) - P - 1 by omega] at this
            exact ⟨n64_v hm (by omega) (by omega), this⟩
        · rw [if_neg (show ¬ Int32.ofNat k < 32 by rw [i32_lt, oi_i (by omega), e32]; omega)]
          have hs : Int32.ofNat k - 32 = Int32.ofNat (k - 32) := i_fin (oi_i (by omega)) (show (32 : Int32).toInt = ((32 : Nat) : Int) from rfl) (by omega)
          have hv6 := h6 (by omega)
          subst hv6
          by_cases hp : 0 < p1.toInt
          · rw [if_pos (show (0 : Int32) < p1 by rw [i32_lt, i0]; omega), if_pos hp, fp_vm hm (by omega) (by omega) fp_cS, hs]
            have := ih (k - 32) (by omega) (by omega) 4751297606875873280 (fun _ => rfl)
            rw [if_pos hp, show (P : Int) - ((k - 32 : Nat) : Int) = (P : Int) - k + 32 by omega] at this
            exact ⟨n64_v hm (by omega) (by omega), this⟩
          · rw [if_neg (show ¬ (0 : Int32) < p1 by rw [i32_lt, i0]; omega), if_neg hp, fp_vd hm (by omega) (by omega) fp_cS, hs]
            have := ih (k - 32) (by omega) (by omega) 4751297606875873280 (fun _ => rfl)
            rw [if_neg hp, show ((k - 32 : Nat) : Int) - (P : Int) = (k : Int) - P - 32 by omega] at this
            exact ⟨n64_v hm (by omega) (by omega), this⟩
  have := L P P (by omega) (by omega) 4751297606875873280 (fun _ => rfl)
  rw [show (if 0 < p1.toInt then (P : Int) - (P : Int) else (P : Int) - P) = 0 by split <;> omega] at this
  exact this
