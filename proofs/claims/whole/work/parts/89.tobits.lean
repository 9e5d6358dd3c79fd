/-! the bits of a number that is put: both sides' value -/
def rmv (x : UInt64) (n w : Int32) : Int64 :=
  match FP.Core.val64 x with
  | .fin s D q => if D = 0 then 0 else ((jl (if s then (1 : Int64) else (0 : Int64)) (n + w)) ||| (jl (Int32.toInt64 ((Int32.ofInt (q + 52) + (il (1 : Int32) (w - (1 : Int32)))) - (1 : Int32))) n)) ||| (Int64.ofNat ((D - 2 ^ 52) / 2 ^ (52 - n.toNatClampNeg)))
  | _ => 0
def rln (x : UInt64) : Prop := x = 0 ∨ ∃ s D q, fp_N D q ∧ -57 ≤ q ∧ q ≤ -22 ∧ x = fp_n s D q
def rmk (x : UInt64) (n w : Int32) : Prop := rln x ∧ (n = 23 ∨ n = 52)
def rlv (x : UInt64) (p : Int32) : Int64 := if p = (0 : Int32) then rmv (FP.f2d (FP.d2f x)) 23 8 else rmv x 52 11
def rlk (x : UInt64) : Prop := x = 0 ∨ ∃ s D q, fp_N D q ∧ -56 ≤ q ∧ q ≤ -23 ∧ x = fp_n s D q
theorem rmv_0 (n w : Int32) : rmv 0 n w = 0 := by
  unfold rmv
  rw [fp_0]
  rfl
theorem rmv_n {s : Bool} {D : Nat} {q : Int} (h : fp_N D q) (n w : Int32) : rmv (fp_n s D q) n w = ((jl (if s then (1 : Int64) else (0 : Int64)) (n + w)) ||| (jl (Int32.toInt64 ((Int32.ofInt (q + 52) + (il (1 : Int32) (w - (1 : Int32)))) - (1 : Int32))) n)) ||| (Int64.ofNat ((D - 2 ^ 52) / 2 ^ (52 - n.toNatClampNeg))) := by
  unfold rmv
  rw [fp_val h]
  exact if_neg (by have := h.1; omega)
theorem hc_M_bitsOfReal {X : pm_X} {d : Nat} {I : st_I} {J : st_J} {p0 : UInt64} {p1 p2 : Int32} (r : pm_R) : rmk p0 p1 p2 ∧ r = (.inl (some (.long (rmv p0 p1 p2))), st_h I J, 0, 0) → Ex X (d + 1) 219 [.double p0, .int p1, .int p2] (st_h I J) r := by
  rintro ⟨⟨h, hn⟩, hr⟩
  subst hr
  rcases h with h | ⟨s, D, q, hN, h1, h2, h⟩
  · subst h
    rw [rmv_0]
    refine (e_M_bitsOfReal _).mpr ?_
    rw [if_pos (by decide +kernel)]
  · subst h
    rw [rmv_n hN]
    rcases hn with hn | hn
    · subst hn
      exact bo_ex hN (by omega) (by omega) (b := 23) (by omega) (by decide +kernel)
    · subst hn
      exact bo_ex hN (by omega) (by omega) (b := 52) (by omega) (by decide +kernel)
theorem rln_f {x : UInt64} (h : rlk x) : rln (FP.f2d (FP.d2f x)) := by
  rcases h with h | ⟨s, D, q, hN, h1, h2, h⟩
  · exact Or.inl (by subst h; decide +kernel)
  · subst h
    obtain ⟨D', q', hN', g1, g2, g3, g4⟩ := fp_flt (s := s) hN (by omega) (by omega)
    exact Or.inr ⟨s, D', q', hN', by omega, by omega, g4⟩
theorem rlk_n {x : UInt64} (h : rlk x) : rln x := by
  rcases h with h | ⟨s, D, q, hN, h1, h2, h⟩
  · exact Or.inl h
  · exact Or.inr ⟨s, D, q, hN, by omega, by omega, h⟩
theorem rln_64 {x : UInt64} (h : rln x) : pm_n64 x = true := by
  rcases h with h | ⟨s, D, q, hN, h1, h2, h⟩
  · subst h; decide +kernel
  · subst h; exact n64_n hN
theorem n32_of {x : UInt32} (h : FP.fIsNaN x = false) : pm_n32 x = true := by
  have h1 : ¬ (2139095040 < x.toNat % 2 ^ 31) := fun q => by
    have := (FP.Core.isNaN_bits32 x).mpr q
    rw [show FP.Core.fIsNaN x = FP.fIsNaN x from rfl, h] at this
    cases this
  unfold pm_n32
  refine decide_eq_true ?_
  rw [UInt32.le_iff_toNat_le, UInt32.toNat_and]
  show x.toNat &&& (2 ^ 31 - 1) ≤ 2139095040
  rw [Nat.and_two_pow_sub_one_eq_mod]
  omega
theorem rlk_32 {x : UInt64} (h : rlk x) : pm_n32 (FP.d2f x) = true := by
  rcases h with h | ⟨s, D, q, hN, h1, h2, h⟩
  · subst h; decide +kernel
  · subst h
    obtain ⟨c, r, e, c1, c2, r1, r2⟩ := fp_f32 (s := s) hN (by omega) (by omega)
    refine n32_of ?_
    have hv : FP.Core.val32 (FP.d2f (fp_n s D q)) = .fin s c r := by
      rw [FP.d2f_core (fp_nn hN), FP.Core.val32_d2f, fp_val hN]
      exact e
    show decide (FP.Core.val32 _ = .nan) = false
    rw [hv]
    rfl
theorem cb_w : (9218868437227405311 : UInt64) = fp_n false (2 ^ 53 - 1) 971 := by decide +kernel
theorem cb_n : (5183643170566569984 : UInt64) = fp_n false ((2 ^ 24 - 1) * 2 ^ 29) 75 := by decide +kernel
theorem cb_W : fp_N (2 ^ 53 - 1) 971 := by unfold fp_N; omega
theorem cb_N : fp_N ((2 ^ 24 - 1) * 2 ^ 29) 75 := by unfold fp_N; omega
theorem cb_m {x c : UInt64} {E : Nat} {r : Int} (h : rln x) (hc : c = fp_n false E r) (hE : fp_N E r) (hr : 0 ≤ r) (h0 : FP.dcmp 0 (FP.dneg c) = some .gt) (h1 : FP.dcmp 0 c = some .lt) : FP.dcmp x (FP.dneg c) = some .gt ∧ FP.dcmp x c = some .lt := by
  rcases h with h | ⟨s, D, q, hN, g1, g2, h⟩
  · subst h; exact ⟨h0, h1⟩
  · subst h
    rw [hc, fp_neg hE]
    exact ⟨fp_cb hN hE (by omega), fp_cb hN hE (by omega)⟩
theorem hc_Ra_canHold {X : pm_X} {d : Nat} {I : st_I} {J : st_J} {p0 : UInt64} {p1 : Int32} (r : pm_R) : rlk p0 ∧ r = (.inl (some (.int (1 : Int32))), st_h I J, 0, 0) → Ex X (d + 1) 120 [.double p0, .int p1] (st_h I J) r := by
  rintro ⟨h, hr⟩
  subst hr
  refine (ev_Ra_canHold _).mpr ?_
  obtain ⟨a1, a2⟩ := cb_m (rlk_n h) cb_w cb_W (by decide) (by decide +kernel) (by decide +kernel)
  obtain ⟨b1, b2⟩ := cb_m (rln_f h) cb_n cb_N (by decide) (by decide +kernel) (by decide +kernel)
  rw [a1, a2, b1, b2]
  rw [if_neg (by decide), if_neg (by decide)]
  refine ⟨rlk_32 h, rln_64 (rln_f h), ?_⟩
  rw [bz_t]
  exact Or.inr ⟨by decide, by decide⟩
theorem or_as (x y z : Int64) : x ||| (y ||| z) = (x ||| y) ||| z := by
  refine bw_ext fun i _ => ?_
  rw [bw_or, bw_or, bw_or, bw_or, Bool.or_assoc]
theorem szv_e {p1 v3 w : Int32} {p q : Int} {D b : Nat} (hD : 2 ^ 52 ≤ D ∧ D < 2 ^ 53) (hb : b ≤ 52) (hv : v3.toInt = b) (hp : p + b = q + 52) (hq : -100 ≤ q ∧ q ≤ 0) (hB : (if p1 = (0 : Int32) then (127 : Int32) else (1023 : Int32)) = il (1 : Int32) (w - 1) - 1) (hB1 : 127 ≤ (il (1 : Int32) (w - 1) - 1).toInt) (hB2 : (il (1 : Int32) (w - 1) - 1).toInt ≤ 1023) (hz : (il (1 : Int32) (w - 1)).toInt = (il (1 : Int32) (w - 1) - 1).toInt + 1) : szv p1 v3 p D b = (jl (Int32.toInt64 ((Int32.ofInt (q + 52) + (il (1 : Int32) (w - (1 : Int32)))) - (1 : Int32))) v3) ||| (Int64.ofNat ((D - 2 ^ 52) / 2 ^ (52 - v3.toNatClampNeg))) := by
  unfold szv
  rw [hB]
  obtain ⟨Y, hY⟩ : ∃ Y, Y = il (1 : Int32) (w - 1) := ⟨_, rfl⟩
  rw [← hY] at hB1 hB2 hz ⊢
  have e1 : (Int32.ofInt p + v3 + (Y - 1)).toInt = q + 52 + (Y - 1).toInt := by
    have a : (Int32.ofInt p + v3).toInt = q + 52 := by
      rw [ia2 (oz_i (by omega) (by omega)) hv (by omega) (by omega)]
      exact hp
    exact ia2 a rfl (by omega) (by omega)
  have e2 : (Int32.ofInt (q + 52) + Y - 1).toInt = q + 52 + (Y - 1).toInt := by
    rw [is2 (ia2 (oz_i (by omega) (by omega)) hz (by omega) (by omega)) (show (1 : Int32).toInt = 1 from rfl) (by omega) (by omega)]
    omega
  rw [if_neg (by rw [i32_lt, e1, show (1 : Int32).toInt = 1 from rfl]; omega), show (Int32.ofInt p + v3 + (Y - 1)) = (Int32.ofInt (q + 52) + Y - 1) from by rw [i32_eq, e1, e2]]
  congr 1
  have hvn : v3.toNatClampNeg = b := nat_of hv
  rw [if_pos (by rw [i32_lt, hv, show (64 : Int32).toInt = 64 from rfl]; omega), hvn]
  rw [Int64.ofNat, Int64.ofNat]
  refine Int64.toBitVec_inj.mp (BitVec.eq_of_toNat_eq ?_)
  rw [bn_and64 (n := b) _ (bw_ones hv (by omega))]
  show (BitVec.ofNat 64 (D / 2 ^ (52 - b))).toNat % 2 ^ b = (BitVec.ofNat 64 ((D - 2 ^ 52) / 2 ^ (52 - b))).toNat
  have g1 : D / 2 ^ (52 - b) ≤ D := Nat.div_le_self _ _
  have g2 : (D - 2 ^ 52) / 2 ^ (52 - b) ≤ D - 2 ^ 52 := Nat.div_le_self _ _
  rw [BitVec.toNat_ofNat, BitVec.toNat_ofNat, Nat.mod_eq_of_lt (show D / 2 ^ (52 - b) < 2 ^ 64 by omega), Nat.mod_eq_of_lt (show (D - 2 ^ 52) / 2 ^ (52 - b) < 2 ^ 64 by omega)]
  have h52 : 2 ^ 52 = 2 ^ b * 2 ^ (52 - b) := by rw [← Nat.pow_add]; congr 1; omega
  have hsplit : D / 2 ^ (52 - b) = (D - 2 ^ 52) / 2 ^ (52 - b) + 2 ^ b := by
    have : D = (D - 2 ^ 52) + 2 ^ b * 2 ^ (52 - b) := by rw [← h52]; omega
    conv => lhs; rw [this]
    exact Nat.add_mul_div_right _ _ (Nat.two_pow_pos _)
  have hlt : (D - 2 ^ 52) / 2 ^ (52 - b) < 2 ^ b := by
    refine Nat.div_lt_of_lt_mul ?_
    rw [Nat.mul_comm, ← h52]
    omega
  rw [hsplit, Nat.add_mod_right, Nat.mod_eq_of_lt hlt]
theorem or_0 (x : Int64) : (0 : Int64) ||| x = x := by
  refine bw_ext fun i _ => ?_
  rw [bw_or, show (0 : Int64).toBitVec = 0#64 from rfl, BitVec.getLsbD_zero, Bool.false_or]
set_option maxRecDepth 20000 in
theorem hc_Ra_toBits {X : pm_X} {d : Nat} {I : st_I} {J : st_J} {p0 : UInt64} {p1 : Int32} (r : pm_R) : rlk p0 ∧ r = (.inl (some (.long (rlv p0 p1))), st_h I J, 0, 0) → Ex X (d + 4) 121 [.double p0, .int p1] (st_h I J) r := by
  rintro ⟨h, hr⟩
  subst hr
  have h32 := rlk_32 h
  have hf := rln_f h
  have h64 := rln_64 hf
  have hn := rlk_n h
  have key := fun B : Int64 => iv_Ra_toBits (X := X) (d := d) (I := I) (J := J) (p0 := p0) (p1 := p1) (K := I) (K2 := I) (K4 := I) (K6 := I) (K8 := I) (K10 := I) (b := B) (b2 := B) (b4 := B) (b6 := B) (b8 := B) (b10 := B) (.inl (some (.long (rlv p0 p1))), st_h I J, 0, 0)
  unfold rlv at key ⊢
  by_cases c : p1 = 0
  · subst c
    rw [if_pos rfl] at key ⊢
    have key := fun B z => key B (by rw [if_pos rfl]; exact ⟨h32, h64, z⟩)
    obtain ⟨x, hx⟩ : ∃ x, x = FP.f2d (FP.d2f p0) := ⟨_, rfl⟩
    rw [← hx] at hf key ⊢
    rcases hf with hf | ⟨s, D, q, hN, g1, g2, hf⟩
    · rw [hf] at key ⊢
      refine key 0 ?_
      rw [if_neg (by decide +kernel), if_pos (by decide +kernel)]
      refine ⟨by decide +kernel, ?_, ?_⟩
      · refine (e_Ra_sizeBits _).mpr ?_
        rw [if_pos (by decide +kernel)]
      · rw [rmv_0, if_neg (by decide +kernel)]
        rfl
    · rw [hf] at key ⊢
      have hz : FP.dcmp (fp_n s D q) FP.dconst0 = some (if s then .lt else .gt) := fp_cz hN
      have hsz := szv_e (p1 := 0) (v3 := 23) (w := 8) (p := q + 29) (q := q) (D := D) (b := 23) ⟨hN.1, hN.2.1⟩ (by omega) rfl (by omega) (by omega) (by decide) (by decide) (by decide) (by decide)
      rw [rmv_n hN] at key ⊢
      rw [hz] at key
      refine key (szv 0 23 (q + 29) D 23) ?_
      cases s
      · rw [if_neg (by decide), if_neg (by decide)]
        refine ⟨sz_n hN (by omega) (by omega), ?_⟩
        rw [hsz, or_as]
        rfl
      · rw [if_pos (by decide), fp_neg hN]
        refine ⟨sz_n hN (by omega) (by omega), ?_⟩
        rw [hsz, or_as]
        rfl
  · rw [if_neg c] at key ⊢
    have key := fun B z => key B (by rw [if_neg c]; exact z)
    rcases hn with hf | ⟨s, D, q, hN, g1, g2, hf⟩
    · rw [hf] at key ⊢
      refine key 0 ?_
      rw [if_neg (by decide +kernel), if_pos (by decide +kernel)]
      refine ⟨by decide +kernel, ?_, ?_⟩
      · refine (e_Ra_sizeBits _).mpr ?_
        rw [if_pos (by decide +kernel)]
      · rw [rmv_0, if_neg (by decide +kernel)]
        rfl
    · rw [hf] at key ⊢
      have hz : FP.dcmp (fp_n s D q) FP.dconst0 = some (if s then .lt else .gt) := fp_cz hN
      have hsz := szv_e (p1 := p1) (v3 := 52) (w := 11) (p := q) (q := q) (D := D) (b := 52) ⟨hN.1, hN.2.1⟩ (by omega) rfl (by omega) (by omega) (by rw [if_neg c]; decide) (by decide) (by decide) (by decide)
      rw [rmv_n hN] at key ⊢
      rw [hz] at key
      refine key (szv p1 52 q D 52) ?_
      cases s
      · rw [if_neg (by decide), if_neg (by decide)]
        refine ⟨sz_w hN (by omega) (by omega) c, ?_⟩
        rw [hsz, or_as]
        rfl
      · rw [if_pos (by decide), fp_neg hN]
        refine ⟨sz_w hN (by omega) (by omega) c, ?_⟩
        rw [hsz, or_as]
        rfl
