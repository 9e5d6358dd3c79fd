/-! the words that are built, as both sides build them -/
theorem or_lo (x y : Int64) : wn (x ||| y) % 2 ^ 32 = (wn x % 2 ^ 32) ||| (wn y % 2 ^ 32) := by
  unfold wn
  rw [Int64.toBitVec_or, BitVec.toNat_or, Nat.or_mod_two_pow]
theorem jl_lo (x : Int64) {k : Int32} {m : Nat} (h : bs k = 32 + m) : wn (jl x k) % 2 ^ 32 = 0 := by
  unfold wn
  rw [bs_jl, h, BitVec.toNat_shiftLeft, Nat.shiftLeft_eq, Nat.pow_add, Nat.mod_mod_of_dvd _ (by decide), Nat.mul_left_comm, Nat.mul_mod_right]
theorem sw_s (x y : Int64) : ((0 : Int64) ||| x) ||| y = x ||| y := by rw [Int64.zero_or]
theorem sw_lo (x y : Int64) : wn ((jl x (32 : Int32)) ||| (jl y (48 : Int32))) % 2 ^ 32 = 0 := by
  rw [or_lo, jl_lo x (m := 0) (by decide), jl_lo y (m := 16) (by decide)]
  rfl
theorem sw_3 (x y : Int64) : ((jl x (32 : Int32)) ||| (jl y (48 : Int32))) &&& 3 = 0 := by
  have h := sw_lo x y
  generalize (jl x (32 : Int32)) ||| (jl y (48 : Int32)) = w at *
  have e := bm_kind w
  unfold wk at e
  rw [wn_0]
  have e2 : wn (w &&& 3) = wn w % 4 := bn_and64 (n := 2) 3 rfl
  rw [e2]
  omega
theorem lw_lo (x y : Int64) : wn (((1 : Int64) ||| (jl x (32 : Int32))) ||| (jl y (35 : Int32))) % 2 ^ 32 = 1 := by
  rw [or_lo, or_lo, jl_lo x (m := 0) (by decide), jl_lo y (m := 3) (by decide)]
  rfl
theorem lw_3 (x y : Int64) : ¬ ((((1 : Int64) ||| (jl x (32 : Int32))) ||| (jl y (35 : Int32))) &&& 3 = 0) := fun q => by
  have h := lw_lo x y
  generalize ((1 : Int64) ||| (jl x (32 : Int32))) ||| (jl y (35 : Int32)) = w at *
  have e2 : wn (w &&& 3) = wn w % 4 := bn_and64 (n := 2) 3 rfl
  rw [q] at e2
  have e3 : wn 0 = 0 := rfl
  omega
theorem wn_p {n : Nat} (h : n < 2 ^ 30) : (Int32.toInt64 (Int32.ofNat n)) &&& (1073741823 : Int64) = Int32.toInt64 (Int32.ofNat n) := by
  have e : (Int32.toInt64 (Int32.ofNat n)).toInt = n := (tl _).trans (oi_i (by omega))
  have e2 : wn ((Int32.toInt64 (Int32.ofNat n)) &&& (1073741823 : Int64)) = wn (Int32.toInt64 (Int32.ofNat n)) % 2 ^ 30 := bn_and64 (n := 30) 1073741823 rfl
  have e3 : wn (Int32.toInt64 (Int32.ofNat n)) = n := by
    have := bn_lt (Int32.toInt64 (Int32.ofNat n))
    rw [← Int64.toInt_toBitVec, BitVec.toInt_eq_toNat_cond] at e
    unfold wn at *
    split at e <;> omega
  rw [e3, Nat.mod_eq_of_lt h] at e2
  apply Int64.toBitVec_inj.mp
  apply BitVec.eq_of_toNat_eq
  exact e2.trans e3.symm
theorem tg_e {a b c : Nat} (h : a < 2 ^ 30) : nrw (((0 : Int64) ||| (jl (Int32.toInt64 (Int32.ofNat b)) (32 : Int32))) ||| (jl (Int32.toInt64 (Int32.ofNat c)) (48 : Int32))) (Int32.ofNat a) = ((jl (Int32.toInt64 (Int32.ofNat a)) (2 : Int32)) ||| (jl (Int32.toInt64 (Int32.ofNat b)) (32 : Int32))) ||| (jl (Int32.toInt64 (Int32.ofNat c)) (48 : Int32)) := by
  unfold nrw
  rw [sw_s, bw_near (by rw [sw_lo]; omega), wn_p h, Int64.or_comm, Int64.or_assoc]
theorem oi_d128 {g p : Nat} (hg : g < 4) (hp : p < 128) : Int32.ofNat (128 * g + p) / (128 : Int32) = Int32.ofNat g := by
  refine eq_of ?_
  rw [id_ (by rw [oi_i (by omega)]; omega) (by decide), oi_i (by omega), show (128 : Int32).toInt = 128 from rfl]
  omega
theorem oi_r128 {g p : Nat} (hg : g < 4) (hp : p < 128) : irm (Int32.ofNat (128 * g + p)) (128 : Int32) = Int32.ofNat p := by
  refine eq_of ?_
  rw [irm_ (by rw [oi_i (by omega)]; omega) (by decide), oi_i (by omega), show (128 : Int32).toInt = 128 from rfl]
  omega
/-! the reference, where words are taken -/
theorem rf_ok {X : pm_X} {d : Nat} {I : st_I} {J J1 : st_J} {p2 p3 : Int32} {s k n c : Nat} {w : Int64} {v : Nat × Nat × Nat × Nat × Nat} {z : V9} (h : RR I J) (ho : ¬ I 166 11 = 0) (hc : c < 16) (hs : s < 4) (hk : k < 64) (hn : n ≤ 2000) (hw : ¬ (n = 0 ∧ (w &&& 3) = 0)) (hal : al (un (I 7)) (I 1 2).toNatClampNeg (I 1 3).toNatClampNeg s n = some v) (hM : ∀ (I1 : st_I) (J1 : st_J), (∀ a c, 173 ≤ a → a ≤ 182 → c < 16 → c = p2.toNatClampNeg → I1 a c = I a c) → I1 166 10 = 0 → srcM X d I1 J1 p2 p3 s k) : Ex X (d + 3) 208 [.ref 166, .int p2, .int p3, .int (Int32.ofNat n), .long w] (st_h (st_w (bI I v n c z) 166 10 0) J1) (.inl (some (.int (Int32.ofNat (128 * v.2.1 + v.2.2.1)))), st_h (mU (st_w (bI I v n c z) 166 10 0) v n) (mJ J1 v s k w), 0, 0) := by
  obtain ⟨e7, e170, eS, eM, eZ, eZM, S1, S4, Z1, Z64, h0⟩ := own_f h ho
  have hv := al_4 h0 hs Z64 hal
  have q : ∀ a f, a ≠ 7 → ¬ (a = 1 ∧ f = 2) → a ≠ 9 → a ≠ 150 + c → ¬ (a = 166 ∧ f = 10) → (st_w (bI I v n c z) 166 10 0) a f = I a f := fun a f q1 q2 q3 q4 q5 => by
    rw [st_w_e, if_neg q5, bI_o q1 q2 q3 q4]
  have k1 := hM (st_w (bI I v n c z) 166 10 0) J1 (fun a c' q1 q2 q3 q4 => q a c' (by omega) (by omega) (by omega) (by omega) (by omega)) (st_w_at _ _ _ _) (Int32.ofNat n) w (Int32.ofNat (128 * v.2.1 + v.2.2.1)) (mU (st_w (bI I v n c z) 166 10 0) v n) (mJ J1 v s k w) (ma_ex (U := un (I 7)) (S := (I 1 2).toNatClampNeg) (Z := (I 1 3).toNatClampNeg) ((q 166 6 (by omega) (by omega) (by omega) (by omega) (by omega)).trans eM) ((q 166 9 (by omega) (by omega) (by omega) (by omega) (by omega)).trans eZM) S1 S4 Z64 (fun x hx => ⟨(q 170 x (by omega) (by omega) (by omega) (by omega) (by omega)).trans (e170 x hx), (e7 x hx).2⟩) h0 hs hk hn hw (by rw [hal]; rfl)) (by rw [mU_o _ v n (by omega) (by omega)]; exact st_w_at _ _ _ _)
  rw [if_neg (oi_ng (by omega))] at k1
  exact k1
/-- .. where none are left -/
theorem rf_no {X : pm_X} {d : Nat} {I : st_I} {J : st_J} {p2 p3 : Int32} {s k n : Nat} {w : Int64} (h : RR I J) (ho : ¬ I 166 11 = 0) (hs : s < 4) (hk : k < 64) (hn : n ≤ 2000) (hw : ¬ (n = 0 ∧ (w &&& 3) = 0)) (hal : al (un (I 7)) (I 1 2).toNatClampNeg (I 1 3).toNatClampNeg s n = none) (hM : ∀ (I1 : st_I) (J1 : st_J), (∀ a c, 173 ≤ a → a ≤ 182 → c < 16 → c = p2.toNatClampNeg → I1 a c = I a c) → I1 166 10 = 0 → srcM X d I1 J1 p2 p3 s k) : Ex X (d + 3) 208 [.ref 166, .int p2, .int p3, .int (Int32.ofNat n), .long w] (st_h (st_w I 166 10 0) J) (.inl (some (.int (-1))), st_h (st_w (st_w I 166 10 0) 166 10 3) J, 0, 0) := by
  obtain ⟨e7, e170, eS, eM, eZ, eZM, S1, S4, Z1, Z64, h0⟩ := own_f h ho
  have q : ∀ a f, ¬ (a = 166 ∧ f = 10) → (st_w I 166 10 0) a f = I a f := fun a f q5 => by rw [st_w_e, if_neg q5]
  have k1 := hM (st_w I 166 10 0) J (fun a c' q1 q2 q3 q4 => q a c' (by omega)) (st_w_at _ _ _ _) (Int32.ofNat n) w (-1) (st_w I 166 10 0) J (ma_ex (U := un (I 7)) (S := (I 1 2).toNatClampNeg) (Z := (I 1 3).toNatClampNeg) ((q 166 6 (by omega)).trans eM) ((q 166 9 (by omega)).trans eZM) S1 S4 Z64 (fun x hx => ⟨(q 170 x (by omega)).trans (e170 x hx), (e7 x hx).2⟩) h0 hs hk hn hw (by rw [hal]; rfl)) (st_w_at _ _ _ _)
  rw [if_pos (by decide)] at k1
  exact k1
/-- the class's premise -/
theorem alk_ok {I : st_I} {J : st_J} {s k n : Nat} (h : RR I J) (ho : ¬ I 166 11 = 0) (hs : s < 4) (hk : k < 64) (hn : n ≤ 2000) : alk I (Int32.ofNat s) (Int32.ofNat k) (Int32.ofNat n) := by
  obtain ⟨hm, hz, -, -⟩ := h
  rcases hz with ⟨z1, -⟩ | ⟨z1, z2, z3, z4⟩
  · exact absurd z1 ho
  · refine ⟨hm.1, ⟨z3, z4⟩, hm.2.2.2.2.2, ?_, ?_, ?_⟩
    · rw [oi_i (by omega)]; omega
    · rw [oi_i (by omega)]; omega
    · rw [oi_i (by omega)]; omega
theorem alo_s {I : st_I} {J : st_J} {s k n : Nat} {w : Int64} {v : Nat × Nat × Nat × Nat × Nat} (hs : s < 4) (hk : k < 64) (hn : n ≤ 2000) (hal : al (un (I 7)) (I 1 2).toNatClampNeg (I 1 3).toNatClampNeg s n = some v) : alo I J (Int32.ofNat s) (Int32.ofNat k) w (Int32.ofNat n) = some (aI I v n, aJ J v s k w) := by
  unfold alo alN
  rw [oi_n (by omega), oi_n (by omega), oi_n (by omega), hal]
  rfl
theorem alo_n {I : st_I} {J : st_J} {s k n : Nat} {w : Int64} (hs : s < 4) (hk : k < 64) (hn : n ≤ 2000) (hal : al (un (I 7)) (I 1 2).toNatClampNeg (I 1 3).toNatClampNeg s n = none) : alo I J (Int32.ofNat s) (Int32.ofNat k) w (Int32.ofNat n) = none := by
  unfold alo alN
  rw [oi_n (by omega), oi_n (by omega), oi_n (by omega), hal]
  rfl
theorem aI_90 (I : st_I) (v : Nat × Nat × Nat × Nat × Nat) (n : Nat) : (aI I v n) 9 0 = Int32.ofNat v.2.1 := by
  unfold aI
  rw [st_w_e, if_neg (by omega), st_w_at]
theorem aI_91 (I : st_I) (v : Nat × Nat × Nat × Nat × Nat) (n : Nat) : (aI I v n) 9 1 = Int32.ofNat v.2.2.1 := by
  unfold aI
  rw [st_w_at]
theorem st_cq_a {P : Nat → Prop} (h1 : P 173) (h2 : P 174) (h3 : P 175) (h4 : P 176) (h5 : P 177) (h6 : P 178) (h7 : P 179) (h8 : P 180) (h9 : P 181) (h10 : P 182) : ∀ a, 173 ≤ a → a ≤ 182 → P a := fun a q1 q2 => by
  obtain rfl | rfl | rfl | rfl | rfl | rfl | rfl | rfl | rfl | rfl : a = 173 ∨ a = 174 ∨ a = 175 ∨ a = 176 ∨ a = 177 ∨ a = 178 ∨ a = 179 ∨ a = 180 ∨ a = 181 ∨ a = 182 := by omega
  all_goals assumption
