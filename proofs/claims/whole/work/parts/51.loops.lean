/-! loops in closed form: rows filled, cursors cleared, room looked for, words needed -/
/-- the first n elements of a row -/
def st_fl (J : st_J) (a n : Nat) (x : Int64) : st_J := fun i k => if i = a ∧ k < n then x else J i k
theorem st_fl_0 (J : st_J) (a : Nat) (x : Int64) : st_fl J a 0 x = J := by
  funext i k
  unfold st_fl
  exact if_neg (by omega)
theorem st_fl_s (J : st_J) (a n : Nat) (x : Int64) : st_y (st_fl J a n x) a n x = st_fl J a (n + 1) x := by
  funext i k
  rw [st_y_e]
  unfold st_fl
  by_cases h1 : i = a ∧ k = n
  · rw [if_pos h1, if_pos (by omega)]
  · rw [if_neg h1]
    by_cases h2 : i = a ∧ k < n
    · rw [if_pos h2, if_pos (by omega)]
    · rw [if_neg h2, if_neg (by omega)]
theorem hc_JA_fill {X : pm_X} {d : Nat} {I : st_I} {J : st_J} {p0 : Nat} (g0 : st_aJ p0 = some 64) {p1 : Int64} (r : pm_R) : r = (.inl none, st_h I (st_fl J p0 64 p1), 0, 0) → Ex X (d + 1) 15 [.ref p0, .long p1] (st_h I J) r := by
  intro h
  refine (e_JA_fill g0 r).mpr ?_
  have L := lp (G := fun i => Gx X d (kc_JA_fill, []) (6, [some (.ref p0), some (.long p1), none, some (.int (Int32.ofNat i)), some (.int (64 : Int32))], [], st_h I (st_fl J p0 i p1), 0, 0) r) 64 (fun i hi => by
    refine (b_JA_fill_6 g0 r).trans ?_
    rw [if_pos (show Int32.ofNat i < (64 : Int32) from (oi_lt (n := 64) (by omega) (by omega)).mpr hi), oi_a, oi_n (by omega), st_fl_s]
    exact and_t (oi_in hi (by omega)))
  have L := L.mpr ((b_JA_fill_6 g0 r).mpr (by rw [if_neg (by decide)]; exact h))
  rw [st_fl_0] at L
  exact L
/-- the first n cursors of the class -/
def st_cz (I : st_I) (n : Nat) : st_I := fun a f => if 150 ≤ a ∧ a < 150 + n ∧ f < 9 then 0 else I a f
theorem st_cz_0 (I : st_I) : st_cz I 0 = I := by
  funext i k
  unfold st_cz
  exact if_neg (by omega)
theorem st_z9 (I : st_I) (n : Nat) : st_w (st_w (st_w (st_w (st_w (st_w (st_w (st_w (st_w I n 0 (0 : Int32)) n 2 (0 : Int32)) n 3 (0 : Int32)) n 1 (0 : Int32)) n 4 (0 : Int32)) n 5 (0 : Int32)) n 6 (0 : Int32)) n 7 (0 : Int32)) n 8 (0 : Int32) = fun a f => if a = n ∧ f < 9 then 0 else I a f := by
  funext a f
  simp only [st_w_e]
  repeat' split
  all_goals first | rfl | omega
theorem st_cz_s (I : st_I) (n : Nat) : (fun a f => if a = 150 + n ∧ f < 9 then 0 else st_cz I n a f) = st_cz I (n + 1) := by
  funext a f
  unfold st_cz
  by_cases h1 : a = 150 + n ∧ f < 9
  · rw [if_pos h1, if_pos (by omega)]
  · rw [if_neg h1]
    by_cases h2 : 150 ≤ a ∧ a < 150 + n ∧ f < 9
    · rw [if_pos h2, if_pos (by omega)]
    · rw [if_neg h2, if_neg (by omega)]
theorem hc_D_cursorsToNothing {X : pm_X} {d : Nat} {I : st_I} {J : st_J} (r : pm_R) : r = (.inl none, st_h (st_cz I 16) J, 0, 0) → Ex X (d + 3) 16 [.ref 0] (st_h I J) r := by
  intro h
  refine (e_D_cursorsToNothing r).mpr ?_
  have L := lp (G := fun i => Gx X (d + 2) (kc_D_cursorsToNothing, []) (2, [some (.ref 0), some (.int (Int32.ofNat i))], [], st_h (st_cz I i) J, 0, 0) r) 16 (fun i hi => by
    refine (b_D_cursorsToNothing_2 r).trans ?_
    rw [if_pos (show Int32.ofNat i < (16 : Int32) from (oi_lt (n := 16) (by omega) (by omega)).mpr hi), oi_a, oi_n (by omega), st_z9, st_cz_s]
    exact and_t (oi_in hi (by omega)))
  have L := L.mpr ((b_D_cursorsToNothing_2 r).mpr (by rw [if_neg (by decide)]; exact h))
  rw [st_cz_0] at L
  exact L
/-- the first n cursors of the reference -/
def st_mz (I : st_I) (n : Nat) : st_I := fun a f => if 173 ≤ a ∧ a ≤ 182 ∧ f < n then 0 else I a f
theorem st_mz_0 (I : st_I) : st_mz I 0 = I := by
  funext i k
  unfold st_mz
  exact if_neg (by omega)
theorem st_z10 (I : st_I) (n : Nat) : st_w (st_w (st_w (st_w (st_w (st_w (st_w (st_w (st_w (st_w I 173 n (0 : Int32)) 174 n (0 : Int32)) 175 n (0 : Int32)) 176 n (0 : Int32)) 177 n (0 : Int32)) 178 n (0 : Int32)) 179 n (0 : Int32)) 180 n (0 : Int32)) 181 n (0 : Int32)) 182 n (0 : Int32) = fun a f => if 173 ≤ a ∧ a ≤ 182 ∧ f = n then 0 else I a f := by
  funext a f
  simp only [st_w_e]
  repeat' split
  all_goals first | rfl | omega
theorem st_mz_s (I : st_I) (n : Nat) : (fun a f => if 173 ≤ a ∧ a ≤ 182 ∧ f = n then 0 else st_mz I n a f) = st_mz I (n + 1) := by
  funext a f
  unfold st_mz
  by_cases h1 : 173 ≤ a ∧ a ≤ 182 ∧ f = n
  · rw [if_pos h1, if_pos (by omega)]
  · rw [if_neg h1]
    by_cases h2 : 173 ≤ a ∧ a ≤ 182 ∧ f < n
    · rw [if_pos h2, if_pos (by omega)]
    · rw [if_neg h2, if_neg (by omega)]
theorem hc_M_forget {X : pm_X} {d : Nat} {I : st_I} {J : st_J} (r : pm_R) : r = (.inl none, st_h (st_mz I 17) J, 0, 0) → Ex X (d + 2) 174 [.ref 166] (st_h I J) r := by
  intro h
  refine (e_M_forget r).mpr ?_
  have L := lp (G := fun i => Gx X (d + 1) (kc_M_forget, []) (2, [some (.ref 166), some (.int (Int32.ofNat i))], [], st_h (st_mz I i) J, 0, 0) r) 17 (fun i hi => by
    refine (b_M_forget_2 r).trans ?_
    rw [if_pos (show Int32.ofNat i < (17 : Int32) from (oi_lt (n := 17) (by omega) (by omega)).mpr hi), oi_a, oi_n (by omega), st_z10, st_mz_s]
    exact and_t (oi_in hi (by omega)))
  have L := L.mpr ((b_M_forget_2 r).mpr (by rw [if_neg (by decide)]; exact h))
  rw [st_mz_0] at L
  exact L
/-- the first n words of a segment of the reference -/
def st_lz (J : st_J) (s n : Nat) : st_J := fun a k => if a = 167 ∧ 64 * s ≤ k ∧ k < 64 * s + n then 0 else J a k
theorem st_lz_0 (J : st_J) (s : Nat) : st_lz J s 0 = J := by
  funext i k
  unfold st_lz
  exact if_neg (by omega)
theorem st_lz_s (J : st_J) (s n : Nat) : st_y (st_lz J s n) 167 (64 * s + n) 0 = st_lz J s (n + 1) := by
  funext i k
  rw [st_y_e]
  unfold st_lz
  by_cases h1 : i = 167 ∧ k = 64 * s + n
  · rw [if_pos h1, if_pos (by omega)]
  · rw [if_neg h1]
    by_cases h2 : i = 167 ∧ 64 * s ≤ k ∧ k < 64 * s + n
    · rw [if_pos h2, if_pos (by omega)]
    · rw [if_neg h2, if_neg (by omega)]
theorem oi_64 {s i : Nat} (hs : s < 2 ^ 20) (hi : i < 2 ^ 20) : (64 : Int32) * Int32.ofNat s + Int32.ofNat i = Int32.ofNat (64 * s + i) := by
  apply Int32.toInt_inj.mp
  have e64 : (64 : Int32).toInt = 64 := rfl
  have hsi := oi_i (i := s) (by omega)
  have e : ((64 : Int32) * Int32.ofNat s).toInt = 64 * (s : Int) := by
    rw [im (by rw [e64, hsi]; omega) (by rw [e64, hsi]; omega), e64, hsi]
  rw [ia, e, oi_i (by omega), oi_i (by omega)]
  · omega
  · rw [e, oi_i (by omega)]; omega
  · rw [e, oi_i (by omega)]; omega
theorem hc_M_lay {X : pm_X} {d : Nat} {I : st_I} {J : st_J} {p1 p2 : Int32} (r : pm_R) : pm_in p1 4 = true ∧ r = (.inl none, st_h (st_w I 170 p1.toNatClampNeg p2) (st_lz J p1.toNatClampNeg 64), 0, 0) → Ex X (d + 1) 173 [.ref 166, .int p1, .int p2] (st_h I J) r := by
  rintro ⟨h0, h⟩
  refine (e_M_lay r).mpr ⟨h0, ?_⟩
  have hs := pm_in_c h0
  rw [Int32.lt_iff_toInt_lt] at hs
  have hp : p1 = Int32.ofNat p1.toNatClampNeg := oi_of (by have := hs.1; have e : (0 : Int32).toInt = 0 := rfl; omega)
  generalize p1.toNatClampNeg = s at *
  subst hp
  have L := lp (G := fun i => Gx X d (kc_M_lay, []) (9, [some (.ref 166), some (.int (Int32.ofNat s)), some (.int p2), some (.int (Int32.ofNat i))], [], st_h (st_w I 170 s p2) (st_lz J s i), 0, 0) r) 64 (fun i hi => by
    refine (b_M_lay_9 r).trans ?_
    rw [if_pos (show Int32.ofNat i < (64 : Int32) from (oi_lt (n := 64) (by omega) (by omega)).mpr hi), oi_a, oi_64 (by omega) (by omega), oi_n (by omega), st_lz_s]
    exact and_t (oi_in (by omega) (by omega)))
  have L := L.mpr ((b_M_lay_9 r).mpr (by rw [if_neg (by decide)]; exact h))
  rw [st_lz_0] at L
  exact L
/-- the first segment with n words left -/
def fwr (z : Int32) (U : Nat → Int32) (S n : Int32) : Nat → Nat → Int32
  | 0, _ => -1
  | m + 1, i => if Int32.ofNat i < S then (if z - U i < n then fwr z U S n m (i + 1) else Int32.ofNat i) else -1
def le4 (x : Int32) : Prop := x.toInt ≤ 4
theorem hc_Me_firstWithRoom {X : pm_X} {d : Nat} {I : st_I} {J : st_J} {p1 : Int32} (r : pm_R) : le4 (I 1 2) ∧ r = (.inl (some (.int (fwr (I 1 3) (I 7) (I 1 2) p1 4 0))), st_h I J, 0, 0) → Ex X (d + 2) 104 [.ref 1, .int p1] (st_h I J) r := by
  rintro ⟨h4, h⟩
  refine (e_Me_firstWithRoom r).mpr ?_
  have L : ∀ m i, i + m = 4 → r = (.inl (some (.int (fwr (I 1 3) (I 7) (I 1 2) p1 m i))), st_h I J, 0, 0) → Gx X (d + 1) (kc_Me_firstWithRoom, []) (2, [some (.ref 1), some (.int p1), some (.int (Int32.ofNat i))], [], st_h I J, 0, 0) r := by
    intro m
    induction m with
    | zero =>
      intro i hi h
      refine (b_Me_firstWithRoom_2 r).mpr ?_
      rw [if_neg (by rw [Int32.lt_iff_toInt_lt, oi_i (by omega)]; unfold le4 at h4; omega)]
      exact h
    | succ m ih =>
      intro i hi h
      refine (b_Me_firstWithRoom_2 r).mpr ?_
      unfold fwr at h
      by_cases h1 : Int32.ofNat i < I 1 2
      · rw [if_pos h1] at h ⊢
        refine ⟨oi_in (by omega) (by omega), ?_⟩
        rw [oi_n (by omega), oi_a]
        by_cases h2 : I 1 3 - I 7 i < p1
        · rw [if_pos h2] at h ⊢
          exact ih (i + 1) (by omega) h
        · rw [if_neg h2] at h ⊢
          exact h
      · rw [if_neg h1] at h ⊢
        exact h
  exact L 4 0 rfl h
theorem hc_M_withLeft {X : pm_X} {d : Nat} {I : st_I} {J : st_J} {p1 : Int32} (r : pm_R) : le4 (I 166 6) ∧ r = (.inl (some (.int (fwr (I 166 9) (I 170) (I 166 6) p1 4 0))), st_h I J, 0, 0) → Ex X (d + 1) 212 [.ref 166, .int p1] (st_h I J) r := by
  rintro ⟨h4, h⟩
  refine (e_M_withLeft r).mpr ?_
  have L : ∀ m i, i + m = 4 → r = (.inl (some (.int (fwr (I 166 9) (I 170) (I 166 6) p1 m i))), st_h I J, 0, 0) → Gx X d (kc_M_withLeft, []) (2, [some (.ref 166), some (.int p1), some (.int (Int32.ofNat i))], [], st_h I J, 0, 0) r := by
    intro m
    induction m with
    | zero =>
      intro i hi h
      refine (b_M_withLeft_2 r).mpr ?_
      rw [if_neg (by rw [Int32.lt_iff_toInt_lt, oi_i (by omega)]; unfold le4 at h4; omega)]
      exact h
    | succ m ih =>
      intro i hi h
      refine (b_M_withLeft_2 r).mpr ?_
      unfold fwr at h
      by_cases h1 : Int32.ofNat i < I 166 6
      · rw [if_pos h1] at h ⊢
        refine ⟨oi_in (by omega) (by omega), ?_⟩
        rw [oi_n (by omega), oi_a]
        by_cases h2 : I 166 9 - I 170 i < p1
        · rw [if_pos h2] at h ⊢
          exact ih (i + 1) (by omega) h
        · rw [if_neg h2] at h ⊢
          exact h
      · rw [if_neg h1] at h ⊢
        exact h
  exact L 4 0 rfl h
/-- how many of n words from b on are needed: the last ones that are 0 fall away -/
def nd (g : Nat → Int64) (b : Nat) : Nat → Nat
  | 0 => 0
  | n + 1 => if g (b + n) = 0 then nd g b n else n + 1
theorem nd_le (g : Nat → Int64) (b : Nat) : ∀ n, nd g b n ≤ n
  | 0 => Nat.le_refl 0
  | n + 1 => by
    unfold nd
    by_cases h : g (b + n) = 0
    · rw [if_pos h]; exact Nat.le_succ_of_le (nd_le g b n)
    · rw [if_neg h]
      exact Nat.le_refl _
def ndk (b n : Int32) : Prop := 0 ≤ b.toInt ∧ 0 ≤ n.toInt ∧ b.toInt + n.toInt ≤ 64
theorem oi_m1 (n : Nat) : Int32.ofNat (n + 1) + (-1) = Int32.ofNat n := by
  rw [← oi_a]
  apply Int32.toBitVec_inj.mp
  show (Int32.ofNat n).toBitVec + 1#32 + (-1#32) = (Int32.ofNat n).toBitVec
  rw [BitVec.add_assoc]
  show (Int32.ofNat n).toBitVec + 0#32 = _
  exact BitVec.add_zero _
theorem oi_p (a b : Nat) : Int32.ofNat a + Int32.ofNat b = Int32.ofNat (a + b) := by
  apply Int32.toBitVec_inj.mp
  show BitVec.ofNat 32 a + BitVec.ofNat 32 b = BitVec.ofNat 32 (a + b)
  rw [BitVec.ofNat_add]
theorem oi_s1 (n : Nat) : Int32.ofNat (n + 1) - 1 = Int32.ofNat n := by
  rw [← oi_a]
  apply Int32.toBitVec_inj.mp
  show (Int32.ofNat n).toBitVec + 1#32 - 1#32 = (Int32.ofNat n).toBitVec
  exact BitVec.add_sub_cancel _ _
theorem hc_Le_needed {X : pm_X} {d : Nat} {I : st_I} {J : st_J} {p0 : Nat} (g0 : st_aJ p0 = some 64) {p1 p2 : Int32} (r : pm_R) : ndk p1 p2 ∧ r = (.inl (some (.int (Int32.ofNat (nd (J p0) p1.toNatClampNeg p2.toNatClampNeg)))), st_h I J, 0, 0) → Ex X (d + 1) 159 [.ref p0, .int p1, .int p2] (st_h I J) r := by
  rintro ⟨⟨k1, k2, k3⟩, h⟩
  refine (e_Le_needed g0 r).mpr ?_
  have hb : p1 = Int32.ofNat p1.toNatClampNeg := oi_of k1
  have hn : p2 = Int32.ofNat p2.toNatClampNeg := oi_of k2
  have z1 : p1.toNatClampNeg = p1.toInt.toNat := rfl
  have z2 : p2.toNatClampNeg = p2.toInt.toNat := rfl
  have hle : p1.toNatClampNeg + p2.toNatClampNeg ≤ 64 := by omega
  have L : ∀ n, p1.toNatClampNeg + n ≤ 64 → r = (.inl (some (.int (Int32.ofNat (nd (J p0) p1.toNatClampNeg n)))), st_h I J, 0, 0) → Gx X d (kc_Le_needed, []) (2, [some (.ref p0), some (.int p1), some (.int p2), some (.int (Int32.ofNat n))], [], st_h I J, 0, 0) r := by
    intro n
    induction n with
    | zero =>
      intro hi h
      refine (b_Le_needed_2 g0 r).mpr ?_
      rw [if_neg (by decide)]
      exact h
    | succ n ih =>
      intro hi h
      refine (b_Le_needed_2 g0 r).mpr ?_
      have e : p1 + Int32.ofNat (n + 1) - 1 = Int32.ofNat (p1.toNatClampNeg + n) := by
        rw [hb, oi_p, ← hb, ← Nat.add_assoc, oi_s1]
      rw [if_pos (show (0 : Int32) < Int32.ofNat (n + 1) from (oi_lt (i := 0) (by omega) (by omega)).mpr (by omega)), e, oi_m1, oi_n (by omega)]
      refine ⟨oi_in (by omega) (by omega), ?_⟩
      unfold nd at h
      by_cases h1 : J p0 (p1.toNatClampNeg + n) = 0
      · rw [if_pos h1] at h ⊢
        exact ih (by omega) h
      · rw [if_neg h1] at h ⊢
        exact h
  have L := L p2.toNatClampNeg hle h
  rw [← hn] at L
  exact L
theorem hc_M_needs {X : pm_X} {d : Nat} {I : st_I} {J : st_J} {p1 p2 p3 : Int32} (r : pm_R) : pm_in p1 4 = true ∧ (ndk p2 p3 ∧ r = (.inl (some (.int (Int32.ofNat (nd (fun k => J 167 (64 * p1.toNatClampNeg + k)) p2.toNatClampNeg p3.toNatClampNeg)))), st_h I J, 0, 0)) → Ex X (d + 1) 234 [.ref 166, .int p1, .int p2, .int p3] (st_h I J) r := by
  rintro ⟨h0, ⟨k1, k2, k3⟩, h⟩
  refine (e_M_needs r).mpr ?_
  have hs := pm_in_c h0
  rw [Int32.lt_iff_toInt_lt] at hs
  have hp : p1 = Int32.ofNat p1.toNatClampNeg := oi_of (by have := hs.1; have e : (0 : Int32).toInt = 0 := rfl; omega)
  have hs := hs.2
  have hb : p2 = Int32.ofNat p2.toNatClampNeg := oi_of k1
  have hn : p3 = Int32.ofNat p3.toNatClampNeg := oi_of k2
  have z1 : p2.toNatClampNeg = p2.toInt.toNat := rfl
  have z2 : p3.toNatClampNeg = p3.toInt.toNat := rfl
  have hle : p2.toNatClampNeg + p3.toNatClampNeg ≤ 64 := by omega
  have L : ∀ n, p2.toNatClampNeg + n ≤ 64 → r = (.inl (some (.int (Int32.ofNat (nd (fun k => J 167 (64 * p1.toNatClampNeg + k)) p2.toNatClampNeg n)))), st_h I J, 0, 0) → Gx X d (kc_M_needs, []) (3, [some (.ref 166), some (.int p1), some (.int p2), some (.int p3), some (.int (Int32.ofNat n))], [], st_h I J, 0, 0) r := by
    intro n
    induction n with
    | zero =>
      intro hi h
      refine (b_M_needs_3 r).mpr ?_
      rw [if_neg (by decide)]
      exact h
    | succ n ih =>
      intro hi h
      refine (b_M_needs_3 r).mpr ?_
      have e : 64 * p1 + p2 + Int32.ofNat (n + 1) - 1 = Int32.ofNat (64 * p1.toNatClampNeg + (p2.toNatClampNeg + n)) := by
        rw [hp, hb, oi_64 (by omega) (by omega), oi_p, ← hp, ← hb, ← Nat.add_assoc, oi_s1, Nat.add_assoc]
      rw [if_pos (show (0 : Int32) < Int32.ofNat (n + 1) from (oi_lt (i := 0) (by omega) (by omega)).mpr (by omega)), e, oi_m1, oi_n (by omega)]
      refine ⟨oi_in (by omega) (by omega), ?_⟩
      unfold nd at h
      by_cases h1 : J 167 (64 * p1.toNatClampNeg + (p2.toNatClampNeg + n)) = 0
      · rw [if_pos h1] at h ⊢
        exact ih (by omega) h
      · rw [if_neg h1] at h ⊢
        exact h
  have L := L p3.toNatClampNeg hle h
  rw [← hn] at L
  exact L
