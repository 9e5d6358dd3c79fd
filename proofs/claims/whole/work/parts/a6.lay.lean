/-! a thing itself is laid down, by the class -/
def LYQ (l : Nat) (I : st_I) (J : st_J) (R : Nat → Int64) (v : V8) (t n : Nat) (G : pm_R → Prop) : Prop :=
  (64 < n + lyn R v n → ∃ K, (∀ a f, a ≠ l → K a f = I a f) ∧ G (.inr 3, st_h K J, 1, 6)) ∧
  (¬ 64 < n + lyn R v n → ∃ K, (∀ a f, a ≠ l → ¬ (a = 12 ∧ f = 1) → K a f = I a f) ∧ K 12 1 = Int32.ofNat (n + lyn R v n) ∧ K l 1 = Int32.ofNat (lyp R v n).1 ∧ ((lyp R v n).1 ≠ 0 → K l 2 = Int32.ofNat (lyp R v n).2.1 ∧ K l 3 = Int32.ofNat (lyp R v n).2.2.1 ∧ K l 4 = Int32.ofNat (lyp R v n).2.2.2.1 ∧ K l 5 = Int32.ofNat (lyp R v n).2.2.2.2.1 ∧ K l 6 = Int32.ofNat (lyp R v n).2.2.2.2.2.1 ∧ K l 7 = Int32.ofNat (lyp R v n).2.2.2.2.2.2) ∧ G (.inl none, st_h K (st_yr J 13 (lyF R (J 13) v t n)), 0, 0))
theorem y_fset (J : st_J) (a k : Nat) (x : Int64) : st_y J a k x = st_yr J a (fset (J a) k x) := by
  funext i j
  rw [st_y_e]
  by_cases c : i = a
  · subst c
    rw [st_yr_s]
    unfold fset
    by_cases q : j = k
    · rw [if_pos ⟨rfl, q⟩, if_pos q]
    · rw [if_neg (fun z => q z.2), if_neg q]
  · rw [if_neg (fun z => c z.1), st_yr_o _ _ c]
theorem yr_yr (J : st_J) (a : Nat) (g h : Nat → Int64) : st_yr (st_yr J a g) a h = st_yr J a h := by
  funext i
  by_cases c : i = a
  · rw [c, st_yr_s, st_yr_s]
  · rw [st_yr_o _ _ c, st_yr_o _ _ c, st_yr_o _ _ c]
theorem spn_o (I : st_I) (l : Nat) (e f : Int32) {a : Nat} (h : a ≠ l) (x : Nat) : spn I l e f a x = I a x := by
  unfold spn
  rw [st_w_e, if_neg (fun z => h z.1), st_w_e, if_neg (fun z => h z.1), st_w_e, if_neg (fun z => h z.1), st_w_e, if_neg (fun z => h z.1), st_w_e, if_neg (fun z => h z.1), st_w_e, if_neg (fun z => h z.1)]
theorem spn_l (I : st_I) (l : Nat) (e f : Int32) : spn I l e f l 1 = e ∧ spn I l e f l 2 = f ∧ spn I l e f l 3 = I (l + 1) 5 / 64 ∧ spn I l e f l 4 = I (l + 1) 6 ∧ spn I l e f l 6 = 0 ∧ spn I l e f l 7 = 0 := by
  unfold spn
  refine ⟨?_, ?_, ?_, ?_, ?_, ?_⟩
  all_goals simp [st_w_e]
theorem mx_1 (f : Nat → Nat) : mx f 1 = f 0 := by
  unfold mx mx
  split
  · rfl
  · omega
theorem isL_b {l : Nat} (h : st_isL l = true) : 15 ≤ l ∧ l ≤ 144 := by
  unfold st_isL at h
  simp only [Bool.and_eq_true, Nat.ble_eq] at h
  omega
theorem lp_64 {a b : Nat} (ha : a ≤ 1000) (hb : b ≤ 1000) : ((64 : Int32) < Int32.ofNat a + Int32.ofNat b) ↔ 64 < a + b := by
  rw [oi_p, show (64 : Int32) = Int32.ofNat 64 from rfl, oi_lt (by omega) (by omega)]
theorem sp_e (d p : Nat) (o : Int32) : ((((0 : Int64) ||| (jl (Int32.toInt64 (Int32.ofNat d)) (32 : Int32))) ||| (jl (Int32.toInt64 (Int32.ofNat p)) (48 : Int32))) &&& (-4294967293 : Int64)) ||| ((jl (Int32.toInt64 o) (2 : Int32)) &&& (4294967292 : Int64)) = sptr d p o := by
  rw [sw_s]
  exact bw_near (by rw [sw_lo]; omega) o
theorem lp_e (c n : Nat) (o : Int32) : ((((1 : Int64) ||| (jl (Int32.toInt64 (Int32.ofNat c)) (32 : Int32))) ||| (jl (Int32.toInt64 (Int32.ofNat n)) (35 : Int32))) &&& (-4294967293 : Int64)) ||| ((jl (Int32.toInt64 o) (2 : Int32)) &&& (4294967292 : Int64)) = lptr c n o := bw_near (by rw [lw_lo]; omega) o
section LAY
variable {X : pm_X} {d : Nat} {I : st_I} {J : st_J} {l sg t n : Nat} {R : Nat → Int64}
theorem ly_struct (gl : st_isL l = true) (hsg : sg < 4) {dp pl db pt ct cd : Nat} (h2 : I (l + 1) 3 = Int32.ofNat pl ∧ I (l + 1) 5 = Int32.ofNat db ∧ I (l + 1) 6 = Int32.ofNat pt) (hR : R = J (3 + sg)) (hb : pl + db / 64 + pt ≤ 64) (hn : n ≤ 64) (en : I 12 1 = Int32.ofNat n) (ht : t < 64) : LYQ l I J R (1, dp, sg, pl, db, pt, ct, cd) t n (Ex X (d + 3) 155 [.ref 12, .ref (3 + sg), .ref l, .int (Int32.ofNat t)] (st_h I J)) := by
  have gw_ : st_aJ (3 + sg) = some 64 := by
    obtain rfl | rfl | rfl | rfl : sg = 0 ∨ sg = 1 ∨ sg = 2 ∨ sg = 3 := by omega
    all_goals rfl
  have hl := isL_b gl
  obtain ⟨D, hD⟩ : ∃ D, D = nd R pl (db / 64) := ⟨_, rfl⟩
  obtain ⟨P, hP⟩ : ∃ P, P = nd R (pl + db / 64) pt := ⟨_, rfl⟩
  have D1 : D ≤ db / 64 := by rw [hD]; exact nd_le _ _ _
  have P1 : P ≤ pt := by rw [hP]; exact nd_le _ _ _
  have eD : mx (fun e => nd (J (3 + sg)) (pl + e * (db / 64 + pt)) (db / 64)) 1 = D := by rw [mx_1, hD, hR, Nat.zero_mul, Nat.add_zero]
  have eP : mx (fun e => nd (J (3 + sg)) (pl + e * (db / 64 + pt) + db / 64) pt) 1 = P := by rw [mx_1, hP, hR, Nat.zero_mul, Nat.add_zero]
  obtain ⟨K1, hK1⟩ : ∃ K1, K1 = spn I l 1 (I (l + 1) 3) := ⟨_, rfl⟩
  obtain ⟨s1, s2, s3, s4, s6, s7⟩ := spn_l I l 1 (I (l + 1) 3)
  rw [← hK1] at s1 s2 s3 s4 s6 s7
  obtain ⟨K2, hK2⟩ : ∃ K2, K2 = msr K1 l (Int32.ofNat D) (Int32.ofNat P) := ⟨_, rfl⟩
  have f3 : K1 l 3 = Int32.ofNat (db / 64) := by rw [s3, h2.2.1, oi_d (by omega)]
  have hms : msx K1 J l (3 + sg) K2 := ⟨1, pl, db / 64, pt, ⟨s1, by rw [s2, h2.1], f3, by rw [s4, h2.2.2]⟩, ⟨s6, s7⟩, ⟨by omega, fun e he => by rw [show e = 0 by omega, Nat.zero_mul]; omega⟩, by rw [eD, eP]; exact hK2⟩
  have k12 : K2 12 1 = Int32.ofNat n := by rw [hK2, msr_o _ _ _ _ (by omega), hK1, spn_o _ _ _ _ (by omega), en]
  have k6 : K2 l 6 = Int32.ofNat D := by rw [hK2, msr_6]
  have k7 : K2 l 7 = Int32.ofNat P := by rw [hK2, msr_7]
  obtain ⟨K3, hK3⟩ : ∃ K3, K3 = clm K2 (Int32.ofNat D + Int32.ofNat P) := ⟨_, rfl⟩
  have esz : lyn R (1, dp, sg, pl, db, pt, ct, cd) n = D + P := by rw [hD, hP]; rfl
  have K2o : ∀ a f, a ≠ l → K2 a f = I a f := fun a f ha => by rw [hK2, msr_o _ _ _ _ (by omega), hK1, spn_o _ _ _ _ ha]
  unfold LYQ
  rw [esz]
  refine ⟨fun c => ⟨K2, K2o, iv_Ca_layStruct (K1 := K1) (K2 := K2) (K3 := K3) (L1 := J) gw_ gl _ ⟨hK1, hms, by rw [k6, k7]; exact hK3, ?_⟩⟩, fun c => ?_⟩
  · rw [k12, k6, k7, oi_p D P]
    exact ifp ((lp_64 (by omega) (by omega)).mpr c) rfl
  · obtain ⟨K, hK⟩ : ∃ K, K = st_w K3 l 5 (Int32.ofNat n) := ⟨_, rfl⟩
    have K3o : ∀ a f, ¬ (a = 12 ∧ f = 1) → K3 a f = K2 a f := fun a f ha => by rw [hK3]; unfold clm; rw [st_w_e, if_neg ha]
    have Ko : ∀ a f, ¬ (a = 12 ∧ f = 1) → ¬ (a = l ∧ f = 5) → K a f = K2 a f := fun a f h1 h3 => by rw [hK, st_w_e, if_neg h3, K3o a f h1]
    have q1 : K l 1 = Int32.ofNat 1 := by rw [Ko l 1 (by omega) (by omega), hK2, msr_o _ _ _ _ (by omega), s1]; rfl
    have q2 : K l 2 = Int32.ofNat pl := by rw [Ko l 2 (by omega) (by omega), hK2, msr_o _ _ _ _ (by omega), s2, h2.1]
    have q3 : K l 3 = Int32.ofNat (db / 64) := by rw [Ko l 3 (by omega) (by omega), hK2, msr_o _ _ _ _ (by omega), f3]
    have q4 : K l 4 = Int32.ofNat pt := by rw [Ko l 4 (by omega) (by omega), hK2, msr_o _ _ _ _ (by omega), s4, h2.2.2]
    have q5 : K l 5 = Int32.ofNat n := by rw [hK, st_w_at]
    have q6 : K l 6 = Int32.ofNat D := by rw [Ko l 6 (by omega) (by omega), k6]
    have q7 : K l 7 = Int32.ofNat P := by rw [Ko l 7 (by omega) (by omega), k7]
    obtain ⟨O, hO⟩ : ∃ O : Int32, O = if D + P = 0 then -1 else Int32.ofNat n - Int32.ofNat t - 1 := ⟨_, rfl⟩
    have eO : (if Int32.ofNat (D + P) = (0 : Int32) then (-1 : Int32) else ((K l 5 - Int32.ofNat t) - (1 : Int32))) = O := by
      rw [hO, q5]
      by_cases z : D + P = 0
      · rw [if_pos z, if_pos (by rw [z]; rfl)]
      · have z' : ¬ (Int32.ofNat (D + P) = (0 : Int32)) := fun q => z ((oi_eq (b := 0) (by omega) (by omega)).mp q)
        rw [if_neg z, if_neg z']
    refine ⟨K, fun a f h1 h3 => by rw [Ko a f h3 (by omega), K2o a f h1], ?_, by rw [q1]; rfl, fun _ => ⟨q2, q3, q4, q5, by rw [q6, hD]; rfl, by rw [q7, hP]; rfl⟩, iv_Ca_layStruct (K1 := K1) (K2 := K2) (K3 := K3) (L1 := st_yr J 13 (lyF R (J 13) (1, dp, sg, pl, db, pt, ct, cd) t n)) gw_ gl _ ⟨hK1, hms, by rw [k6, k7]; exact hK3, ?_⟩⟩
    · rw [hK, st_w_e, if_neg (by omega), hK3]
      unfold clm
      rw [st_w_at, k12, oi_p, oi_p]
    · rw [k12, k6, k7, oi_p D P]
      refine ifn (fun q => c ((lp_64 (by omega) (by omega)).mp q)) ⟨oi_in ht (by omega), ?_⟩
      rw [← hK, q6, q7, eO, sp_e, oi_n (by omega)]
      refine ⟨⟨1, pl, db / 64, pt, n, D, P, ⟨q1, q2, q3, q4, q5, q6, q7⟩, by omega, fun e he => by rw [show e = 0 by omega, Nat.zero_mul, Nat.zero_mul]; omega, D1, by omega, ?_⟩, rfl⟩
      rw [y_fset, yr_yr, st_yr_s, st_yr_o _ _ (show 3 + sg ≠ 13 by omega), ← hR]
      congr 1
      show va_cpy R (fset (J 13) t (sptr (nd R pl (db / 64)) (nd R (pl + db / 64) pt) (if nd R pl (db / 64) + nd R (pl + db / 64) pt = 0 then -1 else Int32.ofNat n - Int32.ofNat t - 1))) pl n (nd R pl (db / 64)) = va_cpy R (fset (J 13) t (sptr D P O)) (pl + 0 * (db / 64 + pt)) (n + 0 * (D + P)) D
      rw [← hD, ← hP, ← hO, Nat.zero_mul, Nat.zero_mul, Nat.add_zero, Nat.add_zero]
theorem ly_structs (gl : st_isL l = true) (hsg : sg < 4) {dp pl db pt ct : Nat} (h2 : I (l + 1) 3 = Int32.ofNat pl ∧ I (l + 1) 5 = Int32.ofNat db ∧ I (l + 1) 6 = Int32.ofNat pt ∧ I (l + 1) 7 = Int32.ofNat ct ∧ I (l + 1) 8 = Int32.ofNat 7) (hR : R = J (3 + sg)) (hb : db % 64 = 0 ∧ pl + 1 + ct * (db / 64 + pt) ≤ 64 ∧ db ≤ 4194240 ∧ pt ≤ 65535 ∧ ct ≤ 100000) (hn : n ≤ 64) (en : I 12 1 = Int32.ofNat n) (ht : t < 64) : LYQ l I J R (2, dp, sg, pl, db, pt, ct, 7) t n (Ex X (d + 3) 163 [.ref 12, .ref (3 + sg), .ref l, .int (Int32.ofNat t)] (st_h I J)) := by
  have gw_ : st_aJ (3 + sg) = some 64 := by
    obtain rfl | rfl | rfl | rfl : sg = 0 ∨ sg = 1 ∨ sg = 2 ∨ sg = 3 := by omega
    all_goals rfl
  have hl := isL_b gl
  obtain ⟨E, hE⟩ : ∃ E, E = if db + pt = 0 then 0 else ct := ⟨_, rfl⟩
  obtain ⟨w1, hw1⟩ : ∃ w1, w1 = db / 64 + pt := ⟨_, rfl⟩
  obtain ⟨D, hD⟩ : ∃ D, D = mx (fun e => nd R (pl + 1 + e * w1) (db / 64)) E := ⟨_, rfl⟩
  obtain ⟨P, hP⟩ : ∃ P, P = mx (fun e => nd R (pl + 1 + e * w1 + db / 64) pt) E := ⟨_, rfl⟩
  have D1 : D ≤ db / 64 := by rw [hD]; exact mx_le (fun e => nd_le _ _ _) E
  have P1 : P ≤ pt := by rw [hP]; exact mx_le (fun e => nd_le _ _ _) E
  have Ect : E ≤ ct := by rw [hE]; split <;> omega
  have hel : ∀ e, e < E → pl + 1 + e * w1 + db / 64 + pt ≤ 64 := fun e he => by
    have h1 : (e + 1) * w1 ≤ ct * w1 := Nat.mul_le_mul_right _ (by omega)
    rw [← hw1] at hb
    rw [Nat.succ_mul] at h1
    omega
  have hwid : E * (D + P) ≤ 64 := by
    have h1 : E * (D + P) ≤ ct * w1 := Nat.mul_le_mul Ect (by omega)
    rw [← hw1] at hb
    omega
  have eEl : (if (I (l + 1) 5 + I (l + 1) 6) = (0 : Int32) then (0 : Int32) else I (l + 1) 7) = Int32.ofNat E := by
    rw [h2.2.1, h2.2.2.1, h2.2.2.2.1, oi_p, hE]
    by_cases z : db + pt = 0
    · rw [if_pos z, if_pos (by rw [z]; rfl)]; rfl
    · have z' : ¬ (Int32.ofNat (db + pt) = (0 : Int32)) := fun q => z ((oi_eq (b := 0) (by omega) (by omega)).mp q)
      rw [if_neg z, if_neg z']
  have eFr : (if I (l + 1) 8 = (7 : Int32) then (I (l + 1) 3 + (1 : Int32)) else I (l + 1) 3) = Int32.ofNat (pl + 1) := by
    rw [h2.2.2.2.2, h2.1, if_pos (show Int32.ofNat 7 = (7 : Int32) from rfl), oi_a]
  obtain ⟨K1, hK1⟩ : ∃ K1, K1 = spn I l (Int32.ofNat E) (Int32.ofNat (pl + 1)) := ⟨_, rfl⟩
  obtain ⟨s1, s2, s3, s4, s6, s7⟩ := spn_l I l (Int32.ofNat E) (Int32.ofNat (pl + 1))
  rw [← hK1] at s1 s2 s3 s4 s6 s7
  obtain ⟨K2, hK2⟩ : ∃ K2, K2 = msr K1 l (Int32.ofNat D) (Int32.ofNat P) := ⟨_, rfl⟩
  have f3 : K1 l 3 = Int32.ofNat (db / 64) := by rw [s3, h2.2.1, oi_d (by omega)]
  have hms : msx K1 J l (3 + sg) K2 := ⟨E, pl + 1, db / 64, pt, ⟨s1, s2, f3, by rw [s4, h2.2.2.1]⟩, ⟨s6, s7⟩, ⟨by omega, fun e he => by rw [← hw1]; exact hel e he⟩, by rw [← hR, ← hw1, ← hD, ← hP]; exact hK2⟩
  have k12 : K2 12 1 = Int32.ofNat n := by rw [hK2, msr_o _ _ _ _ (by omega), hK1, spn_o _ _ _ _ (by omega), en]
  have k1 : K2 l 1 = Int32.ofNat E := by rw [hK2, msr_o _ _ _ _ (by omega), s1]
  have k6 : K2 l 6 = Int32.ofNat D := by rw [hK2, msr_6]
  have k7 : K2 l 7 = Int32.ofNat P := by rw [hK2, msr_7]
  have ew : Int32.ofNat E * (Int32.ofNat D + Int32.ofNat P) = Int32.ofNat (E * (D + P)) := by rw [oi_p, oi_mu]
  obtain ⟨K3, hK3⟩ : ∃ K3, K3 = clm K2 (Int32.ofNat (E * (D + P) + 1)) := ⟨_, rfl⟩
  have ely : lyp R (2, dp, sg, pl, db, pt, ct, 7) n = (E, pl + 1, db / 64, pt, n + 1, D, P) := by
    rw [hD, hP, hE, hw1]
    rfl
  have esz : lyn R (2, dp, sg, pl, db, pt, ct, 7) n = E * (D + P) + 1 := by
    show (lyp R (2, dp, sg, pl, db, pt, ct, 7) n).1 * ((lyp R (2, dp, sg, pl, db, pt, ct, 7) n).2.2.2.2.2.1 + (lyp R (2, dp, sg, pl, db, pt, ct, 7) n).2.2.2.2.2.2) + 1 = _
    rw [ely]
  have elF : lyF R (J 13) (2, dp, sg, pl, db, pt, ct, 7) t n = fcd R (fset (fset (J 13) t (lptr 7 (E * (D + P)) (Int32.ofNat n - Int32.ofNat t - 1))) n (sptr D P (Int32.ofNat ct))) (pl + 1) (db / 64 + pt) (n + 1) (D + P) D E := by
    unfold lyF
    dsimp only
    rw [if_neg (show ¬ (2 : Nat) = 1 by omega), if_pos (show (7 : Nat) = 7 from rfl), ely]
  have K2o : ∀ a f, a ≠ l → K2 a f = I a f := fun a f ha => by rw [hK2, msr_o _ _ _ _ (by omega), hK1, spn_o _ _ _ _ ha]
  unfold LYQ
  rw [esz, ely]
  refine ⟨fun c => ⟨K2, K2o, iv_Ca_layStructs (K1 := K1) (K2 := K2) (K3 := K3) (L1 := J) gw_ gl _ ⟨by rw [eEl, eFr]; exact hK1, hms, by rw [k6, k7, k1, ew, oi_a]; exact hK3, ?_⟩⟩, fun c => ?_⟩
  · rw [k12, k6, k7, k1, ew, oi_a]
    exact ifp ((lp_64 (by omega) (by omega)).mpr c) rfl
  · obtain ⟨K, hK⟩ : ∃ K, K = st_w K3 l 5 (Int32.ofNat (n + 1)) := ⟨_, rfl⟩
    have K3o : ∀ a f, ¬ (a = 12 ∧ f = 1) → K3 a f = K2 a f := fun a f ha => by rw [hK3]; unfold clm; rw [st_w_e, if_neg ha]
    have Ko : ∀ a f, ¬ (a = 12 ∧ f = 1) → ¬ (a = l ∧ f = 5) → K a f = K2 a f := fun a f h1 h3 => by rw [hK, st_w_e, if_neg h3, K3o a f h1]
    have q1 : K l 1 = Int32.ofNat E := by rw [Ko l 1 (by omega) (by omega), k1]
    have q2 : K l 2 = Int32.ofNat (pl + 1) := by rw [Ko l 2 (by omega) (by omega), hK2, msr_o _ _ _ _ (by omega), s2]
    have q3 : K l 3 = Int32.ofNat (db / 64) := by rw [Ko l 3 (by omega) (by omega), hK2, msr_o _ _ _ _ (by omega), f3]
    have q4 : K l 4 = Int32.ofNat pt := by rw [Ko l 4 (by omega) (by omega), hK2, msr_o _ _ _ _ (by omega), s4, h2.2.2.1]
    have q5 : K l 5 = Int32.ofNat (n + 1) := by rw [hK, st_w_at]
    have q6 : K l 6 = Int32.ofNat D := by rw [Ko l 6 (by omega) (by omega), k6]
    have q7 : K l 7 = Int32.ofNat P := by rw [Ko l 7 (by omega) (by omega), k7]
    have q17 : K (l + 1) 7 = Int32.ofNat ct := by rw [Ko (l + 1) 7 (by omega) (by omega), K2o (l + 1) 7 (by omega), h2.2.2.2.1]
    refine ⟨K, fun a f h1 h3 => by rw [Ko a f h3 (by omega), K2o a f h1], ?_, q1, fun _ => ⟨q2, q3, q4, q5, q6, q7⟩, iv_Ca_layStructs (K1 := K1) (K2 := K2) (K3 := K3) (L1 := st_yr J 13 (lyF R (J 13) (2, dp, sg, pl, db, pt, ct, 7) t n)) gw_ gl _ ⟨by rw [eEl, eFr]; exact hK1, hms, by rw [k6, k7, k1, ew, oi_a]; exact hK3, ?_⟩⟩
    · rw [hK, st_w_e, if_neg (by omega), hK3]
      unfold clm
      rw [st_w_at, k12, oi_p]
    · rw [k12, k6, k7, k1, ew, oi_a]
      refine ifn (fun q => c ((lp_64 (by omega) (by omega)).mp q)) ⟨oi_in ht (by omega), oi_in (by omega) (by omega), ?_⟩
      rw [oi_a, ← hK, q6, q7, q17, sp_e, show (7 : Int32) = Int32.ofNat 7 from rfl, lp_e, oi_n (by omega), oi_n (by omega)]
      refine ⟨⟨E, pl + 1, db / 64, pt, n + 1, D, P, ⟨q1, q2, q3, q4, q5, q6, q7⟩, by omega, fun e he => ⟨by rw [← hw1]; exact hel e he, ?_⟩, D1, by omega, ?_⟩, rfl⟩
      · have h1 : (e + 1) * (D + P) ≤ E * (D + P) := Nat.mul_le_mul_right _ (by omega)
        rw [Nat.succ_mul] at h1
        omega
      · rw [y_fset (st_y J 13 t _), y_fset J, st_yr_s, yr_yr, yr_yr, st_yr_s, st_yr_o _ _ (show 3 + sg ≠ 13 by omega), st_yr_o _ _ (show 3 + sg ≠ 13 by omega), ← hR]
        rw [elF]
end LAY
