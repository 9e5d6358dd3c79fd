/-! .. lists of pointers, of numbers -/
theorem lwd_e {ct cd : Nat} (h5 : ct ≤ 100000) (h4 : cd < 8) : lwd (Int32.ofNat cd) (Int32.ofNat ct) = Int32.ofNat ((ct * ebn cd + 63) / 64) := by
  have hb := ebn_le cd
  have hm : ct * ebn cd ≤ 100000 * 64 := Nat.mul_le_mul h5 hb
  have e1 : (Int32.toInt64 (Int32.ofNat ct)).toInt = (ct : Int) := (tl _).trans (oi_i (by omega))
  have e2 : (Int32.toInt64 (eb (Int32.toNatClampNeg (Int32.ofNat cd)))).toInt = (ebn cd : Int) := by rw [oi_n (by omega)]; exact (tl _).trans (eb_n h4)
  have e3 : ((Int32.toInt64 (Int32.ofNat ct)) * (Int32.toInt64 (eb (Int32.toNatClampNeg (Int32.ofNat cd))))).toInt = ((ct * ebn cd : Nat) : Int) := by
    rw [Int.natCast_mul]
    exact jm2 e1 e2 (by rw [← Int.natCast_mul]; omega) (by rw [← Int.natCast_mul]; omega)
  have e4 := ja2 e3 (show (63 : Int64).toInt = 63 from rfl) (by omega) (by omega)
  unfold lwd
  refine eq_of (ti2 ((jd (by rw [e4]; omega) (by decide)).trans (by rw [e4, show (64 : Int64).toInt = 64 from rfl])) (by omega) (by omega) |>.trans ?_)
  omega
theorem oi_r64 {m : Nat} (h : m < 2 ^ 30) : irm (Int32.ofNat m) (64 : Int32) = Int32.ofNat (m % 64) := by
  refine eq_of ?_
  rw [irm_ (by rw [oi_i (by omega)]; omega) (by decide), oi_i (by omega), show (64 : Int32).toInt = 64 from rfl]
  omega
section LAZ
variable {X : pm_X} {d : Nat} {I : st_I} {J : st_J} {l sg t n : Nat} {R : Nat → Int64}
theorem ly_pointers (gl : st_isL l = true) {dp pl db pt ct : Nat} (h2 : I (l + 1) 3 = Int32.ofNat pl ∧ I (l + 1) 5 = Int32.ofNat db ∧ I (l + 1) 6 = Int32.ofNat pt ∧ I (l + 1) 7 = Int32.ofNat ct) (hb : db = 0 ∧ pt = 1 ∧ pl + ct ≤ 64) (hn : n ≤ 64) (en : I 12 1 = Int32.ofNat n) (ht : t < 64) : LYQ l I J R (2, dp, sg, pl, db, pt, ct, 6) t n (Ex X (d + 3) 164 [.ref 12, .ref l, .int (Int32.ofNat t)] (st_h I J)) := by
  have hl := isL_b gl
  obtain ⟨K1, hK1⟩ : ∃ K1, K1 = spn I l (Int32.ofNat ct) (Int32.ofNat pl) := ⟨_, rfl⟩
  obtain ⟨s1, s2, s3, s4, s6, s7⟩ := spn_l I l (Int32.ofNat ct) (Int32.ofNat pl)
  rw [← hK1] at s1 s2 s3 s4 s6 s7
  obtain ⟨K2, hK2⟩ : ∃ K2, K2 = st_w K1 l 7 1 := ⟨_, rfl⟩
  have K2l : ∀ f, f ≠ 7 → K2 l f = K1 l f := fun f hf => by rw [hK2, st_w_e, if_neg (fun z => hf z.2)]
  have K2o : ∀ a f, a ≠ l → K2 a f = I a f := fun a f ha => by rw [hK2, st_w_e, if_neg (fun z => ha z.1), hK1, spn_o _ _ _ _ ha]
  have k12 : K2 12 1 = Int32.ofNat n := by rw [K2o 12 1 (by omega), en]
  have k1 : K2 l 1 = Int32.ofNat ct := by rw [K2l 1 (by omega), s1]
  obtain ⟨K3, hK3⟩ : ∃ K3, K3 = clm K2 (Int32.ofNat ct) := ⟨_, rfl⟩
  have esz : lyn R (2, dp, sg, pl, db, pt, ct, 6) n = ct := rfl
  have ely : lyp R (2, dp, sg, pl, db, pt, ct, 6) n = (ct, pl, 0, 1, n, 0, 1) := rfl
  unfold LYQ
  rw [esz, ely]
  refine ⟨fun c => ⟨K2, K2o, iv_Ca_layPointers (K1 := K1) (K3 := K3) gl _ ⟨by rw [h2.2.2.2, h2.1]; exact hK1, by rw [← hK2, k1]; exact hK3, ?_⟩⟩, fun c => ?_⟩
  · rw [← hK2, k12, k1]
    exact ifp ((lp_64 (by omega) (by omega)).mpr c) rfl
  · obtain ⟨K, hK⟩ : ∃ K, K = st_w K3 l 5 (Int32.ofNat n) := ⟨_, rfl⟩
    have K3o : ∀ a f, ¬ (a = 12 ∧ f = 1) → K3 a f = K2 a f := fun a f ha => by rw [hK3]; unfold clm; rw [st_w_e, if_neg ha]
    have Ko : ∀ a f, ¬ (a = 12 ∧ f = 1) → ¬ (a = l ∧ f = 5) → K a f = K2 a f := fun a f h1 h3 => by rw [hK, st_w_e, if_neg h3, K3o a f h1]
    have q1 : K l 1 = Int32.ofNat ct := by rw [Ko l 1 (by omega) (by omega), k1]
    have q5 : K l 5 = Int32.ofNat n := by rw [hK, st_w_at]
    refine ⟨K, fun a f h1 h3 => by rw [Ko a f h3 (by omega), K2o a f h1], ?_, q1, fun _ => ⟨?_, ?_, ?_, q5, ?_, ?_⟩, iv_Ca_layPointers (K1 := K1) (K3 := K3) gl _ ⟨by rw [h2.2.2.2, h2.1]; exact hK1, by rw [← hK2, k1]; exact hK3, ?_⟩⟩
    · rw [hK, st_w_e, if_neg (by omega), hK3]
      unfold clm
      rw [st_w_at, k12, oi_p]
    · rw [Ko l 2 (by omega) (by omega), K2l 2 (by omega), s2]
    · rw [Ko l 3 (by omega) (by omega), K2l 3 (by omega), s3, h2.2.1, hb.1]; rfl
    · rw [Ko l 4 (by omega) (by omega), K2l 4 (by omega), s4, h2.2.2.1, hb.2.1]
    · rw [Ko l 6 (by omega) (by omega), K2l 6 (by omega), s6]; rfl
    · rw [Ko l 7 (by omega) (by omega), hK2, st_w_at]; rfl
    · rw [← hK2, k12, k1]
      refine ifn (fun q => c ((lp_64 (by omega) (by omega)).mp q)) ⟨oi_in ht (by omega), ?_⟩
      rw [← hK, q1, q5, show (6 : Int32) = Int32.ofNat 6 from rfl, lp_e, oi_n (by omega), y_fset]
      rfl
theorem ly_numbers (hX : X 1 = (8, eb)) (gl : st_isL l = true) (hsg : sg < 4) {dp pl db pt ct cd : Nat} (h2 : I (l + 1) 3 = Int32.ofNat pl ∧ I (l + 1) 7 = Int32.ofNat ct ∧ I (l + 1) 8 = Int32.ofNat cd) (hR : R = J (3 + sg)) (hb : cd ≤ 5 ∧ ct ≤ 100000 ∧ pl + (ct * ebn cd + 63) / 64 ≤ 64) (hn : n ≤ 64) (en : I 12 1 = Int32.ofNat n) (ht : t < 64) : LYQ l I J R (2, dp, sg, pl, db, pt, ct, cd) t n (Ex X (d + 3) 165 [.ref 12, .ref (3 + sg), .ref l, .int (Int32.ofNat t)] (st_h I J)) := by
  have gw_ : st_aJ (3 + sg) = some 64 := by
    obtain rfl | rfl | rfl | rfl : sg = 0 ∨ sg = 1 ∨ sg = 2 ∨ sg = 3 := by omega
    all_goals rfl
  have hl := isL_b gl
  have hbn := ebn_le cd
  have hmm : ct * ebn cd ≤ 100000 * 64 := Nat.mul_le_mul hb.2.1 hbn
  obtain ⟨Q, hQ⟩ : ∃ Q, Q = (ct * ebn cd + 63) / 64 := ⟨_, rfl⟩
  obtain ⟨m, hm⟩ : ∃ m, m = ct * ebn cd := ⟨_, rfl⟩
  obtain ⟨K1, hK1⟩ : ∃ K1, K1 = spn I l 0 (Int32.ofNat pl) := ⟨_, rfl⟩
  obtain ⟨s1, s2, s3, s4, s6, s7⟩ := spn_l I l 0 (Int32.ofNat pl)
  rw [← hK1] at s1 s2 s3 s4 s6 s7
  have K1o : ∀ a f, a ≠ l → K1 a f = I a f := fun a f ha => by rw [hK1, spn_o _ _ _ _ ha]
  have k12 : K1 12 1 = Int32.ofNat n := by rw [K1o 12 1 (by omega), en]
  have k7 : K1 (l + 1) 7 = Int32.ofNat ct := by rw [K1o _ _ (by omega), h2.2.1]
  have k8 : K1 (l + 1) 8 = Int32.ofNat cd := by rw [K1o _ _ (by omega), h2.2.2]
  have elw : lwd (K1 (l + 1) 8) (K1 (l + 1) 7) = Int32.ofNat Q := by rw [k7, k8, lwd_e hb.2.1 (by omega), hQ]
  obtain ⟨K3, hK3⟩ : ∃ K3, K3 = clm K1 (Int32.ofNat Q) := ⟨_, rfl⟩
  have K3o : ∀ a f, ¬ (a = 12 ∧ f = 1) → K3 a f = K1 a f := fun a f ha => by rw [hK3]; unfold clm; rw [st_w_e, if_neg ha]
  have c7 : ¬ (cd = 7) := by omega
  have c6 : ¬ (cd = 6) := by omega
  have esz : lyn R (2, dp, sg, pl, db, pt, ct, cd) n = Q := by
    unfold lyn
    dsimp only
    rw [if_neg (show ¬ (2 : Nat) = 1 by omega), if_neg c7, if_neg c6, hQ]
  have ely : lyp R (2, dp, sg, pl, db, pt, ct, cd) n = (0, pl, 0, 0, n, 0, 0) := by
    unfold lyp
    dsimp only
    rw [if_neg (show ¬ (2 : Nat) = 1 by omega), if_neg c7, if_neg c6]
  have elF : lyF R (J 13) (2, dp, sg, pl, db, pt, ct, cd) t n = if m % 64 = 0 then va_cpy R (fset (J 13) t (lptr cd ct (Int32.ofNat n - Int32.ofNat t - 1))) pl n Q else fset (va_cpy R (fset (J 13) t (lptr cd ct (Int32.ofNat n - Int32.ofNat t - 1))) pl n Q) (n + Q - 1) ((va_cpy R (fset (J 13) t (lptr cd ct (Int32.ofNat n - Int32.ofNat t - 1))) pl n Q) (n + Q - 1) &&& on_ (Int32.ofNat (m % 64))) := by
    unfold lyF
    dsimp only
    rw [if_neg (show ¬ (2 : Nat) = 1 by omega), if_neg c7, if_neg c6, hQ, hm]
  unfold LYQ
  rw [esz, ely]
  refine ⟨fun c => ⟨K1, K1o, iv_Ca_layNumbers (K1 := K1) (K3 := K3) hX gw_ gl _ ⟨by rw [h2.1]; exact hK1, by rw [k8]; exact oi_in (by omega) (by omega), by rw [elw]; exact hK3, ?_⟩⟩, fun c => ?_⟩
  · rw [k12, elw]
    exact ifp ((lp_64 (by omega) (by omega)).mpr c) rfl
  · have e37 : K3 (l + 1) 7 = Int32.ofNat ct := by rw [K3o _ _ (by omega), k7]
    have e38 : K3 (l + 1) 8 = Int32.ofNat cd := by rw [K3o _ _ (by omega), k8]
    have e33 : K3 (l + 1) 3 = Int32.ofNat pl := by rw [K3o _ _ (by omega), K1o _ _ (by omega), h2.1]
    refine ⟨K3, fun a f h1 h3 => by rw [K3o a f h3, K1o a f h1], ?_, by rw [K3o _ _ (by omega), s1]; rfl, fun z => absurd rfl z, iv_Ca_layNumbers (K1 := K1) (K3 := K3) hX gw_ gl _ ⟨by rw [h2.1]; exact hK1, by rw [k8]; exact oi_in (by omega) (by omega), by rw [elw]; exact hK3, ?_⟩⟩
    · rw [hK3]
      unfold clm
      rw [st_w_at, k12, oi_p]
    · have er : irm ((Int32.ofNat ct) * (eb cd)) (64 : Int32) = Int32.ofNat (m % 64) := by
        rw [eq_of (eb_n (n := cd) (by omega)), oi_mu, ← hm, oi_r64 (by omega)]
      rw [k12, elw, e37, e38, e33, oi_n (i := cd) (by omega), er, lp_e, oi_n (i := t) (by omega), oi_n (i := pl) (by omega), oi_n (i := n) (by omega), oi_n (i := Q) (by omega)]
      refine ifn (fun q => c ((lp_64 (by omega) (by omega)).mp q)) ⟨oi_in ht (by omega), ?_, oi_in (by omega) (by omega), ?_⟩
      · unfold st_cpk
        rw [oi_n (by omega), oi_n (by omega), oi_n (by omega), decide_eq_false (oi_ng (by omega)), decide_eq_false (oi_ng (by omega)), decide_eq_false (oi_ng (by omega)), Nat.ble_eq_true_of_le (show pl + Q ≤ 64 by omega), Nat.ble_eq_true_of_le (show n + Q ≤ 64 by omega)]
        rfl
      · rw [y_fset J, st_yr_s, st_yr_o _ _ (show 3 + sg ≠ 13 by omega), ← hR, yr_yr, elF]
        by_cases z : m % 64 = 0
        · refine ifp (by rw [z]; rfl) ?_
          rw [if_pos z]
        · have z' : ¬ (Int32.ofNat (m % 64) = (0 : Int32)) := fun q => z ((oi_eq (b := 0) (by omega) (by omega)).mp q)
          have hQ1 : 1 ≤ Q := by omega
          have eq1 : Int32.ofNat n + Int32.ofNat Q - (1 : Int32) = Int32.ofNat (n + Q - 1) := by
            obtain ⟨q, hq⟩ : ∃ q, n + Q = q + 1 := ⟨n + Q - 1, by omega⟩
            rw [oi_p, hq, oi_s1, Nat.add_sub_cancel]
          rw [eq1, oi_n (by omega)]
          refine ifn z' ⟨oi_in (by omega) (by omega), ?_⟩
          rw [if_neg z, y_fset, st_yr_s, yr_yr]
end LAZ
