/-! a struct, by the reference -/
theorem m_1 (i : Nat) : Int32.ofNat i + (-1 : Int32) = Int32.ofNat i - 1 := by rw [Int32.sub_eq_add_neg]
theorem n_0 : (Int32.ofNat 0 - 1 : Int32) < (0 : Int32) := by decide
section WRS
variable {X : pm_X} {d : Nat} {I : st_I} {J : st_J} {B : List IT} {t n sg dp pl db pt ct cd : Nat} {R F : Nat → Int64}
theorem ws_178 {L : st_J} {D P fd : Nat} {v8 : Int64} {p1 : Int32} (h174 : I 174 16 = Int32.ofNat dp) (hP : P ≤ 64) (hB : B.length + P ≤ 80) (hl : pl + fd + P ≤ 1000 ∧ n + D + P ≤ 1000) : ∀ i, i ≤ P → ∀ I1, PF I I1 → PS I1 (B ++ rin sg dp (pl + fd) (n + D) (P - i) i) → ∃ I2, PF I I2 ∧ PS I2 (B ++ rin sg dp (pl + fd) (n + D) P 0) ∧ Gx X (d + 1) (kc_M_writesStruct, []) (178, [some (.ref 166), some (.int p1), some (.int (Int32.ofNat n)), some (.int (Int32.ofNat sg)), some (.int (Int32.ofNat pl)), some (.int (Int32.ofNat fd)), some (.int (Int32.ofNat D)), some (.int (Int32.ofNat P)), some (.long v8), none, some (.int (Int32.ofNat i - 1))], [], st_h I1 L, 0, 0) (.inl (some (.int (Int32.ofNat (n + (D + P))))), st_h I2 L, 0, 0) := by
  intro i
  induction i with
  | zero =>
    intro _ I1 h1 h2
    refine ⟨I1, h1, h2, ib_M_writesStruct_178 _ (ifp n_0 ?_)⟩
    rw [oi_p, oi_p, Nat.add_assoc]
  | succ i ih =>
    intro hi I1 h1 h2
    have hlen : (B ++ rin sg dp (pl + fd) (n + D) (P - (i + 1)) (i + 1)).length = B.length + (P - (i + 1)) := by rw [List.length_append, rin_len]
    have h174' : I1 174 16 = Int32.ofNat dp := (h1 174 16 (by omega) (by omega)).trans h174
    have q := PS_s (a := sg) (b := pl + fd + i) (c := n + D + i) (e := dp) h2 (by omega)
    have el : B ++ rin sg dp (pl + fd) (n + D) (P - (i + 1)) (i + 1) ++ [(sg, pl + fd + i, n + D + i, dp)] = B ++ rin sg dp (pl + fd) (n + D) (P - i) i := by
      rw [List.append_assoc, show P - i = (P - (i + 1)) + 1 by omega]
      rfl
    rw [el] at q
    obtain ⟨I2, g1, g2, g3⟩ := ih (by omega) _ (PF_t h1 (PF_s I1 _ _ _ _)) q
    refine ⟨I2, g1, g2, ib_M_writesStruct_178 _ ?_⟩
    rw [oi_s1, oi_p pl fd, oi_p n D, oi_p (pl + fd) i, oi_p (n + D) i, m_1, h174']
    refine ifn (oi_ng (by omega)) ⟨by rw [h2.1, hlen]; exact oi_in (by omega) (by omega), ?_⟩
    exact g3
set_option maxRecDepth 20000 in
theorem wr_struct (hc : ∀ a, 173 ≤ a → a ≤ 182 → I a 16 = mcv (1, dp, sg, pl, db, pt, ct, cd) a) (h10 : I 166 10 = 0) (hsg : sg < 4) (hb : pl + db / 64 + pt ≤ 64) (hR : ∀ k, k < 64 → J 167 (64 * sg + k) = R k) (hF : ∀ k, k < 64 → J 168 k = F k) (ht : t < 64) (hn : n ≤ 64) (hB : PS I B) (hBl : B.length ≤ n) : WQ B I J R F (1, dp, sg, pl, db, pt, ct, cd) t n (Ex X (d + 2) 233 [.ref 166, .int (Int32.ofNat t), .int (Int32.ofNat n)] (st_h I J)) := by
  have e174 : I 174 16 = Int32.ofNat dp := hc 174 (by omega) (by omega)
  have e175 : I 175 16 = Int32.ofNat sg := hc 175 (by omega) (by omega)
  have e176 : I 176 16 / (64 : Int32) = Int32.ofNat pl := by
    rw [hc 176 (by omega) (by omega)]
    show Int32.ofNat (64 * pl) / 64 = _
    rw [oi_d (by omega), Nat.mul_div_cancel_left _ (by omega)]
  have e177 : I 177 16 / (64 : Int32) = Int32.ofNat (db / 64) := by
    rw [hc 177 (by omega) (by omega)]
    show (if (1 : Nat) = 1 then Int32.ofNat db else 0) / 64 = _
    rw [if_pos rfl, oi_d (by omega)]
  have e178 : I 178 16 = Int32.ofNat pt := by
    rw [hc 178 (by omega) (by omega)]
    show (if (1 : Nat) = 1 then Int32.ofNat pt else 0) = _
    rw [if_pos rfl]
  obtain ⟨D, hD⟩ : ∃ D, D = nd R pl (db / 64) := ⟨_, rfl⟩
  obtain ⟨P, hP⟩ : ∃ P, P = nd R (pl + db / 64) pt := ⟨_, rfl⟩
  have D1 : D ≤ db / 64 := by rw [hD]; exact nd_le _ _ _
  have P1 : P ≤ pt := by rw [hP]; exact nd_le _ _ _
  have eD : nd (rwM J sg) pl (db / 64) = D := by rw [hD]; exact nd_cg _ (fun k hk => hR k (by omega))
  have eP : nd (rwM J sg) (pl + db / 64) pt = P := by rw [hP]; exact nd_cg _ (fun k hk => hR k (by omega))
  have ely : lyp R (1, dp, sg, pl, db, pt, ct, cd) n = (1, pl, db / 64, pt, n, D, P) := by rw [hD, hP]; rfl
  have esz : lyn R (1, dp, sg, pl, db, pt, ct, cd) n = D + P := by rw [hD, hP]; rfl
  obtain ⟨O, hO⟩ : ∃ O : Int32, O = if D + P = 0 then -1 else Int32.ofNat n - Int32.ofNat t - 1 := ⟨_, rfl⟩
  have eO : (if Int32.ofNat (D + P) = (0 : Int32) then (-1 : Int32) else ((Int32.ofNat n - Int32.ofNat t) - (1 : Int32))) = O := by
    rw [hO]
    by_cases z : D + P = 0
    · rw [if_pos z, if_pos (by rw [z]; rfl)]
    · have z' : ¬ (Int32.ofNat (D + P) = (0 : Int32)) := fun q => z ((oi_eq (b := 0) (by omega) (by omega)).mp q)
      rw [if_neg z, if_neg z']
  have elF : lyF R F (1, dp, sg, pl, db, pt, ct, cd) t n = va_cpy R (fset F t (sptr D P O)) pl n D := by
    rw [hO, hD, hP]
    rfl
  have top : ∀ r, (if 64 < n + (D + P) then r = (.inl (some (.int (Int32.ofNat n))), st_h (st_w I 166 10 2) (st_y J 168 t (sptr D P O)), 0, 0) else Gx X (d + 1) (kc_M_writesStruct, []) (135, [some (.ref 166), some (.int (Int32.ofNat t)), some (.int (Int32.ofNat n)), some (.int (Int32.ofNat sg)), some (.int (Int32.ofNat pl)), some (.int (Int32.ofNat (db / 64))), some (.int (Int32.ofNat D)), some (.int (Int32.ofNat P)), some (.long ((jl (Int32.toInt64 (Int32.ofNat D)) (32 : Int32)) ||| (jl (Int32.toInt64 (Int32.ofNat P)) (48 : Int32)))), none, some (.int (Int32.ofNat 0))], [], st_h I (st_y J 168 t (sptr D P O)), 0, 0) r) → Ex X (d + 2) 233 [.ref 166, .int (Int32.ofNat t), .int (Int32.ofNat n)] (st_h I J) r := fun r h => by
    refine ie_M_writesStruct _ ?_
    rw [e175, e176, e177, e178, oi_p pl, oi_n (i := sg) (by omega), oi_n (i := pl) (by omega), oi_n (i := db / 64) (by omega), oi_n (i := pl + db / 64) (by omega), oi_n (i := pt) (by omega), eD, eP, oi_p D P, eO, oi_p n D, oi_p, oi_n (i := t) (by omega)]
    refine ⟨oi_in hsg (by omega), ⟨by rw [oi_i (by omega)]; omega, by rw [oi_i (by omega)]; omega, by rw [oi_i (by omega), oi_i (by omega)]; omega⟩, ⟨by rw [oi_i (by omega)]; omega, by rw [oi_i (by omega)]; omega, by rw [oi_i (by omega), oi_i (by omega)]; omega⟩, oi_in ht (by omega), ?_⟩
    have lt : ((64 : Int32) < Int32.ofNat (n + D + P)) ↔ 64 < n + (D + P) := by rw [show (64 : Int32) = Int32.ofNat 64 from rfl, oi_lt (by omega) (by omega)]; omega
    by_cases c : 64 < n + (D + P)
    · rw [if_pos c] at h
      exact ifp (lt.mpr c) (ifp h10 h)
    · rw [if_neg c] at h
      exact ifn (fun z => c (lt.mp z)) (ifp h10 h)
  unfold WQ
  rw [esz, ely, elF]
  refine ⟨fun c => ⟨_, fun a ha => st_y_o _ _ _ ha, top _ (ifp c rfl)⟩, fun c => ?_⟩
  -- the data, then the pointers
  have data : ∀ m k, k + m = D → ∀ L, CW J L (va_cpy R (fset F t (sptr D P O)) pl n k) → ∃ L', CW J L' (va_cpy R (fset F t (sptr D P O)) pl n D) ∧ ∀ r, Gx X (d + 1) (kc_M_writesStruct, []) (178, [some (.ref 166), some (.int (Int32.ofNat t)), some (.int (Int32.ofNat n)), some (.int (Int32.ofNat sg)), some (.int (Int32.ofNat pl)), some (.int (Int32.ofNat (db / 64))), some (.int (Int32.ofNat D)), some (.int (Int32.ofNat P)), some (.long ((jl (Int32.toInt64 (Int32.ofNat D)) (32 : Int32)) ||| (jl (Int32.toInt64 (Int32.ofNat P)) (48 : Int32)))), none, some (.int (Int32.ofNat P - 1))], [], st_h I L', 0, 0) r → Gx X (d + 1) (kc_M_writesStruct, []) (135, [some (.ref 166), some (.int (Int32.ofNat t)), some (.int (Int32.ofNat n)), some (.int (Int32.ofNat sg)), some (.int (Int32.ofNat pl)), some (.int (Int32.ofNat (db / 64))), some (.int (Int32.ofNat D)), some (.int (Int32.ofNat P)), some (.long ((jl (Int32.toInt64 (Int32.ofNat D)) (32 : Int32)) ||| (jl (Int32.toInt64 (Int32.ofNat P)) (48 : Int32)))), none, some (.int (Int32.ofNat k))], [], st_h I L, 0, 0) r := by
    intro m
    induction m with
    | zero =>
      intro k hk L hL
      obtain rfl : k = D := hk
      exact ⟨L, hL, fun r hr => ib_M_writesStruct_135 _ (ifn (by rw [oi_lt (by omega) (by omega)]; omega) hr)⟩
    | succ m ih =>
      intro k hk L hL
      have z := CW_w hL (n + k) (R (pl + k))
      rw [cpy_s] at z
      obtain ⟨L', g1, g2⟩ := ih (k + 1) (by omega) _ z
      refine ⟨L', g1, fun r hr => ib_M_writesStruct_135 _ (ifp (by rw [oi_lt (by omega) (by omega)]; omega) ?_)⟩
      have eR : L 167 (64 * sg + pl + k) = R (pl + k) := by rw [hL.1 167 (by omega), Nat.add_assoc]; exact hR _ (by omega)
      rw [oi_64 (by omega) (by omega), oi_p, oi_p, oi_n (i := 64 * sg + pl + k) (by omega), oi_n (i := n + k) (by omega), oi_a, eR]
      exact ⟨oi_in (by omega) (by omega), oi_in (by omega) (by omega), g2 r hr⟩
  obtain ⟨L', g1, g2⟩ := data D 0 (by omega) (st_y J 168 t (sptr D P O)) (by rw [cpy_0]; exact CW_w ⟨fun _ _ => rfl, hF⟩ t _)
  obtain ⟨I2, f1, f2, f3⟩ := ws_178 (X := X) (d := d) (I := I) (B := B) (n := n) (sg := sg) (dp := dp) (pl := pl) (L := L') (D := D) (P := P) (fd := db / 64) (v8 := (jl (Int32.toInt64 (Int32.ofNat D)) (32 : Int32)) ||| (jl (Int32.toInt64 (Int32.ofNat P)) (48 : Int32))) (p1 := Int32.ofNat t) e174 (by omega) (by omega) (by omega) P (Nat.le_refl P) I (fun _ _ _ _ => rfl) (by rw [Nat.sub_self]; show PS I (B ++ []); rw [List.append_nil]; exact hB)
  refine ⟨I2, L', f1, ?_, g1, top _ (ifn c (g2 _ f3))⟩
  show PS I2 (B ++ ([] ++ rin sg dp (pl + 0 * (db / 64 + pt) + db / 64) (n + 0 * (D + P) + D) P 0))
  rw [List.nil_append, Nat.zero_mul, Nat.zero_mul, Nat.add_zero, Nat.add_zero]
  exact f2
end WRS
