/-! a list of pointers or of numbers, by the reference -/
theorem fset_f (F : Nat → Int64) (i : Nat) (x y : Int64) : fset (fset F i x) i y = fset F i y := by
  funext k
  unfold fset
  by_cases c : k = i
  · rw [if_pos c, if_pos c]
  · rw [if_neg c, if_neg c, if_neg c]
section WRL
variable {X : pm_X} {d : Nat} {I : st_I} {J : st_J} {B : List IT} {t n sg dp pl db pt ct cd : Nat} {R F : Nat → Int64}
theorem wl_135 {L : st_J} {v5 v6 v10 : Int32} {v7 : Int64} {p1 : Int32} (h174 : I 174 16 = Int32.ofNat dp) (hP : ct ≤ 64) (hB : B.length + ct ≤ 80) (hl : pl + ct ≤ 1000 ∧ n + ct ≤ 1000) : ∀ i, i ≤ ct → ∀ I1, PF I I1 → PS I1 (B ++ rout sg dp (ct, pl, 0, 1, n, 0, 1) (ct - i) i) → ∃ I2, PF I I2 ∧ PS I2 (B ++ rout sg dp (ct, pl, 0, 1, n, 0, 1) ct 0) ∧ Gx X (d + 2) (kc_M_writesList, []) (135, [some (.ref 166), some (.int p1), some (.int (Int32.ofNat n)), some (.int (Int32.ofNat sg)), some (.int (Int32.ofNat pl)), some (.int v5), some (.int v6), some (.long v7), none, some (.int (Int32.ofNat ct)), some (.int v10), some (.int (Int32.ofNat i - 1))], [], st_h I1 L, 0, 0) (.inl (some (.int (Int32.ofNat (n + ct)))), st_h I2 L, 0, 0) := by
  intro i
  induction i with
  | zero =>
    intro _ I1 h1 h2
    refine ⟨I1, h1, h2, (b_M_writesList_135 _).mpr (ifp n_0 ?_)⟩
    rw [oi_p]
  | succ i ih =>
    intro hi I1 h1 h2
    have hlen : (B ++ rout sg dp (ct, pl, 0, 1, n, 0, 1) (ct - (i + 1)) (i + 1)).length = B.length + (ct - (i + 1)) := by rw [List.length_append, rout_len]; show _ + _ * 1 = _; rw [Nat.mul_one]
    have h174' : I1 174 16 = Int32.ofNat dp := (h1 174 16 (by omega) (by omega)).trans h174
    have q := PS_s (a := sg) (b := pl + i) (c := n + i) (e := dp) h2 (by omega)
    have el : B ++ rout sg dp (ct, pl, 0, 1, n, 0, 1) (ct - (i + 1)) (i + 1) ++ [(sg, pl + i, n + i, dp)] = B ++ rout sg dp (ct, pl, 0, 1, n, 0, 1) (ct - i) i := by
      rw [List.append_assoc, show ct - i = (ct - (i + 1)) + 1 by omega]
      show _ = B ++ (rout sg dp (ct, pl, 0, 1, n, 0, 1) (ct - (i + 1)) (i + 1) ++ ([] ++ [(sg, pl + i * (0 + 1) + 0 + 0, n + i * (0 + 1) + 0 + 0, dp)]))
      simp only [List.nil_append, Nat.zero_add, Nat.mul_one, Nat.add_zero]
    rw [el] at q
    obtain ⟨I2, g1, g2, g3⟩ := ih (by omega) _ (PF_t h1 (PF_s I1 _ _ _ _)) q
    refine ⟨I2, g1, g2, (b_M_writesList_135 _).mpr ?_⟩
    rw [oi_s1, oi_p pl i, oi_p n i, m_1, h174']
    refine ifn (oi_ng (by omega)) ⟨by rw [h2.1, hlen]; exact oi_in (by omega) (by omega), ?_⟩
    exact g3
theorem wr_pointers (hc : ∀ a, 173 ≤ a → a ≤ 182 → I a 16 = mcv (2, dp, sg, pl, db, pt, ct, 6) a) (h10 : I 166 10 = 0) (hsg : sg < 4) (hb : pl + ct ≤ 64) (hF : ∀ k, k < 64 → J 168 k = F k) (ht : t < 64) (hn : n ≤ 64) (hB : PS I B) (hBl : B.length ≤ n) : WQ B I J R F (2, dp, sg, pl, db, pt, ct, 6) t n (Ex X (d + 3) 236 [.ref 166, .int (Int32.ofNat t), .int (Int32.ofNat n)] (st_h I J)) := by
  have e174 : I 174 16 = Int32.ofNat dp := hc 174 (by omega) (by omega)
  have e175 : I 175 16 = Int32.ofNat sg := hc 175 (by omega) (by omega)
  have e176 : I 176 16 / (64 : Int32) = Int32.ofNat pl := by
    rw [hc 176 (by omega) (by omega)]
    show Int32.ofNat (64 * pl) / 64 = _
    rw [oi_d (by omega), Nat.mul_div_cancel_left _ (by omega)]
  have e179 : I 179 16 = Int32.ofNat ct := hc 179 (by omega) (by omega)
  have e180 : I 180 16 = Int32.ofNat 6 := hc 180 (by omega) (by omega)
  have esz : lyn R (2, dp, sg, pl, db, pt, ct, 6) n = ct := rfl
  have ely : lyp R (2, dp, sg, pl, db, pt, ct, 6) n = (ct, pl, 0, 1, n, 0, 1) := rfl
  have elF : lyF R F (2, dp, sg, pl, db, pt, ct, 6) t n = fset F t (lptr 6 ct (Int32.ofNat n - Int32.ofNat t - 1)) := rfl
  have n7 : ¬ (Int32.ofNat 6 = (7 : Int32)) := by decide
  have s6 : (Int32.ofNat 6 = (6 : Int32)) := rfl
  have lt : ((64 : Int64) < Int32.toInt64 (Int32.ofNat n) + Int32.toInt64 (Int32.ofNat ct)) ↔ 64 < n + ct := by
    rw [i64_lt, ja2 ((tl _).trans (oi_i (by omega))) ((tl _).trans (oi_i (by omega))) (by omega) (by omega), show (64 : Int64).toInt = 64 from rfl]
    omega
  obtain ⟨v10, hv10⟩ : ∃ v10, v10 = irm ((I 179 16) * (if (I 180 16) = (0 : Int32) then (0 : Int32) else (if (5 : Int32) < (I 180 16) then (0 : Int32) else (if (I 180 16) = (1 : Int32) then (1 : Int32) else (il (4 : Int32) ((I 180 16) - (1 : Int32))))))) (64 : Int32) := ⟨_, rfl⟩
  have top : ∀ r, (if 64 < n + ct then r = (.inl (some (.int (Int32.ofNat n))), st_h (st_w I 166 10 2) (st_y J 168 t (lptr 6 ct (Int32.ofNat n - Int32.ofNat t - 1))), 0, 0) else Gx X (d + 2) (kc_M_writesList, []) (135, [some (.ref 166), some (.int (Int32.ofNat t)), some (.int (Int32.ofNat n)), some (.int (Int32.ofNat sg)), some (.int (Int32.ofNat pl)), some (.int (Int32.ofNat 6)), some (.int (Int32.ofNat ct)), some (.long (Int32.toInt64 (Int32.ofNat ct))), none, some (.int (Int32.ofNat ct)), some (.int v10), some (.int (Int32.ofNat ct - 1))], [], st_h I (st_y J 168 t (lptr 6 ct (Int32.ofNat n - Int32.ofNat t - 1))), 0, 0) r) → Ex X (d + 3) 236 [.ref 166, .int (Int32.ofNat t), .int (Int32.ofNat n)] (st_h I J) r := fun r h => by
    refine (e_M_writesList _).mpr ?_
    rw [← hv10, e175, e176, e179, e180, if_neg n7, if_pos s6, titl, oi_n (i := t) (by omega)]
    refine ⟨oi_in ht (by omega), ?_⟩
    by_cases c : 64 < n + ct
    · rw [if_pos c] at h
      exact ifp (lt.mpr c) (ifp h10 h)
    · rw [if_neg c] at h
      exact ifn (fun z => c (lt.mp z)) (ifp h10 (ifp s6 h))
  unfold WQ
  rw [esz, ely, elF]
  refine ⟨fun c => ⟨_, fun a ha => st_y_o _ _ _ ha, top _ (ifp c rfl)⟩, fun c => ?_⟩
  obtain ⟨I2, f1, f2, f3⟩ := wl_135 (X := X) (d := d) (I := I) (B := B) (n := n) (sg := sg) (dp := dp) (pl := pl) (ct := ct) (L := st_y J 168 t (lptr 6 ct (Int32.ofNat n - Int32.ofNat t - 1))) (v5 := Int32.ofNat 6) (v6 := Int32.ofNat ct) (v10 := v10) (v7 := Int32.toInt64 (Int32.ofNat ct)) (p1 := Int32.ofNat t) e174 (by omega) (by omega) (by omega) ct (Nat.le_refl ct) I (fun _ _ _ _ => rfl) (by rw [Nat.sub_self]; show PS I (B ++ []); rw [List.append_nil]; exact hB)
  exact ⟨I2, _, f1, f2, CW_w ⟨fun _ _ => rfl, hF⟩ t _, top _ (ifn c f3)⟩
set_option maxRecDepth 20000 in
theorem wr_numbers (hc : ∀ a, 173 ≤ a → a ≤ 182 → I a 16 = mcv (2, dp, sg, pl, db, pt, ct, cd) a) (h10 : I 166 10 = 0) (hsg : sg < 4) (hb : cd ≤ 5 ∧ ct ≤ 100000 ∧ pl + (ct * ebn cd + 63) / 64 ≤ 64) (hR : ∀ k, k < 64 → J 167 (64 * sg + k) = R k) (hF : ∀ k, k < 64 → J 168 k = F k) (ht : t < 64) (hn : n ≤ 64) (hB : PS I B) : WQ B I J R F (2, dp, sg, pl, db, pt, ct, cd) t n (Ex X (d + 3) 236 [.ref 166, .int (Int32.ofNat t), .int (Int32.ofNat n)] (st_h I J)) := by
  have hbn := ebn_le cd
  have hmm : ct * ebn cd ≤ 100000 * 64 := Nat.mul_le_mul hb.2.1 hbn
  obtain ⟨Q, hQ⟩ : ∃ Q, Q = (ct * ebn cd + 63) / 64 := ⟨_, rfl⟩
  obtain ⟨m, hm⟩ : ∃ m, m = ct * ebn cd := ⟨_, rfl⟩
  have e175 : I 175 16 = Int32.ofNat sg := hc 175 (by omega) (by omega)
  have e176 : I 176 16 / (64 : Int32) = Int32.ofNat pl := by
    rw [hc 176 (by omega) (by omega)]
    show Int32.ofNat (64 * pl) / 64 = _
    rw [oi_d (by omega), Nat.mul_div_cancel_left _ (by omega)]
  have e179 : I 179 16 = Int32.ofNat ct := hc 179 (by omega) (by omega)
  have e180 : I 180 16 = Int32.ofNat cd := hc 180 (by omega) (by omega)
  have c7 : ¬ (cd = 7) := by omega
  have c6 : ¬ (cd = 6) := by omega
  have n7 : ¬ (Int32.ofNat cd = (7 : Int32)) := fun q => c7 ((oi_eq (b := 7) (by omega) (by omega)).mp q)
  have n6 : ¬ (Int32.ofNat cd = (6 : Int32)) := fun q => c6 ((oi_eq (b := 6) (by omega) (by omega)).mp q)
  have ebc := bit_c (c := cd) (by omega) (Int32.ofNat cd) (oi_i (by omega))
  rw [if_pos hb.1] at ebc
  obtain ⟨ND, hND⟩ : ∃ ND : Int64, ND = (((Int32.toInt64 (Int32.ofNat ct)) * (Int32.toInt64 (Int32.ofNat (ebn cd)))) + (63 : Int64)) / (64 : Int64) := ⟨_, rfl⟩
  have iND : ND.toInt = (Q : Int) := by
    have e1 : (Int32.toInt64 (Int32.ofNat ct)).toInt = (ct : Int) := (tl _).trans (oi_i (by omega))
    have e2 : (Int32.toInt64 (Int32.ofNat (ebn cd))).toInt = (ebn cd : Int) := (tl _).trans (oi_i (by omega))
    have e3 : ((Int32.toInt64 (Int32.ofNat ct)) * (Int32.toInt64 (Int32.ofNat (ebn cd)))).toInt = ((ct * ebn cd : Nat) : Int) := by
      rw [Int.natCast_mul]
      exact jm2 e1 e2 (by rw [← Int.natCast_mul]; omega) (by rw [← Int.natCast_mul]; omega)
    have e4 := ja2 e3 (show (63 : Int64).toInt = 63 from rfl) (by omega) (by omega)
    rw [hND, jd (by rw [e4]; omega) (by decide), e4, show (64 : Int64).toInt = 64 from rfl]
    omega
  have tND : Int64.toInt32 ND = Int32.ofNat Q := eq_of (ti2 iND (by omega) (by omega))
  have er : irm (Int32.ofNat ct * Int32.ofNat (ebn cd)) (64 : Int32) = Int32.ofNat (m % 64) := by rw [oi_mu, ← hm, oi_r64 (by omega)]
  have lt : ((64 : Int64) < Int32.toInt64 (Int32.ofNat n) + ND) ↔ 64 < n + Q := by
    rw [i64_lt, ja2 ((tl _).trans (oi_i (by omega))) iND (by omega) (by omega), show (64 : Int64).toInt = 64 from rfl]
    omega
  have esz : lyn R (2, dp, sg, pl, db, pt, ct, cd) n = Q := by
    unfold lyn
    dsimp only
    rw [if_neg (show ¬ (2 : Nat) = 1 by omega), if_neg c7, if_neg c6, hQ]
  have ely : lyp R (2, dp, sg, pl, db, pt, ct, cd) n = (0, pl, 0, 0, n, 0, 0) := by
    unfold lyp
    dsimp only
    rw [if_neg (show ¬ (2 : Nat) = 1 by omega), if_neg c7, if_neg c6]
  obtain ⟨F1, hF1⟩ : ∃ F1, F1 = fset F t (lptr cd ct (Int32.ofNat n - Int32.ofNat t - 1)) := ⟨_, rfl⟩
  have elF : lyF R F (2, dp, sg, pl, db, pt, ct, cd) t n = if m % 64 = 0 then va_cpy R F1 pl n Q else fset (va_cpy R F1 pl n Q) (n + Q - 1) ((va_cpy R F1 pl n Q) (n + Q - 1) &&& on_ (Int32.ofNat (m % 64))) := by
    unfold lyF
    dsimp only
    rw [if_neg (show ¬ (2 : Nat) = 1 by omega), if_neg c7, if_neg c6, hQ, hm, hF1]
  have top : ∀ r, (if 64 < n + Q then r = (.inl (some (.int (Int32.ofNat n))), st_h (st_w I 166 10 2) (st_y J 168 t (lptr cd ct (Int32.ofNat n - Int32.ofNat t - 1))), 0, 0) else Gx X (d + 2) (kc_M_writesList, []) (173, [some (.ref 166), some (.int (Int32.ofNat t)), some (.int (Int32.ofNat n)), some (.int (Int32.ofNat sg)), some (.int (Int32.ofNat pl)), some (.int (Int32.ofNat cd)), some (.int (Int32.ofNat ct)), some (.long ND), none, some (.int (Int32.ofNat Q)), some (.int (Int32.ofNat (m % 64))), some (.int (Int32.ofNat 0))], [], st_h I (st_y J 168 t (lptr cd ct (Int32.ofNat n - Int32.ofNat t - 1))), 0, 0) r) → Ex X (d + 3) 236 [.ref 166, .int (Int32.ofNat t), .int (Int32.ofNat n)] (st_h I J) r := fun r h => by
    refine (e_M_writesList _).mpr ?_
    rw [e175, e176, e179, e180, if_neg n7, if_neg n6, ebc, ← hND, tND, er, oi_n (i := t) (by omega)]
    refine ⟨oi_in ht (by omega), ?_⟩
    by_cases c : 64 < n + Q
    · rw [if_pos c] at h
      exact ifp (lt.mpr c) (ifp h10 h)
    · rw [if_neg c] at h
      exact ifn (fun z => c (lt.mp z)) (ifp h10 (ifn n6 h))
  unfold WQ
  rw [esz, ely]
  refine ⟨fun c => ⟨_, fun a ha => st_y_o _ _ _ ha, top _ (ifp c rfl)⟩, fun c => ?_⟩
  have hm64 : m % 64 < 64 := Nat.mod_lt _ (by omega)
  have data : ∀ u k, k + u = Q → (m % 64 = 0 ∨ k < Q) → ∀ L, CW J L (va_cpy R F1 pl n k) → ∃ L', CW J L' (lyF R F (2, dp, sg, pl, db, pt, ct, cd) t n) ∧ Gx X (d + 2) (kc_M_writesList, []) (173, [some (.ref 166), some (.int (Int32.ofNat t)), some (.int (Int32.ofNat n)), some (.int (Int32.ofNat sg)), some (.int (Int32.ofNat pl)), some (.int (Int32.ofNat cd)), some (.int (Int32.ofNat ct)), some (.long ND), none, some (.int (Int32.ofNat Q)), some (.int (Int32.ofNat (m % 64))), some (.int (Int32.ofNat k))], [], st_h I L, 0, 0) (.inl (some (.int (Int32.ofNat (n + Q)))), st_h I L', 0, 0) := by
    have fin : ∀ L, Gx X (d + 2) (kc_M_writesList, []) (173, [some (.ref 166), some (.int (Int32.ofNat t)), some (.int (Int32.ofNat n)), some (.int (Int32.ofNat sg)), some (.int (Int32.ofNat pl)), some (.int (Int32.ofNat cd)), some (.int (Int32.ofNat ct)), some (.long ND), none, some (.int (Int32.ofNat Q)), some (.int (Int32.ofNat (m % 64))), some (.int (Int32.ofNat Q))], [], st_h I L, 0, 0) (.inl (some (.int (Int32.ofNat (n + Q)))), st_h I L, 0, 0) := fun L => (b_M_writesList_173 _).mpr (ifn (by rw [oi_lt (by omega) (by omega)]; omega) (by rw [oi_p]))
    intro u
    induction u with
    | zero =>
      intro k hk hz L hL
      obtain rfl : k = Q := hk
      have z : m % 64 = 0 := by omega
      exact ⟨L, by rw [elF, if_pos z]; exact hL, fin L⟩
    | succ u ih =>
      intro k hk hz L hL
      have kl : Int32.ofNat k < Int32.ofNat Q := by rw [oi_lt (by omega) (by omega)]; omega
      have eR : L 167 (64 * sg + pl + k) = R (pl + k) := by rw [hL.1 167 (by omega), Nat.add_assoc]; exact hR _ (by omega)
      have i1 : (64 : Int32) * Int32.ofNat sg + Int32.ofNat pl + Int32.ofNat k = Int32.ofNat (64 * sg + pl + k) := by rw [oi_64 (by omega) (by omega), oi_p]
      have p1 : pm_in (Int32.ofNat (64 * sg + pl + k)) 256 = true := oi_in (by omega) (by omega)
      have p2 : pm_in (Int32.ofNat (n + k)) 64 = true := oi_in (by omega) (by omega)
      have eQ1 : Int32.ofNat Q - (1 : Int32) = Int32.ofNat (Q - 1) := by
        obtain ⟨w, hw⟩ : ∃ w, Q = w + 1 := ⟨Q - 1, by omega⟩
        rw [hw, oi_s1, Nat.add_sub_cancel]
      have ek : (Int32.ofNat k = Int32.ofNat (Q - 1)) ↔ k = Q - 1 := oi_eq (by omega) (by omega)
      have z := CW_w hL (n + k) (R (pl + k))
      rw [cpy_s] at z
      by_cases ck : k = Q - 1
      · by_cases r0 : m % 64 = 0
        · obtain ⟨L', g1, g2⟩ := ih (k + 1) (by omega) (Or.inl r0) _ z
          refine ⟨L', g1, (b_M_writesList_173 _).mpr (ifp kl ?_)⟩
          rw [eQ1, i1, oi_p, oi_a, oi_n (i := 64 * sg + pl + k) (by omega), oi_n (i := n + k) (by omega), eR]
          exact ifp (ek.mpr ck) (ifn (by rw [r0]; decide) ⟨p1, p2, g2⟩)
        · have hQ' : k + 1 = Q := by omega
          have n64 : ¬ (Int32.ofNat (m % 64) = (64 : Int32)) := fun q => by have := (oi_eq (b := 64) (by omega) (by omega)).mp q; omega
          have eon : on_ (Int32.ofNat (m % 64)) = (jl (1 : Int64) (Int32.ofNat (m % 64))) - (1 : Int64) := by
            unfold on_
            rw [if_pos (by rw [show (64 : Int32) = Int32.ofNat 64 from rfl, oi_lt (by omega) (by omega)]; exact hm64)]
          have z2 := CW_w hL (n + k) (R (pl + k) &&& ((jl (1 : Int64) (Int32.ofNat (m % 64))) - (1 : Int64)))
          refine ⟨st_y L 168 (n + k) (R (pl + k) &&& ((jl (1 : Int64) (Int32.ofNat (m % 64))) - (1 : Int64))), ?_, (b_M_writesList_173 _).mpr (ifp kl ?_)⟩
          · have eF : lyF R F (2, dp, sg, pl, db, pt, ct, cd) t n = fset (va_cpy R F1 pl n k) (n + k) (R (pl + k) &&& ((jl (1 : Int64) (Int32.ofNat (m % 64))) - (1 : Int64))) := by
              have ev : (va_cpy R F1 pl n (k + 1)) (n + k) = R (pl + k) := by
                unfold va_cpy
                rw [if_pos (by omega), show n + k - n = k by omega]
              rw [elF, if_neg r0, ← hQ', show n + (k + 1) - 1 = n + k by omega, ev, eon, ← cpy_s, fset_f]
            rw [eF]
            exact z2
          · rw [eQ1, i1, oi_p, oi_a, oi_n (i := 64 * sg + pl + k) (by omega), oi_n (i := n + k) (by omega), eR, if_neg n64, hQ']
            refine ifp (ek.mpr ck) (ifp (by rw [show (0 : Int32) = Int32.ofNat 0 from rfl, oi_lt (by omega) (by omega)]; omega) ⟨p1, p2, fin _⟩)
      · obtain ⟨L', g1, g2⟩ := ih (k + 1) (by omega) (by omega) _ z
        refine ⟨L', g1, (b_M_writesList_173 _).mpr (ifp kl ?_)⟩
        rw [eQ1, i1, oi_p, oi_a, oi_n (i := 64 * sg + pl + k) (by omega), oi_n (i := n + k) (by omega), eR]
        exact ifn (fun q => ck (ek.mp q)) ⟨p1, p2, g2⟩
  obtain ⟨L', g1, g2⟩ := data Q 0 (by omega) (by omega) (st_y J 168 t (lptr cd ct (Int32.ofNat n - Int32.ofNat t - 1))) (by rw [cpy_0, hF1]; exact CW_w ⟨fun _ _ => rfl, hF⟩ t _)
  exact ⟨I, L', fun _ _ _ _ => rfl, by show PS I (B ++ []); rw [List.append_nil]; exact hB, g1, top _ (ifn c g2)⟩
end WRL
