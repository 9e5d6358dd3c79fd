/-! item: an element of a list of numbers -/
set_option maxRecDepth 20000 in
theorem s_item {X : pm_X} (hX : X 1 = (8, eb)) {d : Nat} {I : st_I} {J : st_J} {p1 p2 : Int32} (h : RR I J) : StpL X (d + 4) 85 [.ref 0, .int p1, .int p2, .ref 187] 204 [.ref 166, .int p1, .int p2] I J := by
  have hw := h.1.1
  have e5 : (5 : Int32).toInt = 5 := rfl
  by_cases c : 0 ≤ p1.toInt ∧ p1.toInt ≤ 15
  · obtain ⟨k1, k2, k3⟩ := c16_i c.1 c.2
    have hC : (¬ (p1 < (0 : Int32))) ∧ (p1 < (16 : Int32)) := cI_c.mpr c
    have hM : (¬ ((Int32.toInt64 p1) < (0 : Int64))) ∧ (¬ ((15 : Int64) < (Int32.toInt64 p1))) := cI_m.mpr c
    obtain ⟨⟨kd, dp, sg, pl, sh, db, pt, ct, cd⟩, hs9, hm9, hvk⟩ := h.2.2.2 p1.toNatClampNeg k1
    have g0 : I (150 + p1.toNatClampNeg) 0 = Int32.ofNat kd := hs9 0 (by omega)
    have g2 : I (150 + p1.toNatClampNeg) 2 = Int32.ofNat sg := hs9 2 (by omega)
    have g3 : I (150 + p1.toNatClampNeg) 3 = Int32.ofNat pl := hs9 3 (by omega)
    have g4 : I (150 + p1.toNatClampNeg) 4 = Int32.ofNat sh := hs9 4 (by omega)
    have g7 : I (150 + p1.toNatClampNeg) 7 = Int32.ofNat ct := hs9 7 (by omega)
    have g8 : I (150 + p1.toNatClampNeg) 8 = Int32.ofNat cd := hs9 8 (by omega)
    have q173 : I 173 p1.toNatClampNeg = Int32.ofNat kd := hm9 173 (by omega) (by omega)
    have q175 : I 175 p1.toNatClampNeg = Int32.ofNat sg := hm9 175 (by omega) (by omega)
    have q176 : I 176 p1.toNatClampNeg = Int32.ofNat (64 * pl + sh) := hm9 176 (by omega) (by omega)
    have q179 : I 179 p1.toNatClampNeg = Int32.ofNat ct := hm9 179 (by omega) (by omega)
    have q180 : I 180 p1.toNatClampNeg = Int32.ofNat cd := hm9 180 (by omega) (by omega)
    have hUs := hw.2.1 sg hvk.2.1
    have hUn := un_i hUs.1
    obtain ⟨w0, w1, w2, w3, w4, w5, w6, w7, w8⟩ := vk_b hvk (by omega)
    have hcase := hvk.2.2.2.2
    have kk2 : (Int32.ofNat kd = 2) ↔ kd = 2 := oi_eq (b := 2) (by omega) (by omega)
    have c0 : (Int32.ofNat cd = 0) ↔ cd = 0 := oi_eq (b := 0) (by omega) (by omega)
    have l5 : ((5 : Int32) < Int32.ofNat cd) ↔ 5 < cd := by rw [i32_lt, oi_i (by omega), e5]; omega
    have cC : ((¬ (I (150 + p1.toNatClampNeg) 0 = 2)) ∨ ((5 : Int32) < I (150 + p1.toNatClampNeg) 8)) ↔ ¬ (kd = 2 ∧ cd ≤ 5) := by rw [g0, g8, kk2, l5]; omega
    have cM : ((¬ (I 173 p1.toNatClampNeg = 2)) ∨ ((5 : Int32) < I 180 p1.toNatClampNeg)) ↔ ¬ (kd = 2 ∧ cd ≤ 5) := by rw [q173, q180, kk2, l5]; omega
    by_cases d1 : kd = 2 ∧ cd ≤ 5
    · have nC : ((p2 < (0 : Int32)) ∨ (¬ (p2 < I (150 + p1.toNatClampNeg) 7))) ↔ ¬ (0 ≤ p2.toInt ∧ p2.toInt < ct) := by
        rw [g7, i32_lt, i32_lt, i0, oi_i (by omega)]
        omega
      have nM : ((¬ ((Int32.toInt64 p2) < (0 : Int64))) ∧ (¬ ((Int32.toInt64 (I 179 p1.toNatClampNeg - (1 : Int32))) < (Int32.toInt64 p2)))) ↔ (0 ≤ p2.toInt ∧ p2.toInt < ct) := by
        rw [q179, i64_lt, i64_lt, tl, tl, j0, s_1 (by rw [oi_i (by omega)]; omega) (by rw [oi_i (by omega)]; omega), oi_i (by omega)]
        omega
      by_cases d2 : 0 ≤ p2.toInt ∧ p2.toInt < ct
      · have hn := cln d2.1
        have ep := oi_of d2.1
        have mb := bit_c (c := cd) (by omega) (Int32.ofNat cd) (oi_i (by omega))
        rw [if_pos d1.2] at mb
        by_cases d3 : cd = 0
        · subst d3
          refine ⟨I, st_y J 187 0 0, 0, 0, 0, iv_L_item hX _ ?_, by omega, by omega, st_w I 166 10 0, st_y J 187 0 0, 0, (ev_M_item (d := d + 1) _).mpr ?_, e_1 _ _, fun _ => y_o _ _, RR_e h (rJ_o _ _)⟩
          · rw [if_pos hC]
            refine ⟨k2, ?_⟩
            rw [if_neg (fun q => cC.mp q d1), if_neg (fun q => nC.mp q d2), if_pos (by rw [g8]; rfl)]
          · rw [if_pos hM]
            refine ⟨k3, ?_⟩
            rw [if_neg (fun q => cM.mp q d1), if_pos (nM.mpr d2), q180, mb]
            refine ⟨fun q => absurd rfl q, ?_⟩
            rw [if_pos (show Int32.ofNat (ebn 0) = 0 from rfl)]
        · have hb := ebn_le cd
          have hb1 : 1 ≤ ebn cd := by
            have : cd = 1 ∨ cd = 2 ∨ cd = 3 ∨ cd = 4 ∨ cd = 5 := by omega
            rcases this with rfl | rfl | rfl | rfl | rfl <;> decide
          have hdb : db = ebn cd ∧ sh = 0 ∧ 64 * pl + ct * db ≤ 64 * un (I 7) sg := by
            rcases hcase with q | q | q
            · omega
            · omega
            · obtain ⟨q1, q2, q3, q | q | q⟩ := q
              · exact ⟨q.2.1, q2, q.2.2.2⟩
              · omega
              · omega
          have heb : eb (Int32.toNatClampNeg (I (150 + p1.toNatClampNeg) 8)) = Int32.ofNat (ebn cd) := by
            rw [g8, oi_n (by omega)]
            exact eq_of (eb_n (by omega))
          have hWi : (Int32.ofNat (ebn cd)).toInt = ebn cd := oi_i (by omega)
          obtain ⟨B, hB⟩ : ∃ B, B = 64 * pl + sh + p2.toNatClampNeg * ebn cd := ⟨_, rfl⟩
          have hB4 : B < 4096 := by
            have hmul : p2.toNatClampNeg * ebn cd + ebn cd ≤ ct * ebn cd := by
              rw [← Nat.succ_mul]
              exact Nat.mul_le_mul_right _ (by omega)
            rw [hdb.1] at hdb
            omega
          have bC : I (150 + p1.toNatClampNeg) 3 * 64 + I (150 + p1.toNatClampNeg) 4 + p2 * Int32.ofNat (ebn cd) = Int32.ofNat B := by
            rw [g3, g4, show (64 : Int32) = Int32.ofNat 64 from rfl, oi_mu, oi_p]
            conv => lhs; rw [ep]
            rw [oi_mu, oi_p, hB, Nat.mul_comm pl 64]
          have bM : I 176 p1.toNatClampNeg + p2 * Int32.ofNat (ebn cd) = Int32.ofNat B := by
            rw [q176]
            conv => lhs; rw [ep]
            rw [oi_mu, oi_p, hB]
          obtain ⟨V, hV⟩ : ∃ V, V = sgn_ (Int32.ofNat (ebn cd)) (cut_ (Int32.ofNat (ebn cd)) (ju (J (3 + sg) (B / 64)) (irm (Int32.ofNat B) 64))) := ⟨_, rfl⟩
          refine ⟨I, st_y J 187 0 V, 0, 0, 0, iv_L_item hX _ ?_, by omega, by omega, st_w I 166 10 0, st_y J 187 0 V, V, (ev_M_item (d := d + 1) _).mpr ?_, e_1 _ _, fun _ => y_o _ _, RR_e h (rJ_o _ _)⟩
          · rw [if_pos hC]
            refine ⟨k2, ?_⟩
            rw [if_neg (fun q => cC.mp q d1), if_neg (fun q => nC.mp q d2), if_neg (by rw [g8]; exact fun q => d3 (c0.mp q))]
            refine ⟨by rw [g8]; exact oi_in (by omega) (by omega), by rw [g2]; exact oi_in w2 (by omega), ?_⟩
            rw [heb, bC]
            refine ⟨bit_j hB4, ?_⟩
            rw [g2, bit_c_ (J := J) w2 hB4, hV, ← cut_on (by omega)]
            rfl
          · rw [if_pos hM]
            refine ⟨k3, ?_⟩
            rw [if_neg (fun q => cM.mp q d1), if_pos (nM.mpr d2), q180, mb, bM, q175, bit_m_ (J := st_y J 187 0 V) w2 hB4, rJ_o _ _ _ _ (Or.inr rfl), h.1.2.2.2.2.1 sg (B / 64) w2 (by omega)]
            refine ⟨fun _ => bit_k w2 hB4, ?_⟩
            rw [if_neg (show ¬ (Int32.ofNat (ebn cd) = 0) from fun q => by rw [i32_eq, hWi, i0] at q; omega), hV]
            rfl
      · refine ⟨I, J, 1, 1, 6, iv_L_item hX _ ?_, by omega, by omega, st_w (st_w I 166 10 0) 166 10 1, J, 0, (ev_M_item (d := d + 1) _).mpr ?_, e_o _ _ _, fun h => absurd h (by decide), RR_ee h (fun _ _ _ => rfl)⟩
        · rw [if_pos hC]
          refine ⟨k2, ?_⟩
          rw [if_neg (fun q => cC.mp q d1), if_pos (nC.mpr d2)]
        · rw [if_pos hM]
          refine ⟨k3, ?_⟩
          rw [if_neg (fun q => cM.mp q d1), if_neg (fun q => d2 (nM.mp q))]
    · refine ⟨I, J, 2, 1, 6, iv_L_item hX _ ?_, by omega, by omega, st_w (st_w I 166 10 0) 166 10 2, J, 0, (ev_M_item (d := d + 1) _).mpr ?_, e_o _ _ _, fun h => absurd h (by decide), RR_ee h (fun _ _ _ => rfl)⟩
      · rw [if_pos hC]
        refine ⟨k2, ?_⟩
        rw [if_pos (cC.mpr d1)]
      · rw [if_pos hM]
        refine ⟨k3, ?_⟩
        rw [if_pos (cM.mpr d1)]
  · refine ⟨I, J, 1, 1, 6, iv_L_item hX _ ?_, by omega, by omega, st_w (st_w I 166 10 0) 166 10 1, J, 0, (ev_M_item (d := d + 1) _).mpr ?_, e_o _ _ _, fun h => absurd h (by decide), RR_ee h (fun _ _ _ => rfl)⟩
    · rw [if_neg (fun q => c (cI_c.mp q))]
    · rw [if_neg (fun q => c (cI_m.mp q))]
