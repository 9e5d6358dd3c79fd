/-! list -/
theorem lz_c {P5 P4 : Nat} (h5 : P5 ≤ 64) (h4 : P4 < 8) : Int64.toInt32 ((((Int32.toInt64 (Int32.ofNat P5)) * (Int32.toInt64 (eb (Int32.toNatClampNeg (Int32.ofNat P4))))) + (63 : Int64)) / (64 : Int64)) = Int32.ofNat ((P5 * ebn P4 + 63) / 64) := by
  have hb := ebn_le P4
  have hm : P5 * ebn P4 ≤ 64 * 64 := Nat.mul_le_mul h5 hb
  have e1 : (Int32.toInt64 (Int32.ofNat P5)).toInt = (P5 : Int) := (tl _).trans (oi_i (by omega))
  have e2 : (Int32.toInt64 (eb (Int32.toNatClampNeg (Int32.ofNat P4)))).toInt = (ebn P4 : Int) := by rw [oi_n (by omega)]; exact (tl _).trans (eb_n h4)
  have e3 : ((Int32.toInt64 (Int32.ofNat P5)) * (Int32.toInt64 (eb (Int32.toNatClampNeg (Int32.ofNat P4))))).toInt = ((P5 * ebn P4 : Nat) : Int) := by
    rw [Int.natCast_mul]
    exact jm2 e1 e2 (by rw [← Int.natCast_mul]; omega) (by rw [← Int.natCast_mul]; omega)
  have e4 := ja2 e3 (show (63 : Int64).toInt = 63 from rfl) (by omega) (by omega)
  refine eq_of (ti2 ((jd (by rw [e4]; omega) (by decide)).trans (by rw [e4, show (64 : Int64).toInt = 64 from rfl])) (by omega) (by omega) |>.trans ?_)
  omega
theorem lz_m {P5 P4 : Nat} (h5 : P5 ≤ 64) (h4 : P4 < 7) : Int64.toInt32 (if Int32.ofNat P4 = (6 : Int32) then (Int32.toInt64 (Int32.ofNat P5)) else ((((Int32.toInt64 (Int32.ofNat P5)) * (Int32.toInt64 (if Int32.ofNat P4 = (0 : Int32) then (0 : Int32) else (if (5 : Int32) < Int32.ofNat P4 then (0 : Int32) else (if Int32.ofNat P4 = (1 : Int32) then (1 : Int32) else (il (4 : Int32) (Int32.ofNat P4 - (1 : Int32)))))))) + (63 : Int64)) / (64 : Int64))) = Int32.ofNat ((P5 * ebn P4 + 63) / 64) := by
  by_cases c : P4 = 6
  · rw [if_pos (by rw [c]; rfl), titl, c]
    show _ = Int32.ofNat ((P5 * 64 + 63) / 64)
    rw [show (P5 * 64 + 63) / 64 = P5 by omega]
  · have c6 : ¬ (Int32.ofNat P4 = (6 : Int32)) := fun z => c ((oi_eq (b := 6) (by omega) (by omega)).mp z)
    rw [if_neg c6, bit_c (c := P4) (by omega) _ (oi_i (by omega)), if_pos (show P4 ≤ 5 by omega)]
    have e := lz_c h5 (show P4 < 8 by omega)
    rw [oi_n (by omega), eq_of (eb_n (n := P4) (by omega))] at e
    exact e
theorem lz_7 {m : Nat} (h : m ≤ 100000) : Int64.toInt32 ((Int32.toInt64 (Int32.ofNat m)) + (1 : Int64)) = Int32.ofNat (m + 1) := by
  have e := ja2 ((tl (Int32.ofNat m)).trans (oi_i (by omega))) (show (1 : Int64).toInt = 1 from rfl) (by omega) (by omega)
  refine eq_of ((ti2 e (by omega) (by omega)).trans (by omega))
set_option maxRecDepth 20000 in
theorem s_list {X : pm_X} (hX : X 1 = (8, eb)) {d : Nat} {I : st_I} {J : st_J} {p1 p2 p3 p4 p5 p6 p7 : Int32} (h : RR I J) : StpI X (d + 7) 109 [.ref 0, .int p1, .int p2, .int p3, .int p4, .int p5, .int p6, .int p7, .ref 187] 215 [.ref 166, .int p1, .int p2, .int p3, .int p4, .int p5, .int p6, .int p7] I J := by
  have hown := own_c h.2.1
  by_cases c : (0 ≤ p1.toInt ∧ p1.toInt ≤ 15) ∧ (-1 ≤ p2.toInt ∧ p2.toInt ≤ 15) ∧ (0 ≤ p4.toInt ∧ p4.toInt ≤ 7) ∧ (0 ≤ p5.toInt ∧ p5.toInt ≤ 64) ∧ (p4 = 7 → (0 ≤ p6.toInt ∧ p6.toInt ≤ 8) ∧ (0 ≤ p7.toInt ∧ p7.toInt ≤ 8)) ∧ ¬ I 166 11 = 0
  · obtain ⟨c1, c2, c4, c5, c6, ho⟩ := c
    have hC1 : ¬ ((¬ ((¬ (p1 < (0 : Int32))) ∧ (p1 < (16 : Int32)))) ∨ ((¬ ((p2 = (-1 : Int32)) ∨ ((¬ (p2 < (0 : Int32))) ∧ (p2 < (16 : Int32))))) ∨ ((¬ ((¬ (p4 < (0 : Int32))) ∧ (¬ ((7 : Int32) < p4)))) ∨ (¬ ((¬ (p5 < (0 : Int32))) ∧ (¬ ((64 : Int32) < p5))))))) := fun q => by
      rcases q with q | q | q | q
      · exact q (cI_c.mpr c1)
      · exact q (src_c.mpr c2)
      · exact q ((in_c rfl).mpr c4)
      · exact q ((in_c rfl).mpr c5)
    have hC2 : ¬ ((p4 = (7 : Int32)) ∧ ((¬ ((¬ (p6 < (0 : Int32))) ∧ (¬ ((8 : Int32) < p6)))) ∨ (¬ ((¬ (p7 < (0 : Int32))) ∧ (¬ ((8 : Int32) < p7)))))) := fun q => by
      obtain ⟨q1, q | q⟩ := q
      · exact q ((in_c rfl).mpr (c6 q1).1)
      · exact q ((in_c rfl).mpr (c6 q1).2)
    have hC3 : (0 : Int32) < (I 1 3) := Decidable.byContradiction fun q => ho (hown.mp q)
    have hM : ∀ I1 : st_I, I1 166 11 = I 166 11 → ¬ ((¬ ((¬ ((Int32.toInt64 p1) < (0 : Int64))) ∧ (¬ ((15 : Int64) < (Int32.toInt64 p1))))) ∨ ((¬ ((¬ ((Int32.toInt64 p2) < (-1 : Int64))) ∧ (¬ ((15 : Int64) < (Int32.toInt64 p2))))) ∨ ((¬ ((¬ ((Int32.toInt64 p4) < (0 : Int64))) ∧ (¬ ((7 : Int64) < (Int32.toInt64 p4))))) ∨ ((¬ ((¬ ((Int32.toInt64 p5) < (0 : Int64))) ∧ (¬ ((64 : Int64) < (Int32.toInt64 p5))))) ∨ (((p4 = (7 : Int32)) ∧ ((¬ ((¬ ((Int32.toInt64 p6) < (0 : Int64))) ∧ (¬ ((8 : Int64) < (Int32.toInt64 p6))))) ∨ ((¬ ((¬ ((Int32.toInt64 p7) < (0 : Int64))) ∧ (¬ ((8 : Int64) < (Int32.toInt64 p7))))) ∨ ((I1 166 11) = (0 : Int32))))) ∨ ((¬ (p4 = (7 : Int32))) ∧ ((I1 166 11) = (0 : Int32)))))))) := fun I1 e q => by
      rcases q with q | q | q | q | ⟨q1, q | q | q⟩ | ⟨q1, q⟩
      · exact q (cI_m.mpr c1)
      · exact q (src_m.mpr c2)
      · exact q ((in_m rfl).mpr c4)
      · exact q ((in_m rfl).mpr c5)
      · exact q ((in_m rfl).mpr (c6 q1).1)
      · exact q ((in_m rfl).mpr (c6 q1).2)
      · exact ho (e.symm.trans q)
      · exact ho (e.symm.trans q)
    obtain ⟨k1, k2, k3⟩ := c16_i c1.1 c1.2
    have eq0 : ∀ a f, ¬ (a = 166 ∧ f = 10) → (st_w I 166 10 0) a f = I a f := fun a f q => by rw [st_w_e, if_neg q]
    rcases srcs (X := X) (d := d + 3) (p3 := p3) (J := J) h c2 with ⟨s, k, hs, hk, hin, hA, eS, eK, hp, hR⟩ | ⟨hK, hE⟩ | ⟨hB, hE⟩
    · obtain ⟨P5, rfl, h5⟩ := p_nat (m := 64) c5.1 c5.2
      unfold srcS at eS
      unfold srcK at eK
      obtain ⟨e7, e170, e12, e6, e13, e9, S1, S4, Z1, Z64, h0⟩ := own_f h ho
      by_cases t7 : p4 = 7
      · have c67 := c6 t7
        subst t7
        obtain ⟨P6, rfl, h6⟩ := p_nat (m := 8) c67.1.1 c67.1.2
        obtain ⟨P7, rfl, h7⟩ := p_nat (m := 8) c67.2.1 c67.2.2
        have hm : P5 * (P6 + P7) ≤ 64 * 16 := Nat.mul_le_mul h5 (by omega)
        have em : Int32.ofNat P5 * (Int32.ofNat P6 + Int32.ofNat P7) = Int32.ofNat (P5 * (P6 + P7)) := by rw [oi_p, oi_mu]
        have e64 : P5 * (P6 * 64 + 64 * P7) = 64 * (P5 * (P6 + P7)) := by rw [show P6 * 64 + 64 * P7 = 64 * (P6 + P7) by omega, Nat.mul_left_comm]
        generalize hQ : P5 * (P6 + P7) = Q at *
        obtain ⟨W, hW⟩ : ∃ W, W = ((1 : Int64) ||| (jl (Int32.toInt64 (7 : Int32)) (32 : Int32))) ||| (jl (Int32.toInt64 (Int32.ofNat Q)) (35 : Int32)) := ⟨_, rfl⟩
        have hlo : wn W % 2 ^ 32 < 4 := by rw [hW, lw_lo]; omega
        have h3 : ¬ (Q + 1 = 0 ∧ (W &&& 3) = 0) := fun q => by omega
        have en : Int64.toInt32 (if (7 : Int32) = (7 : Int32) then ((Int32.toInt64 (if (7 : Int32) = (7 : Int32) then (Int32.ofNat P5 * (Int32.ofNat P6 + Int32.ofNat P7)) else Int32.ofNat P5)) + (1 : Int64)) else (if (7 : Int32) = (6 : Int32) then (Int32.toInt64 (if (7 : Int32) = (7 : Int32) then (Int32.ofNat P5 * (Int32.ofNat P6 + Int32.ofNat P7)) else Int32.ofNat P5)) else ((((Int32.toInt64 (if (7 : Int32) = (7 : Int32) then (Int32.ofNat P5 * (Int32.ofNat P6 + Int32.ofNat P7)) else Int32.ofNat P5)) * (Int32.toInt64 (if (7 : Int32) = (0 : Int32) then (0 : Int32) else (if (5 : Int32) < (7 : Int32) then (0 : Int32) else (if (7 : Int32) = (1 : Int32) then (1 : Int32) else (il (4 : Int32) ((7 : Int32) - (1 : Int32)))))))) + (63 : Int64)) / (64 : Int64)))) = Int32.ofNat (Q + 1) := by
          rw [if_pos rfl, if_pos rfl, em]
          exact lz_7 (by omega)
        have ew : (if (7 : Int32) = (7 : Int32) then (Int32.ofNat P5 * (Int32.ofNat P6 + Int32.ofNat P7)) else Int32.ofNat P5) = Int32.ofNat Q := by rw [if_pos rfl, em]
        cases hal : al (un (I 7)) (I 1 2).toNatClampNeg (I 1 3).toNatClampNeg s (Q + 1) with
        | none =>
          refine ⟨I, J, 3, 1, 6, iv_L_list hX _ (ifn hC1 (ifn hC2 (ifp hC3 (hA _ _ _ (ifp rfl ⟨hp, ?_⟩))))), by omega, by omega, st_w (st_w I 166 10 0) 166 10 3, J, 0, iv_M_list (d := d + 3) (K := st_w (st_w I 166 10 0) 166 10 3) (L := J) (b := -1) _ (ifn (hM _ rfl) ⟨?_, ifn (by rw [st_w_at]; decide) rfl⟩), e_o _ _ _, fun h => absurd h (by decide), RR_ee h (fun _ _ _ => rfl)⟩
          · rw [eS, eK, em, oi_a, alo_n hs hk (by omega) hal]
            exact ⟨alk_ok h ho hs hk (by omega), rfl⟩
          · rw [en, ew]
            exact rf_no h ho hs hk (by omega) (fun q => by omega) hal hR
        | some v =>
          have hv := al_4 h0 hs Z64 hal
          obtain ⟨z, hz⟩ : ∃ z : V9, z = (2, 64, v.2.1, v.2.2.1, 0, P6 * 64, P7, P5, 7) := ⟨_, rfl⟩
          obtain ⟨T, hT⟩ : ∃ T, T = ((jl (Int32.toInt64 (Int32.ofNat P5)) (2 : Int32)) ||| (jl (Int32.toInt64 (Int32.ofNat P6)) (32 : Int32))) ||| (jl (Int32.toInt64 (Int32.ofNat P7)) (48 : Int32)) := ⟨_, rfl⟩
          have hT' := tg_e (a := P5) (b := P6) (c := P7) (by omega)
          unfold nrw at hT'
          refine ⟨bI I v (Q + 1) p1.toNatClampNeg z, st_y (st_y (aJ J v s k W) (3 + v.2.1) v.2.2.1 T) 187 0 (Int32.toInt64 2), 0, 0, 0, iv_L_list hX _ (ifn hC1 (ifn hC2 (ifp hC3 (hA _ _ _ (ifp rfl ⟨hp, ?_⟩))))), by omega, by omega, bM I v (Q + 1) p1.toNatClampNeg z, st_y (mJ (st_y (st_y (aJ J v s k W) (3 + v.2.1) v.2.2.1 T) 187 0 (Int32.toInt64 2)) v s k W) 167 (64 * v.2.1 + v.2.2.1) T, 2, iv_M_list (d := d + 3) (K := mU (st_w (bI I v (Q + 1) p1.toNatClampNeg z) 166 10 0) v (Q + 1)) (L := mJ (st_y (st_y (aJ J v s k W) (3 + v.2.1) v.2.2.1 T) 187 0 (Int32.toInt64 2)) v s k W) (b := Int32.ofNat (128 * v.2.1 + v.2.2.1)) _ (ifn (hM _ (bI_o (by omega) (by omega) (by omega) (by omega))) ⟨?_, ifp (by rw [mU_o _ v _ (by omega) (by omega)]; exact st_w_at _ _ _ _) ⟨k3, ifp rfl ⟨?_, ?_⟩⟩⟩), ?_, fun _ => ?_, ?_⟩
          · rw [eS, eK, em, oi_a, ← hW, alo_s hs hk (by omega) hal]
            refine ⟨alk_ok h ho hs hk (by omega), ?_⟩
            show _ ∧ _ ∧ _ ∧ _
            dsimp only
            rw [aI_90, aI_91, sp_13, show Int32.ofNat P6 * (64 : Int32) = Int32.ofNat (P6 * 64) from oi_mu P6 64, hT', ← hT, oi_n (i := v.2.1) (by omega), oi_n (i := v.2.2.1) (by omega), hz]
            exact ⟨oi_in hv.1 (by omega), oi_in (by omega) (by omega), k2, rfl⟩
          · rw [en, ew, ← hW]
            exact rf_ok h ho k1 hs hk (by omega) (fun q => by omega) hal hR
          · rw [oi_d128 hv.1 (by omega), oi_r128 hv.1 (by omega), oi_64 (by omega) (by omega)]
            exact oi_in (by omega) (by omega)
          · rw [oi_d128 hv.1 (by omega), oi_r128 hv.1 (by omega), oi_64 (by omega) (by omega), oi_n (by omega), ← hT, st_cq_0, st_cq_w _ _ _ _ _ (by omega) (by omega), st_cq_w _ _ _ _ _ (by omega) (by omega), st_cq_w _ _ _ _ _ (by omega) (by omega), st_cq_w _ _ _ _ _ (by omega) (by omega), st_cq_w _ _ _ _ _ (by omega) (by omega), st_cq_w _ _ _ _ _ (by omega) (by omega), st_cq_w _ _ _ _ _ (by omega) (by omega), st_cq_w _ _ _ _ _ (by omega) (by omega)]
            congr 2
            congr 1
            rw [hz]
            exact st_cq_c _ _ (st_cq_a rfl rfl rfl (by show Int32.ofNat (64 * v.2.2.1 + 0) = (64 : Int32) * Int32.ofNat v.2.2.1; rw [show (64 : Int32) = Int32.ofNat 64 from rfl, oi_mu]; rfl) rfl rfl rfl rfl (by show Int32.ofNat (P6 * 64 / 64) = Int32.ofNat P6; rw [Nat.mul_div_cancel _ (by omega)]) rfl)
          · unfold bM st_cq
            rw [if_neg (by omega), mU_o _ v _ (by omega) (by omega)]
            exact st_w_at _ _ _ _
          · rw [st_y_e, if_neg (by omega), mJ_o (by omega), y_o]
          · refine RR_bld h ho k1 hs hin hal (fun U' q1 q2 q3 => ?_) (al_WT hlo hal h0 Z64 hs hk hin (by omega) h.1.2.2.2.2.1)
            rw [hz]
            refine ⟨by omega, q1, by omega, by omega, Or.inr (Or.inr ⟨rfl, rfl, by omega, Or.inr (Or.inr ⟨rfl, by omega, ?_, by omega, by omega⟩)⟩)⟩
            rw [e64]
            omega
      · obtain ⟨P4, rfl, h4⟩ := p_nat (m := 7) c4.1 c4.2
        have h4' : P4 < 7 := by
          by_cases q : P4 = 7
          · rw [q] at t7; exact absurd rfl t7
          · omega
        have hb := ebn_le P4
        have hm : P5 * ebn P4 ≤ 64 * 64 := Nat.mul_le_mul h5 hb
        obtain ⟨Q, hQ⟩ : ∃ Q, Q = (P5 * ebn P4 + 63) / 64 := ⟨_, rfl⟩
        obtain ⟨W, hW⟩ : ∃ W, W = ((1 : Int64) ||| (jl (Int32.toInt64 (Int32.ofNat P4)) (32 : Int32))) ||| (jl (Int32.toInt64 (Int32.ofNat P5)) (35 : Int32)) := ⟨_, rfl⟩
        have hlo : wn W % 2 ^ 32 < 4 := by rw [hW, lw_lo]; omega
        have h3 : ¬ (Q = 0 ∧ (W &&& 3) = 0) := fun q => lw_3 (Int32.toInt64 (Int32.ofNat P4)) (Int32.toInt64 (Int32.ofNat P5)) (by rw [← hW]; exact q.2)
        have ec := lz_c h5 (show P4 < 8 by omega)
        rw [← hQ] at ec
        have em := lz_m h5 h4'
        rw [← hQ] at em
        have ew : (if Int32.ofNat P4 = (7 : Int32) then (Int32.ofNat P5 * (p6 + p7)) else Int32.ofNat P5) = Int32.ofNat P5 := if_neg t7
        cases hal : al (un (I 7)) (I 1 2).toNatClampNeg (I 1 3).toNatClampNeg s Q with
        | none =>
          refine ⟨I, J, 3, 1, 6, iv_L_list hX _ (ifn hC1 (ifn hC2 (ifp hC3 (hA _ _ _ (ifn t7 ⟨hp, ?_⟩))))), by omega, by omega, st_w (st_w I 166 10 0) 166 10 3, J, 0, iv_M_list (d := d + 3) (K := st_w (st_w I 166 10 0) 166 10 3) (L := J) (b := -1) _ (ifn (hM _ rfl) ⟨?_, ifn (by rw [st_w_at]; decide) rfl⟩), e_o _ _ _, fun h => absurd h (by decide), RR_ee h (fun _ _ _ => rfl)⟩
          · rw [eS, eK, ec, alo_n hs hk (by omega) hal]
            exact ⟨oi_in (by omega) (by omega), alk_ok h ho hs hk (by omega), rfl⟩
          · rw [ew, if_neg t7, em, ← hW]
            exact rf_no h ho hs hk (by omega) h3 hal hR
        | some v =>
          have hv := al_4 h0 hs Z64 hal
          obtain ⟨z, hz⟩ : ∃ z : V9, z = (2, 64, v.2.1, v.2.2.1, 0, (if P4 ≤ 5 then ebn P4 else 0), (if P4 = 6 then 1 else 0), P5, P4) := ⟨_, rfl⟩
          refine ⟨bI I v Q p1.toNatClampNeg z, st_y (aJ J v s k W) 187 0 (Int32.toInt64 2), 0, 0, 0, iv_L_list hX _ (ifn hC1 (ifn hC2 (ifp hC3 (hA _ _ _ (ifn t7 ⟨hp, ?_⟩))))), by omega, by omega, bM I v Q p1.toNatClampNeg z, mJ (st_y (aJ J v s k W) 187 0 (Int32.toInt64 2)) v s k W, 2, iv_M_list (d := d + 3) (K := mU (st_w (bI I v Q p1.toNatClampNeg z) 166 10 0) v Q) (L := mJ (st_y (aJ J v s k W) 187 0 (Int32.toInt64 2)) v s k W) (b := Int32.ofNat (128 * v.2.1 + v.2.2.1)) _ (ifn (hM _ (bI_o (by omega) (by omega) (by omega) (by omega))) ⟨?_, ifp (by rw [mU_o _ v _ (by omega) (by omega)]; exact st_w_at _ _ _ _) ⟨k3, ifn t7 ?_⟩⟩), ?_, fun _ => ?_, ?_⟩
          · rw [eS, eK, ec, ← hW, alo_s hs hk (by omega) hal]
            refine ⟨oi_in (by omega) (by omega), alk_ok h ho hs hk (by omega), k2, ?_⟩
            dsimp only
            have hbz : bz (Int32.ofNat P4 = (6 : Int32)) = Int32.ofNat (if P4 = 6 then 1 else 0) := by
              by_cases q : P4 = 6
              · rw [if_pos q, bz_t (by rw [q]; rfl)]; rfl
              · have q6 : ¬ (Int32.ofNat P4 = (6 : Int32)) := fun z => q ((oi_eq (b := 6) (by omega) (by omega)).mp z)
                rw [if_neg q, bz_f q6]; rfl
            by_cases q5 : P4 ≤ 5
            · refine ifn (by rw [show (5 : Int32) = Int32.ofNat 5 from rfl, oi_lt (by omega) (by omega)]; omega) ?_
              rw [aI_90, aI_91, sp_13, hbz, oi_n (i := P4) (by omega), eq_of (eb_n (n := P4) (by omega)), hz, if_pos q5]
              rfl
            · refine ifp (by rw [show (5 : Int32) = Int32.ofNat 5 from rfl, oi_lt (by omega) (by omega)]; omega) ?_
              rw [aI_90, aI_91, sp_13, hbz, hz, if_neg q5]
              rfl
          · rw [ew, if_neg t7, em, ← hW]
            exact rf_ok h ho k1 hs hk (by omega) h3 hal hR
          · rw [oi_d128 hv.1 (by omega), oi_r128 hv.1 (by omega), st_cq_0, st_cq_w _ _ _ _ _ (by omega) (by omega), st_cq_w _ _ _ _ _ (by omega) (by omega), st_cq_w _ _ _ _ _ (by omega) (by omega), st_cq_w _ _ _ _ _ (by omega) (by omega), st_cq_w _ _ _ _ _ (by omega) (by omega), st_cq_w _ _ _ _ _ (by omega) (by omega)]
            congr 2
            congr 1
            rw [hz]
            have n7 : ¬ ((2 : Nat) = 2 ∧ P4 = 7) := by omega
            exact st_cq_c _ _ (st_cq_a rfl rfl rfl (by show Int32.ofNat (64 * v.2.2.1 + 0) = (64 : Int32) * Int32.ofNat v.2.2.1; rw [show (64 : Int32) = Int32.ofNat 64 from rfl, oi_mu]; rfl) rfl rfl rfl rfl (if_neg n7) (if_neg n7))
          · unfold bM st_cq
            rw [if_neg (by omega), mU_o _ v _ (by omega) (by omega)]
            exact st_w_at _ _ _ _
          · rw [mJ_o (by omega), y_o]
          · refine RR_bld h ho k1 hs hin hal (fun U' q1 q2 q3 => ?_) (al_WW hlo hal h0 Z64 hs hk hin h.1.2.2.2.2.1)
            rw [hz]
            refine ⟨by omega, q1, by omega, by omega, Or.inr (Or.inr ⟨rfl, rfl, by omega, ?_⟩)⟩
            by_cases q5 : P4 ≤ 5
            · refine Or.inl ⟨q5, if_pos q5, if_neg (by omega), ?_⟩
              rw [if_pos q5]
              generalize P5 * ebn P4 = y at *
              omega
            · have q6 : P4 = 6 := by omega
              refine Or.inr (Or.inl ⟨q6, if_neg q5, if_pos q6, ?_⟩)
              rw [q6, show ebn 6 = 64 from rfl] at hQ
              omega
    · exact ⟨I, J, 2, 1, 6, iv_L_list hX _ (ifn hC1 (ifn hC2 (ifp hC3 (hK _ _ _ rfl)))), by omega, by omega, st_w (st_w I 166 10 0) 166 10 2, J, 0, iv_M_list (d := d + 3) (K := st_w (st_w I 166 10 0) 166 10 2) (L := J) (b := -1) _ (ifn (hM _ rfl) ⟨hE _ _ (fun a c' q1 q2 q3 q4 => eq0 a c' (by omega)) (st_w_at _ _ _ _) _ _, ifn (by rw [st_w_at]; decide) rfl⟩), e_o _ _ _, fun h => absurd h (by decide), RR_ee h (fun _ _ _ => rfl)⟩
    · exact ⟨I, J, 1, 1, 6, iv_L_list hX _ (ifn hC1 (ifn hC2 (ifp hC3 (hB _ _ _ rfl)))), by omega, by omega, st_w (st_w I 166 10 0) 166 10 1, J, 0, iv_M_list (d := d + 3) (K := st_w (st_w I 166 10 0) 166 10 1) (L := J) (b := -1) _ (ifn (hM _ rfl) ⟨hE _ _ (fun a c' q1 q2 q3 q4 => eq0 a c' (by omega)) (st_w_at _ _ _ _) _ _, ifn (by rw [st_w_at]; decide) rfl⟩), e_o _ _ _, fun h => absurd h (by decide), RR_ee h (fun _ _ _ => rfl)⟩
  · refine ⟨I, J, 1, 1, 6, iv_L_list hX _ ?_, by omega, by omega, st_w (st_w I 166 10 0) 166 10 1, J, 0, iv_M_list (d := d + 3) (K := I) (L := J) (b := -1) _ (ifp ?_ rfl), e_o _ _ _, fun h => absurd h (by decide), RR_ee h (fun _ _ _ => rfl)⟩
    · by_cases q1 : 0 ≤ p1.toInt ∧ p1.toInt ≤ 15
      · by_cases q2 : -1 ≤ p2.toInt ∧ p2.toInt ≤ 15
        · by_cases q3 : 0 ≤ p4.toInt ∧ p4.toInt ≤ 7
          · by_cases q4 : 0 ≤ p5.toInt ∧ p5.toInt ≤ 64
            · refine ifn (fun q => ?_) ?_
              · rcases q with q | q | q | q
                · exact q (cI_c.mpr q1)
                · exact q (src_c.mpr q2)
                · exact q ((in_c rfl).mpr q3)
                · exact q ((in_c rfl).mpr q4)
              · by_cases q5 : p4 = 7 → (0 ≤ p6.toInt ∧ p6.toInt ≤ 8) ∧ (0 ≤ p7.toInt ∧ p7.toInt ≤ 8)
                · refine ifn (fun q => ?_) (ifn (hown.mpr (Decidable.byContradiction fun q => c ⟨q1, q2, q3, q4, q5, q⟩)) rfl)
                  obtain ⟨q0, q | q⟩ := q
                  · exact q ((in_c rfl).mpr (q5 q0).1)
                  · exact q ((in_c rfl).mpr (q5 q0).2)
                · have t7 : p4 = 7 := Decidable.byContradiction fun q => q5 fun z => absurd z q
                  refine ifp ⟨t7, ?_⟩ rfl
                  by_cases q6 : 0 ≤ p6.toInt ∧ p6.toInt ≤ 8
                  · exact Or.inr fun q => q5 fun _ => ⟨q6, (in_c rfl).mp q⟩
                  · exact Or.inl fun q => q6 ((in_c rfl).mp q)
            · exact ifp (Or.inr (Or.inr (Or.inr fun q => q4 ((in_c rfl).mp q)))) rfl
          · exact ifp (Or.inr (Or.inr (Or.inl fun q => q3 ((in_c rfl).mp q)))) rfl
        · exact ifp (Or.inr (Or.inl fun q => q2 (src_c.mp q))) rfl
      · exact ifp (Or.inl fun q => q1 (cI_c.mp q)) rfl
    · by_cases q1 : 0 ≤ p1.toInt ∧ p1.toInt ≤ 15
      · by_cases q2 : -1 ≤ p2.toInt ∧ p2.toInt ≤ 15
        · by_cases q3 : 0 ≤ p4.toInt ∧ p4.toInt ≤ 7
          · by_cases q4 : 0 ≤ p5.toInt ∧ p5.toInt ≤ 64
            · refine Or.inr (Or.inr (Or.inr (Or.inr ?_)))
              by_cases t7 : p4 = 7
              · refine Or.inl ⟨t7, ?_⟩
                by_cases q5 : 0 ≤ p6.toInt ∧ p6.toInt ≤ 8
                · by_cases q6 : 0 ≤ p7.toInt ∧ p7.toInt ≤ 8
                  · exact Or.inr (Or.inr (Decidable.byContradiction fun q => c ⟨q1, q2, q3, q4, fun _ => ⟨q5, q6⟩, q⟩))
                  · exact Or.inr (Or.inl fun q => q6 ((in_m rfl).mp q))
                · exact Or.inl fun q => q5 ((in_m rfl).mp q)
              · exact Or.inr ⟨t7, Decidable.byContradiction fun q => c ⟨q1, q2, q3, q4, fun z => absurd z t7, q⟩⟩
            · exact Or.inr (Or.inr (Or.inr (Or.inl fun q => q4 ((in_m rfl).mp q))))
          · exact Or.inr (Or.inr (Or.inl fun q => q3 ((in_m rfl).mp q)))
        · exact Or.inr (Or.inl fun q => q2 (src_m.mp q))
      · exact Or.inl fun q => q1 (cI_m.mp q)
