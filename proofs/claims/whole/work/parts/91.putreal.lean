/-! putReal -/
set_option maxRecDepth 20000 in
theorem s_putReal {X : pm_X} {d : Nat} {I : st_I} {J : st_J} {p1 p2 p3 : Int32} {p4 : UInt64} (h : RR I J) (hv : rlk p4) : StpV X (d + 6) 118 [.ref 0, .int p1, .int p2, .int p3, .double p4] 218 [.ref 166, .int p1, .int p2, .int p3, .double p4] I J := by
  have hw := h.1.1
  have hown := own_c h.2.1
  by_cases c : (0 ≤ p1.toInt ∧ p1.toInt ≤ 15) ∧ 0 ≤ p3.toInt ∧ ¬ (I 166 11 = 0)
  · obtain ⟨k1, k2, k3⟩ := c16_i c.1.1 c.1.2
    obtain ⟨W, hW⟩ : ∃ W, (if p2 = (0 : Int32) then (32 : Int32) else (64 : Int32)) = W := ⟨_, rfl⟩
    have hiW : isW W := by
      rw [← hW]
      split
      · exact Or.inr (Or.inr (Or.inr (Or.inl rfl)))
      · exact Or.inr (Or.inr (Or.inr (Or.inr rfl)))
    obtain ⟨e1, e2, ep2, en2⟩ := isW_b hiW
    have hn := cln c.2.1
    have ep3 := oi_of c.2.1
    have hC : ¬ ((¬ ((¬ (p1 < (0 : Int32))) ∧ (p1 < (16 : Int32)))) ∨ ((p3 < (0 : Int32)) ∨ (¬ ((0 : Int32) < (I 1 3))))) := fun q => by
      rcases q with q | q | q
      · exact q (cI_c.mpr c.1)
      · rw [i32_lt, i0] at q; omega
      · exact c.2.2 (hown.mp q)
    have hM : ¬ ((¬ ((¬ ((Int32.toInt64 p1) < (0 : Int64))) ∧ (¬ ((15 : Int64) < (Int32.toInt64 p1))))) ∨ ((p3 < (0 : Int32)) ∨ ((I 166 11) = (0 : Int32)))) := fun q => by
      rcases q with q | q | q
      · exact q (cI_m.mpr c.1)
      · rw [i32_lt, i0] at q; omega
      · exact c.2.2 q
    obtain ⟨⟨kd, dp, sg, pl, sh, db, pt, ct, cd⟩, hs9, hm9, hvk⟩ := h.2.2.2 p1.toNatClampNeg k1
    have g0 : I (150 + p1.toNatClampNeg) 0 = Int32.ofNat kd := hs9 0 (by omega)
    have g2 : I (150 + p1.toNatClampNeg) 2 = Int32.ofNat sg := hs9 2 (by omega)
    have g3 : I (150 + p1.toNatClampNeg) 3 = Int32.ofNat pl := hs9 3 (by omega)
    have g4 : I (150 + p1.toNatClampNeg) 4 = Int32.ofNat sh := hs9 4 (by omega)
    have g5 : I (150 + p1.toNatClampNeg) 5 = Int32.ofNat db := hs9 5 (by omega)
    have q173 : I 173 p1.toNatClampNeg = Int32.ofNat kd := hm9 173 (by omega) (by omega)
    have q175 : I 175 p1.toNatClampNeg = Int32.ofNat sg := hm9 175 (by omega) (by omega)
    have q176 : I 176 p1.toNatClampNeg = Int32.ofNat (64 * pl + sh) := hm9 176 (by omega) (by omega)
    have q177 : I 177 p1.toNatClampNeg = if kd = 1 then Int32.ofNat db else 0 := hm9 177 (by omega) (by omega)
    have hUs := hw.2.1 sg hvk.2.1
    have hUn := un_i hUs.1
    obtain ⟨w0, w1, w2, w3, w4, w5, w6, w7, w8⟩ := vk_b hvk (by omega)
    have hcase := hvk.2.2.2.2
    have kk1 : (Int32.ofNat kd = 1) ↔ kd = 1 := oi_eq (b := 1) (by omega) (by omega)
    have kk2 : (Int32.ofNat kd = 2) ↔ kd = 2 := oi_eq (b := 2) (by omega) (by omega)
    by_cases z1 : kd = 1
    · have hl1 : I (150 + p1.toNatClampNeg) 0 = 1 := by rw [g0]; exact kk1.mpr z1
      have hl2 : ¬ (I (150 + p1.toNatClampNeg) 0 = 2) := by rw [g0]; exact fun z => by have := kk2.mp z; omega
      have hm1 : I 173 p1.toNatClampNeg = 1 := by rw [q173]; exact kk1.mpr z1
      have hmul : ((Int32.toInt64 p3 + 1) * Int32.toInt64 W).toInt = (((p3.toNatClampNeg + 1) * W.toNatClampNeg : Nat) : Int) := by
        have hb : (p3.toNatClampNeg + 1) * W.toNatClampNeg ≤ 2147483648 * 64 := Nat.mul_le_mul (by have := p3.toInt_lt; omega) (by omega)
        have e : (((p3.toNatClampNeg + 1) * W.toNatClampNeg : Nat) : Int) = (p3.toInt + 1) * W.toInt := by
          rw [Int.natCast_mul, Int.natCast_add, hn, en2]
          rfl
        rw [e]
        refine jm2 (ja2 (tl p3) (show (1 : Int64).toInt = 1 from rfl) ?_ ?_) (tl W) ?_ ?_
        · have := p3.toInt_lt; omega
        · have := p3.toInt_lt; omega
        · rw [← e]; omega
        · rw [← e]; omega
      have okC : (¬ ((Int32.toInt64 (I (150 + p1.toNatClampNeg) 5)) < ((Int32.toInt64 p3 + 1) * Int32.toInt64 W))) ↔ (p3.toNatClampNeg + 1) * W.toNatClampNeg ≤ db := by
        rw [g5, i64_lt, tl, hmul, oi_i (by omega)]
        omega
      have okM : (¬ ((Int32.toInt64 (I 177 p1.toNatClampNeg)) < ((Int32.toInt64 p3 + 1) * Int32.toInt64 W))) ↔ (p3.toNatClampNeg + 1) * W.toNatClampNeg ≤ db := by
        rw [q177, if_pos z1, i64_lt, tl, hmul, oi_i (by omega)]
        omega
      by_cases d2 : (p3.toNatClampNeg + 1) * W.toNatClampNeg ≤ db
      · obtain ⟨B, hB⟩ : ∃ B, B = 64 * pl + sh + p3.toNatClampNeg * W.toNatClampNeg := ⟨_, rfl⟩
        have hB4 : B < 4096 := by
          rw [Nat.succ_mul] at d2
          omega
        have bC : I (150 + p1.toNatClampNeg) 3 * 64 + I (150 + p1.toNatClampNeg) 4 + p3 * W = Int32.ofNat B := by
          rw [g3, g4, show (64 : Int32) = Int32.ofNat 64 from rfl, oi_mu, oi_p]
          conv => lhs; rw [ep3, ep2]
          rw [oi_mu, oi_p, hB, Nat.mul_comm pl 64]
        have bM : I 176 p1.toNatClampNeg + p3 * W = Int32.ofNat B := by
          rw [q176]
          conv => lhs; rw [ep3, ep2]
          rw [oi_mu, oi_p, hB]
        obtain ⟨V, hV⟩ : ∃ V, V = ((J (3 + sg) (B / 64)) &&& ((jl (on_ W) (irm (Int32.ofNat B) 64)) ^^^ (-1))) ||| ((jl (rlv p4 p2) (irm (Int32.ofNat B) 64)) &&& (jl (on_ W) (irm (Int32.ofNat B) 64))) := ⟨_, rfl⟩
        have hw1 : (st_y J (3 + sg) (B / 64) V) 167 (64 * sg + B / 64) = J (3 + sg) (B / 64) := by
          rw [st_y_e, if_neg (by omega)]
          exact h.1.2.2.2.2.1 sg (B / 64) w2 (by omega)
        refine ⟨I, st_y J (3 + sg) (B / 64) V, 0, 0, 0, iv_L_putReal _ ?_, by omega, by omega, st_w I 166 10 0, st_y (st_y J (3 + sg) (B / 64) V) 167 (64 * sg + B / 64) V, iv_M_putReal (d := d + 3) _ ?_, e_1 _ _, RR_wd h w2 (by omega)⟩
        · rw [if_neg hC]
          refine ⟨k2, ?_⟩
          rw [if_pos hl1, hW, if_pos (Or.inr ⟨hl2, okC.mpr d2⟩), bC, g2]
          refine ⟨hv, oi_in w2 (by omega), bit_j hB4, ?_⟩
          rw [bit_c_ (J := J) w2 hB4, oi_n (by omega), oi_d (by omega), oi_n (by omega), hV]
          rfl
        · rw [if_neg hM]
          refine ⟨k3, ?_⟩
          rw [if_pos hm1, hW, if_pos ⟨hm1, okM.mpr d2⟩, bM, q175, on_eq e2]
          by_cases c0 : p2 = 0
          · rw [if_pos c0]
            refine ⟨rlk_32 hv, rln_64 (rln_f hv), ⟨rln_f hv, Or.inl rfl⟩, bit_k w2 hB4, ?_⟩
            rw [oi_d (by omega), oi_64 (by omega) (by omega), oi_n (by omega), hw1, bw_sh, show rmv (FP.f2d (FP.d2f p4)) 23 8 = rlv p4 p2 from (if_pos c0).symm, ← hV]
          · rw [if_neg c0]
            refine ⟨⟨rlk_n hv, Or.inr rfl⟩, bit_k w2 hB4, ?_⟩
            rw [oi_d (by omega), oi_64 (by omega) (by omega), oi_n (by omega), hw1, bw_sh, show rmv p4 52 11 = rlv p4 p2 from (if_neg c0).symm, ← hV]
      · refine ⟨I, J, 1, 1, 6, iv_L_putReal _ ?_, by omega, by omega, st_w (st_w I 166 10 0) 166 10 1, J, iv_M_putReal (d := d + 3) _ ?_, e_o _ _ _, RR_ee h (fun _ _ _ => rfl)⟩
        · rw [if_neg hC]
          refine ⟨k2, ?_⟩
          rw [if_pos hl1, hW, if_neg (fun q => q.elim (fun q => hl2 q.1) (fun q => d2 (okC.mp q.2)))]
        · rw [if_neg hM]
          refine ⟨k3, ?_⟩
          rw [if_pos hm1, hW, if_neg (fun q => d2 (okM.mp q.2))]
    · refine ⟨I, J, 2, 1, 6, iv_L_putReal _ ?_, by omega, by omega, st_w (st_w I 166 10 0) 166 10 2, J, iv_M_putReal (d := d + 3) _ ?_, e_o _ _ _, RR_ee h (fun _ _ _ => rfl)⟩
      · rw [if_neg hC]
        refine ⟨k2, ?_⟩
        rw [if_neg (by rw [g0]; exact fun z => z1 (kk1.mp z))]
      · rw [if_neg hM]
        refine ⟨k3, ?_⟩
        rw [if_neg (by rw [q173]; exact fun z => z1 (kk1.mp z))]
  · have hC : ((¬ ((¬ (p1 < (0 : Int32))) ∧ (p1 < (16 : Int32)))) ∨ ((p3 < (0 : Int32)) ∨ (¬ ((0 : Int32) < (I 1 3))))) := by
      by_cases a1 : (0 ≤ p1.toInt ∧ p1.toInt ≤ 15)
      · by_cases a2 : 0 ≤ p3.toInt
        · exact Or.inr (Or.inr (hown.mpr (Classical.not_not.mp fun z => c ⟨a1, a2, z⟩)))
        · exact Or.inr (Or.inl (by rw [i32_lt, i0]; omega))
      · exact Or.inl (fun q => a1 (cI_c.mp q))
    have hM : ((¬ ((¬ ((Int32.toInt64 p1) < (0 : Int64))) ∧ (¬ ((15 : Int64) < (Int32.toInt64 p1))))) ∨ ((p3 < (0 : Int32)) ∨ ((I 166 11) = (0 : Int32)))) := by
      by_cases a1 : (0 ≤ p1.toInt ∧ p1.toInt ≤ 15)
      · by_cases a2 : 0 ≤ p3.toInt
        · exact Or.inr (Or.inr (Classical.not_not.mp fun z => c ⟨a1, a2, z⟩))
        · exact Or.inr (Or.inl (by rw [i32_lt, i0]; omega))
      · exact Or.inl (fun q => a1 (cI_m.mp q))
    exact ⟨I, J, 1, 1, 6, iv_L_putReal _ (by rw [if_pos hC]), by omega, by omega, st_w (st_w I 166 10 0) 166 10 1, J, iv_M_putReal (d := d + 3) _ (by rw [if_pos hM]), e_o _ _ _, RR_ee h (fun _ _ _ => rfl)⟩
/-- what the law puts -/
theorem rlk_k (k : Int32) : rlk (FP.dmul (FP.i2d k) (4593671619917905920 : UInt64)) := by
  by_cases c : k.toInt = 0
  · have : k = 0 := by rw [i32_eq, c]; rfl
    subst this
    exact Or.inl (by decide +kernel)
  · obtain ⟨D, q, hN, h1, h2, e⟩ := fp_put c
    exact Or.inr ⟨_, D, q, hN, by omega, by omega, e⟩
