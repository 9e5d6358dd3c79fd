/-! real -/
def StpD (X : pm_X) (D lm : Nat) (la : List Value) (mm : Nat) (ma : List Value) (I : st_I) (J : st_J) : Prop := ∃ I1 J1 kk cc ks, Ex X D lm la (st_h I J) (.inl (some (.int kk)), st_h I1 J1, cc, ks) ∧ cc ≤ 1 ∧ ks ≤ 6 ∧ ∃ I2 J2 b, Ex X D mm ma (st_h I1 J1) (.inl (some (.double b)), st_h I2 J2, 0, 0) ∧ I2 166 10 = kk ∧ (kk = 0 → J2 188 0 = UInt64.toInt64 b) ∧ RR I2 J2
theorem rJ_d (J : st_J) (x : Int64) : ∀ a k, rJ a → (st_y J 188 0 x) a k = J a k := fun a k hr => by
  rw [st_y_e, if_neg]
  unfold rJ at hr
  omega
theorem fin_n (v : Int64) : ((Int64.toInt32 (ju v 23)) &&& 255) = 255 ↔ (ju v 23 &&& 255) = 255 := by
  have h1 : ((Int64.toInt32 (ju v 23)) &&& 255).toInt = ((wn (ju v 23) % 256 : Nat) : Int) := bn_i ((bn_and32 (n := 8) 255 rfl).trans (by rw [bn_low]; omega)) (by omega)
  have h2 : (ju v 23 &&& 255).toInt = ((wn (ju v 23) % 256 : Nat) : Int) := bn_j (bn_and64 (n := 8) 255 rfl) (by omega)
  rw [i32_eq, i64_eq, h1, h2]
  exact Iff.rfl
theorem fin_w (v : Int64) : ((Int64.toInt32 (ju v 52)) &&& 2047) = 2047 ↔ (ju v 52 &&& 2047) = 2047 := by
  have h1 : ((Int64.toInt32 (ju v 52)) &&& 2047).toInt = ((wn (ju v 52) % 2048 : Nat) : Int) := bn_i ((bn_and32 (n := 11) 2047 rfl).trans (by rw [bn_low]; omega)) (by omega)
  have h2 : (ju v 52 &&& 2047).toInt = ((wn (ju v 52) % 2048 : Nat) : Int) := bn_j (bn_and64 (n := 11) 2047 rfl) (by omega)
  rw [i32_eq, i64_eq, h1, h2]
  exact Iff.rfl
theorem mrk_n {v : Int64} (h : ¬ ((Int64.toInt32 (ju v 23)) &&& 255) = 255) : mrk v 23 8 := mrk_of (n := 23) (w := 8) (m := 255) rfl (by decide) (by decide) (by decide) (by decide) (by decide) (by decide) (by decide) (by decide) h
theorem mrk_w {v : Int64} (h : ¬ ((Int64.toInt32 (ju v 52)) &&& 2047) = 2047) : mrk v 52 11 := mrk_of (n := 52) (w := 11) (m := 2047) rfl (by decide) (by decide) (by decide) (by decide) (by decide) (by decide) (by decide) (by decide) h
/-- what is no number -/
def nof (v : Int64) (p : Int32) : Prop := ((Int64.toInt32 (ju v (if p = (0 : Int32) then (23 : Int32) else (52 : Int32)))) &&& (if p = (0 : Int32) then (255 : Int32) else (2047 : Int32))) = (if p = (0 : Int32) then (255 : Int32) else (2047 : Int32))
theorem nof_m (v : Int64) (p : Int32) : (((p = (0 : Int32)) ∧ (((ju v (23 : Int32)) &&& (255 : Int64)) = (255 : Int64))) ∨ ((¬ (p = (0 : Int32))) ∧ (((ju v (52 : Int32)) &&& (2047 : Int64)) = (2047 : Int64)))) ↔ nof v p := by
  unfold nof
  by_cases q : p = 0
  · rw [if_pos q, if_pos q, fin_n]
    exact ⟨fun z => z.elim (fun z => z.2) (fun z => absurd q z.1), fun z => Or.inl ⟨q, z⟩⟩
  · rw [if_neg q, if_neg q, fin_w]
    exact ⟨fun z => z.elim (fun z => absurd z.1 q) (fun z => z.2), fun z => Or.inr ⟨q, z⟩⟩
theorem fbk_of {v : Int64} {p : Int32} (h : ¬ nof v p) : fbk v p := by
  unfold nof at h
  constructor
  · intro q
    rw [if_pos q, if_pos q] at h
    exact mrk_n h
  · intro q
    rw [if_neg q, if_neg q] at h
    exact mrk_w h
set_option maxRecDepth 20000 in
theorem s_real {X : pm_X} {d : Nat} {I : st_I} {J : st_J} {p1 p2 p3 : Int32} (h : RR I J) : StpD X (d + 5) 73 [.ref 0, .int p1, .int p2, .int p3, .ref 188] 202 [.ref 166, .int p1, .int p2, .int p3] I J := by
  have hw := h.1.1
  by_cases c : (0 ≤ p1.toInt ∧ p1.toInt ≤ 15) ∧ 0 ≤ p3.toInt
  · obtain ⟨k1, k2, k3⟩ := c16_i c.1.1 c.1.2
    obtain ⟨W, hW⟩ : ∃ W, (if p2 = (0 : Int32) then (32 : Int32) else (64 : Int32)) = W := ⟨_, rfl⟩
    have hiW : isW W := by
      rw [← hW]
      split
      · exact Or.inr (Or.inr (Or.inr (Or.inl rfl)))
      · exact Or.inr (Or.inr (Or.inr (Or.inr rfl)))
    obtain ⟨e1, e2, ep2, en2⟩ := isW_b hiW
    have hn := cln c.2
    have ep3 := oi_of c.2
    have hC : ¬ ((¬ ((¬ (p1 < (0 : Int32))) ∧ (p1 < (16 : Int32)))) ∨ (p3 < (0 : Int32))) := fun q => by
      rcases q with q | q
      · exact q (cI_c.mpr c.1)
      · rw [i32_lt, i0] at q; omega
    have hM : ¬ ((¬ ((¬ ((Int32.toInt64 p1) < (0 : Int64))) ∧ (¬ ((15 : Int64) < (Int32.toInt64 p1))))) ∨ (p3 < (0 : Int32))) := fun q => by
      rcases q with q | q
      · exact q (cI_m.mpr c.1)
      · rw [i32_lt, i0] at q; omega
    obtain ⟨⟨kd, dp, sg, pl, sh, db, pt, ct, cd⟩, hs9, hm9, hvk⟩ := h.2.2.2 p1.toNatClampNeg k1
    have g0 : I (150 + p1.toNatClampNeg) 0 = Int32.ofNat kd := hs9 0 (by omega)
    have g2 : I (150 + p1.toNatClampNeg) 2 = Int32.ofNat sg := hs9 2 (by omega)
    have g3 : I (150 + p1.toNatClampNeg) 3 = Int32.ofNat pl := hs9 3 (by omega)
    have g4 : I (150 + p1.toNatClampNeg) 4 = Int32.ofNat sh := hs9 4 (by omega)
    have g5 : I (150 + p1.toNatClampNeg) 5 = Int32.ofNat db := hs9 5 (by omega)
    have q173 : I 173 p1.toNatClampNeg = Int32.ofNat kd := hm9 173 (by omega) (by omega)
    have q175 : I 175 p1.toNatClampNeg = Int32.ofNat sg := hm9 175 (by omega) (by omega)
    have q176 : I 176 p1.toNatClampNeg = Int32.ofNat (64 * pl + sh) := hm9 176 (by omega) (by omega)
    have q177 : I 177 p1.toNatClampNeg = if kd = 1 then Int32.ofNat db else 0 := hm9 177 (by omega) (by omega)
    have hUs := hw.2.1 sg hvk.2.1
    have hUn := un_i hUs.1
    obtain ⟨w0, w1, w2, w3, w4, w5, w6, w7, w8⟩ := vk_b hvk (by omega)
    have hcase := hvk.2.2.2.2
    have kk1 : (Int32.ofNat kd = 1) ↔ kd = 1 := oi_eq (b := 1) (by omega) (by omega)
    have kk2 : (Int32.ofNat kd = 2) ↔ kd = 2 := oi_eq (b := 2) (by omega) (by omega)
    by_cases d1 : kd = 2
    · refine ⟨I, J, 2, 1, 6, iv_L_real _ ?_, by omega, by omega, st_w (st_w I 166 10 0) 166 10 2, J, FP.dconst0, iv_M_real (d := d + 1) _ ?_, e_o _ _ _, fun h => absurd h (by decide), RR_ee h (fun _ _ _ => rfl)⟩
      · rw [if_neg hC]
        refine ⟨k2, ?_⟩
        rw [if_pos (by rw [g0]; exact kk2.mpr d1)]
      · rw [if_neg hM]
        refine ⟨k3, ?_⟩
        rw [if_pos (by rw [q173]; exact kk2.mpr d1)]
    · have hmul : ((Int32.toInt64 p3 + 1) * Int32.toInt64 W).toInt = (((p3.toNatClampNeg + 1) * W.toNatClampNeg : Nat) : Int) := by
        have hb : (p3.toNatClampNeg + 1) * W.toNatClampNeg ≤ 2147483648 * 64 := Nat.mul_le_mul (by have := p3.toInt_lt; omega) (by omega)
        have e : (((p3.toNatClampNeg + 1) * W.toNatClampNeg : Nat) : Int) = (p3.toInt + 1) * W.toInt := by
          rw [Int.natCast_mul, Int.natCast_add, hn, en2]
          rfl
        rw [e]
        refine jm2 (ja2 (tl p3) (show (1 : Int64).toInt = 1 from rfl) ?_ ?_) (tl W) ?_ ?_
        · have := p3.toInt_lt; omega
        · have := p3.toInt_lt; omega
        · rw [← e]; omega
        · rw [← e]; omega
      have okC : (¬ ((Int32.toInt64 (I (150 + p1.toNatClampNeg) 5)) < ((Int32.toInt64 p3 + 1) * Int32.toInt64 W))) ↔ (p3.toNatClampNeg + 1) * W.toNatClampNeg ≤ db := by
        rw [g5, i64_lt, tl, hmul, oi_i (by omega)]
        omega
      have hpos : 1 ≤ (p3.toNatClampNeg + 1) * W.toNatClampNeg := Nat.mul_pos (by omega) (by omega)
      have okM : ((I 173 p1.toNatClampNeg = 1) ∧ (¬ ((Int32.toInt64 (I 177 p1.toNatClampNeg)) < ((Int32.toInt64 p3 + 1) * Int32.toInt64 W)))) ↔ (p3.toNatClampNeg + 1) * W.toNatClampNeg ≤ db := by
        rw [q173, kk1, q177, i64_lt, tl, hmul]
        by_cases z : kd = 1
        · rw [if_pos z, oi_i (by omega)]
          omega
        · constructor
          · exact fun q => absurd q.1 z
          · intro q
            have : kd = 0 := by omega
            omega
      have hl0 : ¬ (I (150 + p1.toNatClampNeg) 0 = 2) := by rw [g0]; exact fun z => d1 (kk2.mp z)
      have hm0 : ¬ (I 173 p1.toNatClampNeg = 2) := by rw [q173]; exact fun z => d1 (kk2.mp z)
      by_cases d2 : (p3.toNatClampNeg + 1) * W.toNatClampNeg ≤ db
      · have hk1 : kd = 1 := by omega
        obtain ⟨B, hB⟩ : ∃ B, B = 64 * pl + sh + p3.toNatClampNeg * W.toNatClampNeg := ⟨_, rfl⟩
        have hB4 : B < 4096 := by
          rw [Nat.succ_mul] at d2
          omega
        have bC : I (150 + p1.toNatClampNeg) 3 * 64 + I (150 + p1.toNatClampNeg) 4 + p3 * W = Int32.ofNat B := by
          rw [g3, g4, show (64 : Int32) = Int32.ofNat 64 from rfl, oi_mu, oi_p]
          conv => lhs; rw [ep3, ep2]
          rw [oi_mu, oi_p, hB, Nat.mul_comm pl 64]
        have bM : I 176 p1.toNatClampNeg + p3 * W = Int32.ofNat B := by
          rw [q176]
          conv => lhs; rw [ep3, ep2]
          rw [oi_mu, oi_p, hB]
        obtain ⟨V, hV⟩ : ∃ V, V = cut_ W (ju (J (3 + sg) (B / 64)) (irm (Int32.ofNat B) 64)) := ⟨_, rfl⟩
        have hVc : (ju (J (3 + sg) (B / 64)) (irm (Int32.ofNat B) 64)) &&& (if W < (64 : Int32) then ((jl (1 : Int64) W) - (1 : Int64)) else (-1 : Int64)) = V := by
          rw [hV, ← cut_on e2]
          rfl
        have hVm : (if W = (64 : Int32) then (ju (J (3 + sg) (B / 64)) (irm (Int32.ofNat B) 64)) else ((ju (J (3 + sg) (B / 64)) (irm (Int32.ofNat B) 64)) &&& ((jl (1 : Int64) W) - (1 : Int64)))) = V := hV.symm
        have b4 := h.1.2.2.2.2.1 sg (B / 64) w2 (by omega)
        by_cases d3 : nof V p2
        · refine ⟨I, J, 3, 1, 6, iv_L_real _ ?_, by omega, by omega, st_w (st_w I 166 10 0) 166 10 3, J, FP.dconst0, iv_M_real (d := d + 1) _ ?_, e_o _ _ _, fun h => absurd h (by decide), RR_ee h (fun _ _ _ => rfl)⟩
          · rw [if_neg hC]
            refine ⟨k2, ?_⟩
            rw [if_neg hl0, hW, if_pos (Or.inr ⟨hl0, okC.mpr d2⟩), bC, g2, bit_c_ (J := J) w2 hB4, hVc]
            refine ⟨oi_in w2 (by omega), bit_j hB4, ?_⟩
            rw [if_pos (show _ = _ from d3)]
          · rw [if_neg hM]
            refine ⟨k3, ?_⟩
            rw [if_neg hm0, hW, bM, q175, bit_m_ (J := J) w2 hB4, b4, if_pos (okM.mpr d2), hVm]
            refine ⟨fun _ => bit_k w2 hB4, ?_⟩
            rw [if_pos ((nof_m V p2).mpr d3)]
        · refine ⟨I, st_y J 188 0 (UInt64.toInt64 (fbv V p2)), 0, 0, 0, iv_L_real _ ?_, by omega, by omega, st_w I 166 10 0, st_y J 188 0 (UInt64.toInt64 (fbv V p2)), fbv V p2, iv_M_real (d := d + 1) _ ?_, e_1 _ _, fun _ => by rw [st_y_e, if_pos ⟨rfl, rfl⟩], RR_e h (rJ_d _ _)⟩
          · rw [if_neg hC]
            refine ⟨k2, ?_⟩
            rw [if_neg hl0, hW, if_pos (Or.inr ⟨hl0, okC.mpr d2⟩), bC, g2, bit_c_ (J := J) w2 hB4, hVc]
            refine ⟨oi_in w2 (by omega), bit_j hB4, ?_⟩
            rw [if_neg (show ¬ _ = _ from d3)]
            exact ⟨fbk_of d3, rfl⟩
          · rw [if_neg hM]
            refine ⟨k3, ?_⟩
            rw [if_neg hm0, hW, bM, q175, bit_m_ (J := st_y J 188 0 (UInt64.toInt64 (fbv V p2))) w2 hB4, rJ_d _ _ _ _ (Or.inr rfl), b4, if_pos (okM.mpr d2), hVm]
            refine ⟨fun _ => bit_k w2 hB4, ?_⟩
            rw [if_neg (fun q => d3 ((nof_m V p2).mp q))]
            exact ⟨fbk_of d3, rfl⟩
      · have d3 : ¬ nof 0 p2 := by
          unfold nof
          split <;> decide
        refine ⟨I, st_y J 188 0 (UInt64.toInt64 (fbv 0 p2)), 0, 0, 0, iv_L_real _ ?_, by omega, by omega, st_w I 166 10 0, st_y J 188 0 (UInt64.toInt64 (fbv 0 p2)), fbv 0 p2, iv_M_real (d := d + 1) _ ?_, e_1 _ _, fun _ => by rw [st_y_e, if_pos ⟨rfl, rfl⟩], RR_e h (rJ_d _ _)⟩
        · rw [if_neg hC]
          refine ⟨k2, ?_⟩
          rw [if_neg hl0, hW, if_neg (fun q => q.elim (fun q => hl0 q.1) (fun q => d2 (okC.mp q.2))), if_neg (show ¬ _ = _ from d3)]
          exact ⟨fbk_of d3, rfl⟩
        · rw [if_neg hM]
          refine ⟨k3, ?_⟩
          rw [if_neg hm0, hW, if_neg (fun q => d2 (okM.mp q))]
          refine ⟨fun q => absurd (okM.mp q) d2, ?_⟩
          rw [if_neg (fun q => d3 ((nof_m 0 p2).mp q))]
          exact ⟨fbk_of d3, rfl⟩
  · refine ⟨I, J, 1, 1, 6, iv_L_real _ ?_, by omega, by omega, st_w (st_w I 166 10 0) 166 10 1, J, FP.dconst0, iv_M_real (d := d + 1) _ ?_, e_o _ _ _, fun h => absurd h (by decide), RR_ee h (fun _ _ _ => rfl)⟩
    · rw [if_pos]
      by_cases q1 : 0 ≤ p1.toInt ∧ p1.toInt ≤ 15
      · refine Or.inr ?_
        rw [i32_lt, i0]
        exact Int.lt_of_not_ge (fun q3 => c ⟨q1, q3⟩)
      · exact Or.inl (fun q => q1 (cI_c.mp q))
    · rw [if_pos]
      by_cases q1 : 0 ≤ p1.toInt ∧ p1.toInt ≤ 15
      · refine Or.inr ?_
        rw [i32_lt, i0]
        exact Int.lt_of_not_ge (fun q3 => c ⟨q1, q3⟩)
      · exact Or.inl (fun q => q1 (cI_m.mp q))
