theorem c16_i {p : Int32} (h : 0 ≤ p.toInt) (h' : p.toInt ≤ 15) : p.toNatClampNeg < 16 ∧ pm_in p 16 = true ∧ pm_in p 17 = true := by
  have hn := cln h
  refine ⟨by omega, ?_, ?_⟩ <;> rw [oi_of h] <;> exact oi_in (by omega) (by omega)
theorem cI_c {p : Int32} : ((¬ (p < (0 : Int32))) ∧ (p < (16 : Int32))) ↔ 0 ≤ p.toInt ∧ p.toInt ≤ 15 := by
  rw [i32_lt, i32_lt, i0, show (16 : Int32).toInt = 16 from rfl]
  omega
theorem cI_m {p : Int32} : ((¬ ((Int32.toInt64 p) < (0 : Int64))) ∧ (¬ ((15 : Int64) < (Int32.toInt64 p)))) ↔ 0 ≤ p.toInt ∧ p.toInt ≤ 15 := by
  rw [i64_lt, i64_lt, tl, j0, show (15 : Int64).toInt = 15 from rfl]
  omega
theorem w173 (K : st_I) (c : Nat) (x : Int32) : (st_w K 173 c x) 173 c = x := by rw [st_w_e, if_pos ⟨rfl, rfl⟩]
theorem s_root {X : pm_X} (hX : X 1 = (8, eb)) {d : Nat} {I : st_I} {J : st_J} {p1 p2 : Int32} (h : RR I J) : StpI X (d + 6) 26 [.ref 0, .int p1, .int p2, .ref 187] 180 [.ref 166, .int p1, .int p2] I J := by
  have e64 : (64 : Int32).toInt = 64 := rfl
  have f64 : (64 : Int64).toInt = 64 := rfl
  have hw := h.1.1
  have b2 := h.1.2.2.1
  by_cases c : (0 ≤ p1.toInt ∧ p1.toInt ≤ 15) ∧ (0 ≤ p2.toInt ∧ p2.toInt ≤ 64)
  · obtain ⟨k1, k2, k3⟩ := c16_i c.1.1 c.1.2
    have hdp : dpk p2 := c.2
    have hd2 := cln c.2.1
    have ep2 := oi_of c.2.1
    have hC : ¬ ((¬ ((¬ (p1 < (0 : Int32))) ∧ (p1 < (16 : Int32)))) ∨ ((p2 < (0 : Int32)) ∨ ((64 : Int32) < p2))) := by
      rw [cI_c, i32_lt, i32_lt, i0, e64]
      omega
    have hM : ¬ ((¬ ((¬ ((Int32.toInt64 p1) < (0 : Int64))) ∧ (¬ ((15 : Int64) < (Int32.toInt64 p1))))) ∨ (¬ ((¬ ((Int32.toInt64 p2) < (0 : Int64))) ∧ (¬ ((64 : Int64) < (Int32.toInt64 p2)))))) := by
      rw [cI_m, i64_lt, i64_lt, tl, j0, f64]
      omega
    have hu0 := hw.2.1 0 (by omega)
    by_cases c0 : I 7 0 = 0
    · refine ⟨I, J, 2, 1, 6, iv_L_root hX _ ?_, by omega, by omega, st_w (st_w I 166 10 0) 166 10 2, J, 0, iv_M_root (d := d + 1) (K := I) (b := 0) _ ?_, e_o _ _ _, fun h => absurd h (by decide), RR_ee h (fun _ _ _ => rfl)⟩
      · rw [if_neg hC]
        refine ⟨fun _ _ _ => rfl, ?_⟩
        rw [if_neg (fun q => absurd (show (0 : Int32) < I 7 0 from q.2.2.2) (by rw [c0]; decide))]
      · rw [if_neg hM, if_pos (by rw [b2 0 (by omega), c0])]
    · have hpos : (0 : Int32) < I 7 0 := by
        rw [i32_lt, i0]
        have : (I 7 0).toInt ≠ 0 := fun q => c0 (by rw [i32_eq, q]; rfl)
        omega
      have hH : (¬ ((0 : Int64) < (0 : Int64))) ∧ (((0 : Int64) < (Int32.toInt64 (I 1 2))) ∧ ((¬ ((0 : Int32) < (0 : Int32))) ∧ ((0 : Int32) < (I 7 (Int32.toNatClampNeg (Int64.toInt32 (0 : Int64))))))) := by
        refine ⟨by decide, ?_, by decide, hpos⟩
        rw [i64_lt, tl, j0]
        have := hw.1
        omega
      have hm0 : ¬ (I 170 0 = 0) := by rw [b2 0 (by omega)]; exact c0
      have hS4 := cln (x := I 1 2) (by have := hw.1; omega)
      have hA4 := cln hw.2.2.1
      cases hl : ldo I J 0 0 p2 with
      | none =>
        have hmf := mf_ex (X := X) (d := d + 1) (I := st_w (fI I (lss I J 0 0)) 166 10 0) (J := st_y J 8 3 (lss I J 0 0).2.2) (s := 0) (k := 0) (dp := p2.toNatClampNeg) (wmm_rel h (by rw [st_w_e, if_neg (by omega), fI_o _ _ (by omega)]) (by rw [st_w_e, if_neg (by omega), fI_o _ _ (by omega)]) (fun s _ => by rw [st_w_e, if_neg (by omega), fI_o _ _ (by omega)])) (by omega) (by omega) (by omega)
        rw [ld_rel h (by rw [st_w_e, if_neg (by omega), fI_o _ _ (by omega)]) (by rw [st_w_e, if_neg (by omega), fI_o _ _ (by omega)]) (fun s _ => by rw [st_w_e, if_neg (by omega), fI_o _ _ (by omega)]) (fun k => by rw [st_y_e, if_neg (by omega)]) (by omega) (by omega)] at hmf
        have hl' : ld (cw J) (un (I 7)) (I 1 2).toNatClampNeg (I 8 0).toNatClampNeg 0 0 p2.toNatClampNeg = none := hl
        rw [hl', ← ep2] at hmf
        obtain ⟨K, b, hE, hMA, hb, hK8⟩ := hmf
        subst hb
        have hK10 : K 166 10 = 0 := (hMA 166 10 (by omega) (by omega)).trans (e_1 _ _)
        refine ⟨fI I (lss I J 0 0), st_y J 8 3 (lss I J 0 0).2.2, 2, 1, 6, iv_L_root hX _ ?_, by omega, by omega, st_w K 166 10 2, st_y J 8 3 (lss I J 0 0).2.2, 0, iv_M_root (d := d + 1) (K := K) (b := 0) _ ?_, e_1 _ _, fun h => absurd h (by decide), fo_no h hMA hK8⟩
        · rw [if_neg hC]
          refine ⟨fun _ _ _ => rfl, ?_⟩
          rw [if_pos hH]
          refine ⟨k2, hw, hdp, ?_⟩
          rw [hl]
          exact rfl
        · rw [if_neg hM, if_neg (by rw [fI_o _ _ (by omega)]; exact hm0)]
          refine ⟨hE, ?_⟩
          rw [if_pos rfl, if_pos hK10]
      | some w =>
        obtain ⟨v, ch⟩ := w
        have hl' : ld (cw J) (un (I 7)) (I 1 2).toNatClampNeg (I 8 0).toNatClampNeg 0 0 p2.toNatClampNeg = some (v, ch) := hl
        have hmsp : ∀ (x : Int32) (g : Nat → Int32) {a f : Nat}, ¬ (a = 8 ∧ f ≤ 2) → ¬ (150 ≤ a ∧ a ≤ 165) → ¬ (a = 166 ∧ f = 10) → (st_w (st_sq (st_w (fI I (lss I J 0 0)) 8 0 x) (150 + p1.toNatClampNeg) g) 166 10 0) a f = I a f := fun x g {a f} q1 q2 q3 => by
          rw [st_w_e, if_neg q3]
          unfold st_sq
          rw [if_neg (by omega), st_w_e, if_neg (by omega), fI_o _ _ (by omega)]
        obtain ⟨hv, hch⟩ := ld_vk hl' (by have := hw.1; omega) (by omega) (by omega) (fun s hs => by have := cln (hw.2.1 s hs).1; have := (hw.2.1 s hs).2; unfold un; omega) (by have := hw.2.2; omega) (by omega)
        have hmf := mf_ex (X := X) (d := d + 1) (I := st_w (st_sq (st_w (fI I (lss I J 0 0)) 8 0 (Int32.ofNat ((I 8 0).toNatClampNeg - ch))) (150 + p1.toNatClampNeg) (spv v)) 166 10 0) (J := st_y (st_y J 8 3 (lss I J 0 0).2.2) 187 0 (Int32.toInt64 (Int32.ofNat v.1))) (s := 0) (k := 0) (dp := p2.toNatClampNeg) (wmm_rel h (hmsp _ _ (by omega) (by omega) (by omega)) (hmsp _ _ (by omega) (by omega) (by omega)) (fun s _ => hmsp _ _ (by omega) (by omega) (by omega))) (by omega) (by omega) (by omega)
        rw [ld_rel h (hmsp _ _ (by omega) (by omega) (by omega)) (hmsp _ _ (by omega) (by omega) (by omega)) (fun s _ => hmsp _ _ (by omega) (by omega) (by omega)) (fun k => by rw [st_y_e, if_neg (by omega), st_y_e, if_neg (by omega)]) (by omega) (by omega), hl', ← ep2, hmsp _ _ (by omega) (by omega) (by omega), h.1.2.2.2.1] at hmf
        obtain ⟨K, b, hE, hMA, hb, hK8, hKv⟩ := hmf
        subst hb
        have hK10 : K 166 10 = 0 := (hMA 166 10 (by omega) (by omega)).trans (e_1 _ _)
        refine ⟨st_sq (st_w (fI I (lss I J 0 0)) 8 0 (Int32.ofNat ((I 8 0).toNatClampNeg - ch))) (150 + p1.toNatClampNeg) (spv v), st_y (st_y J 8 3 (lss I J 0 0).2.2) 187 0 (Int32.toInt64 (Int32.ofNat v.1)), 0, 0, 0, iv_L_root hX _ ?_, by omega, by omega, cp10 K p1.toNatClampNeg, st_y (st_y J 8 3 (lss I J 0 0).2.2) 187 0 (Int32.toInt64 (Int32.ofNat v.1)), K 173 16, iv_M_root (d := d + 1) (K := K) (b := 1) _ ?_, ?_, fun _ => ?_, fo_ok h k1 hv hch hMA hK8 hKv⟩
        · rw [if_neg hC]
          refine ⟨fun _ _ _ => rfl, ?_⟩
          rw [if_pos hH]
          refine ⟨k2, hw, hdp, ?_⟩
          rw [hl]
          show (_ : pm_R) = _
          have hk : (st_sq (st_w (st_w (st_w I 8 1 (lss I J 0 0).1) 8 2 (lss I J 0 0).2.1) 8 0 (Int32.ofNat ((I 8 0).toNatClampNeg - ch))) (150 + p1.toNatClampNeg) (spv v)) (150 + p1.toNatClampNeg) 0 = Int32.ofNat v.1 := by
            unfold st_sq
            rw [if_pos ⟨rfl, by omega⟩]
            rfl
          rw [hk]
          rfl
        · have q := hmsp (Int32.ofNat ((I 8 0).toNatClampNeg - ch)) (spv v) (a := 170) (f := 0) (by omega) (by omega) (by omega)
          rw [st_w_e, if_neg (by omega)] at q
          rw [if_neg hM, if_neg (by rw [q]; exact hm0)]
          refine ⟨hE, ?_⟩
          rw [if_neg (by decide), if_pos hK10]
          refine ⟨k3, ?_⟩
          rw [w173]
          rfl
        · rw [cp10_e, if_neg (by omega), hK10]
        · rw [y_o, hKv 173 (by omega) (by omega)]
          rfl
  · refine ⟨I, J, 1, 1, 6, iv_L_root hX _ ?_, by omega, by omega, st_w (st_w I 166 10 0) 166 10 1, J, 0, iv_M_root (d := d + 1) (K := I) (b := 0) _ ?_, e_o _ _ _, fun h => absurd h (by decide), RR_ee h (fun _ _ _ => rfl)⟩
    · rw [if_pos (by rw [cI_c, i32_lt, i32_lt, i0, e64]; omega)]
    · rw [if_pos (by rw [cI_m, i64_lt, i64_lt, tl, j0, f64]; omega)]
