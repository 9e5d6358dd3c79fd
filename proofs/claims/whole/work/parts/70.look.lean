/-! look, element, item, number, put: a cursor read by its numbers -/
theorem vk_b {U : Nat → Nat} {kd dp sg pl sh db pt ct cd : Nat} (h : vk U (kd, dp, sg, pl, sh, db, pt, ct, cd)) (hU : U sg ≤ 64) : kd ≤ 2 ∧ dp ≤ 64 ∧ sg < 4 ∧ pl ≤ 64 ∧ sh < 64 ∧ db ≤ 4194240 ∧ pt ≤ 65535 ∧ ct ≤ 100000 ∧ cd ≤ 7 := by
  obtain ⟨v1, v2, v3, v4, hcase⟩ := h
  refine ⟨?_, v1, v2, v3, v4, ?_⟩
  · omega
  · rcases hcase with q | q | q
    · omega
    · omega
    · obtain ⟨q1, q2, q3, q | q | q⟩ := q
      · have := ebn_le cd
        omega
      · omega
      · omega
set_option maxRecDepth 20000 in
theorem s_look {X : pm_X} {d : Nat} {I : st_I} {J : st_J} {p1 p2 : Int32} (h : RR I J) : StpI X (d + 3) 87 [.ref 0, .int p1, .int p2, .ref 187] 205 [.ref 166, .int p1, .int p2] I J := by
  have hw := h.1.1
  have e7 : (7 : Int64).toInt = 7 := rfl
  by_cases c : (0 ≤ p1.toInt ∧ p1.toInt ≤ 15) ∧ (0 ≤ p2.toInt ∧ p2.toInt ≤ 7)
  · obtain ⟨k1, k2, k3⟩ := c16_i c.1.1 c.1.2
    obtain ⟨⟨kd, dp, sg, pl, sh, db, pt, ct, cd⟩, hs9, hm9, hvk⟩ := h.2.2.2 p1.toNatClampNeg k1
    have g0 : I (150 + p1.toNatClampNeg) 0 = Int32.ofNat kd := hs9 0 (by omega)
    have g1 : I (150 + p1.toNatClampNeg) 1 = Int32.ofNat dp := hs9 1 (by omega)
    have g2 : I (150 + p1.toNatClampNeg) 2 = Int32.ofNat sg := hs9 2 (by omega)
    have g3 : I (150 + p1.toNatClampNeg) 3 = Int32.ofNat pl := hs9 3 (by omega)
    have g5 : I (150 + p1.toNatClampNeg) 5 = Int32.ofNat db := hs9 5 (by omega)
    have g6 : I (150 + p1.toNatClampNeg) 6 = Int32.ofNat pt := hs9 6 (by omega)
    have g7 : I (150 + p1.toNatClampNeg) 7 = Int32.ofNat ct := hs9 7 (by omega)
    have g8 : I (150 + p1.toNatClampNeg) 8 = Int32.ofNat cd := hs9 8 (by omega)
    have q173 : I 173 p1.toNatClampNeg = Int32.ofNat kd := hm9 173 (by omega) (by omega)
    have q174 : I 174 p1.toNatClampNeg = Int32.ofNat dp := hm9 174 (by omega) (by omega)
    have q175 : I 175 p1.toNatClampNeg = Int32.ofNat sg := hm9 175 (by omega) (by omega)
    have q176 : I 176 p1.toNatClampNeg = Int32.ofNat (64 * pl + sh) := hm9 176 (by omega) (by omega)
    have q177 : I 177 p1.toNatClampNeg = if kd = 1 then Int32.ofNat db else 0 := hm9 177 (by omega) (by omega)
    have q178 : I 178 p1.toNatClampNeg = if kd = 1 then Int32.ofNat pt else 0 := hm9 178 (by omega) (by omega)
    have q179 : I 179 p1.toNatClampNeg = Int32.ofNat ct := hm9 179 (by omega) (by omega)
    have q180 : I 180 p1.toNatClampNeg = Int32.ofNat cd := hm9 180 (by omega) (by omega)
    have hUs := hw.2.1 sg hvk.2.1
    have hUn := un_i hUs.1
    obtain ⟨w0, w1, w2, w3, w4, w5, w6, w7, w8⟩ := vk_b hvk (by omega)
    have k0 : (Int32.ofNat kd = 0) ↔ kd = 0 := oi_eq (b := 0) (by omega) (by omega)
    have kk1 : (Int32.ofNat kd = 1) ↔ kd = 1 := oi_eq (b := 1) (by omega) (by omega)
    have kk2 : (Int32.ofNat kd = 2) ↔ kd = 2 := oi_eq (b := 2) (by omega) (by omega)
    have hcase := hvk.2.2.2.2
    have hC : (¬ (p1 < (0 : Int32))) ∧ (p1 < (16 : Int32)) := cI_c.mpr c.1
    have hM : ¬ ((¬ ((¬ ((Int32.toInt64 p1) < (0 : Int64))) ∧ (¬ ((15 : Int64) < (Int32.toInt64 p1))))) ∨ (¬ ((¬ ((Int32.toInt64 p2) < (0 : Int64))) ∧ (¬ ((7 : Int64) < (Int32.toInt64 p2)))))) := by
      rw [cI_m, i64_lt, i64_lt, tl, j0, e7]
      omega
    have hcs : p2 = 0 ∨ p2 = 1 ∨ p2 = 2 ∨ p2 = 3 ∨ p2 = 4 ∨ p2 = 5 ∨ p2 = 6 ∨ p2 = 7 := by
      have hn := cln c.2.1
      have e := oi_of c.2.1
      generalize p2.toNatClampNeg = n at *
      rcases (show n = 0 ∨ n = 1 ∨ n = 2 ∨ n = 3 ∨ n = 4 ∨ n = 5 ∨ n = 6 ∨ n = 7 by omega) with q | q | q | q | q | q | q | q <;> subst q <;> rw [e] <;> decide
    have fin : ∀ {x y : Int32}, x = y → Ex X (d + 3) 87 [.ref 0, .int p1, .int p2, .ref 187] (st_h I J) (.inl (some (.int 0)), st_h I (st_y J 187 0 (Int32.toInt64 x)), 0, 0) → Ex X (d + 3) 205 [.ref 166, .int p1, .int p2] (st_h I (st_y J 187 0 (Int32.toInt64 x))) (.inl (some (.int y)), st_h (st_w I 166 10 0) (st_y J 187 0 (Int32.toInt64 x)), 0, 0) → StpI X (d + 3) 87 [.ref 0, .int p1, .int p2, .ref 187] 205 [.ref 166, .int p1, .int p2] I J := fun {x y} e q1 q2 => ⟨_, _, _, _, _, q1, by omega, by omega, _, _, _, q2, e_1 _ _, fun _ => by rw [y_o, e], RR_e h (rJ_o _ _)⟩
    by_cases z0 : kd = 0
    · have hz : dp = 0 ∧ sg = 0 ∧ pl = 0 ∧ sh = 0 ∧ db = 0 ∧ pt = 0 ∧ ct = 0 ∧ cd = 0 := by omega
      obtain ⟨rfl, rfl, rfl, rfl, rfl, rfl, rfl, rfl⟩ := hz
      subst z0
      rcases hcs with q | q | q | q | q | q | q | q
      · subst q
        refine fin (x := I (150 + p1.toNatClampNeg) 0) (y := 0) (by rw [g0]; rfl) (iv_L_look _ ?_) ((ev_M_look (d := d) _).mpr ?_)
        · rw [if_pos hC]
          refine ⟨k2, ?_⟩
          rw [if_pos rfl]
        · rw [if_neg hM]
          refine ⟨k3, ?_⟩
          rw [if_pos (by rw [q173]; rfl)]
      · subst q
        refine fin (x := I (150 + p1.toNatClampNeg) 1) (y := 0) (by rw [g1]; rfl) (iv_L_look _ ?_) ((ev_M_look (d := d) _).mpr ?_)
        · rw [if_pos hC]
          refine ⟨k2, ?_⟩
          rw [if_neg (by decide), if_pos rfl]
        · rw [if_neg hM]
          refine ⟨k3, ?_⟩
          rw [if_pos (by rw [q173]; rfl)]
      · subst q
        refine fin (x := I (150 + p1.toNatClampNeg) 2) (y := 0) (by rw [g2]; rfl) (iv_L_look _ ?_) ((ev_M_look (d := d) _).mpr ?_)
        · rw [if_pos hC]
          refine ⟨k2, ?_⟩
          rw [if_neg (by decide), if_neg (by decide), if_pos rfl]
        · rw [if_neg hM]
          refine ⟨k3, ?_⟩
          rw [if_pos (by rw [q173]; rfl)]
      · subst q
        refine fin (x := I (150 + p1.toNatClampNeg) 3) (y := 0) (by rw [g3]; rfl) (iv_L_look _ ?_) ((ev_M_look (d := d) _).mpr ?_)
        · rw [if_pos hC]
          refine ⟨k2, ?_⟩
          rw [if_neg (by decide), if_neg (by decide), if_neg (by decide), if_pos rfl]
        · rw [if_neg hM]
          refine ⟨k3, ?_⟩
          rw [if_pos (by rw [q173]; rfl)]
      · subst q
        refine fin (x := if I (150 + p1.toNatClampNeg) 0 = 1 then I (150 + p1.toNatClampNeg) 5 else 0) (y := 0) (by rw [g0, if_neg (by decide)]) (iv_L_look _ ?_) ((ev_M_look (d := d) _).mpr ?_)
        · rw [if_pos hC]
          refine ⟨k2, ?_⟩
          rw [if_neg (by decide), if_neg (by decide), if_neg (by decide), if_neg (by decide), if_pos rfl]
        · rw [if_neg hM]
          refine ⟨k3, ?_⟩
          rw [if_pos (by rw [q173]; rfl)]
      · subst q
        refine fin (x := if I (150 + p1.toNatClampNeg) 0 = 1 then I (150 + p1.toNatClampNeg) 6 else 0) (y := 0) (by rw [g0, if_neg (by decide)]) (iv_L_look _ ?_) ((ev_M_look (d := d) _).mpr ?_)
        · rw [if_pos hC]
          refine ⟨k2, ?_⟩
          rw [if_neg (by decide), if_neg (by decide), if_neg (by decide), if_neg (by decide), if_neg (by decide), if_pos rfl]
        · rw [if_neg hM]
          refine ⟨k3, ?_⟩
          rw [if_pos (by rw [q173]; rfl)]
      · subst q
        refine fin (x := I (150 + p1.toNatClampNeg) 7) (y := 0) (by rw [g7]; rfl) (iv_L_look _ ?_) ((ev_M_look (d := d) _).mpr ?_)
        · rw [if_pos hC]
          refine ⟨k2, ?_⟩
          rw [if_neg (by decide), if_neg (by decide), if_neg (by decide), if_neg (by decide), if_neg (by decide), if_neg (by decide), if_pos rfl]
        · rw [if_neg hM]
          refine ⟨k3, ?_⟩
          rw [if_pos (by rw [q173]; rfl)]
      · subst q
        refine fin (x := I (150 + p1.toNatClampNeg) 8) (y := 0) (by rw [g8]; rfl) (iv_L_look _ ?_) ((ev_M_look (d := d) _).mpr ?_)
        · rw [if_pos hC]
          refine ⟨k2, ?_⟩
          rw [if_neg (by decide), if_neg (by decide), if_neg (by decide), if_neg (by decide), if_neg (by decide), if_neg (by decide), if_neg (by decide), if_pos rfl]
        · rw [if_neg hM]
          refine ⟨k3, ?_⟩
          rw [if_pos (by rw [q173]; rfl)]
    · have z1 : ¬ (I 173 p1.toNatClampNeg = 0) := by rw [q173]; exact fun z => z0 (k0.mp z)
      rcases hcs with q | q | q | q | q | q | q | q
      · subst q
        refine fin (x := I (150 + p1.toNatClampNeg) 0) (y := I 173 p1.toNatClampNeg) ?_ (iv_L_look _ ?_) ((ev_M_look (d := d) _).mpr ?_)
        · rw [g0, q173]
        · rw [if_pos hC]
          refine ⟨k2, ?_⟩
          rw [if_pos rfl]
        · rw [if_neg hM]
          refine ⟨k3, ?_⟩
          rw [if_neg z1, if_pos rfl]
      · subst q
        refine fin (x := I (150 + p1.toNatClampNeg) 1) (y := I 174 p1.toNatClampNeg) ?_ (iv_L_look _ ?_) ((ev_M_look (d := d) _).mpr ?_)
        · rw [g1, q174]
        · rw [if_pos hC]
          refine ⟨k2, ?_⟩
          rw [if_neg (by decide), if_pos rfl]
        · rw [if_neg hM]
          refine ⟨k3, ?_⟩
          rw [if_neg z1, if_neg (by decide), if_pos rfl]
      · subst q
        refine fin (x := I (150 + p1.toNatClampNeg) 2) (y := I 175 p1.toNatClampNeg) ?_ (iv_L_look _ ?_) ((ev_M_look (d := d) _).mpr ?_)
        · rw [g2, q175]
        · rw [if_pos hC]
          refine ⟨k2, ?_⟩
          rw [if_neg (by decide), if_neg (by decide), if_pos rfl]
        · rw [if_neg hM]
          refine ⟨k3, ?_⟩
          rw [if_neg z1, if_neg (by decide), if_neg (by decide), if_pos rfl]
      · subst q
        refine fin (x := I (150 + p1.toNatClampNeg) 3) (y := I 176 p1.toNatClampNeg / 64) ?_ (iv_L_look _ ?_) ((ev_M_look (d := d) _).mpr ?_)
        · rw [g3, q176, oi_d (by omega), show (64 * pl + sh) / 64 = pl by omega]
        · rw [if_pos hC]
          refine ⟨k2, ?_⟩
          rw [if_neg (by decide), if_neg (by decide), if_neg (by decide), if_pos rfl]
        · rw [if_neg hM]
          refine ⟨k3, ?_⟩
          rw [if_neg z1, if_neg (by decide), if_neg (by decide), if_neg (by decide), if_pos rfl]
      · subst q
        refine fin (x := if I (150 + p1.toNatClampNeg) 0 = 1 then I (150 + p1.toNatClampNeg) 5 else 0) (y := if I 173 p1.toNatClampNeg = 2 then 0 else I 177 p1.toNatClampNeg) ?_ (iv_L_look _ ?_) ((ev_M_look (d := d) _).mpr ?_)
        · rw [g0, g5, q173, q177]
          by_cases z2 : kd = 2
          · rw [if_neg (fun z => by have := kk1.mp z; omega), if_pos (kk2.mpr z2)]
          · rw [if_pos (kk1.mpr (by omega)), if_neg (fun z => z2 (kk2.mp z)), if_pos (by omega)]
        · rw [if_pos hC]
          refine ⟨k2, ?_⟩
          rw [if_neg (by decide), if_neg (by decide), if_neg (by decide), if_neg (by decide), if_pos rfl]
        · rw [if_neg hM]
          refine ⟨k3, ?_⟩
          rw [if_neg z1, if_neg (by decide), if_neg (by decide), if_neg (by decide), if_neg (by decide), if_pos rfl]
      · subst q
        refine fin (x := if I (150 + p1.toNatClampNeg) 0 = 1 then I (150 + p1.toNatClampNeg) 6 else 0) (y := if I 173 p1.toNatClampNeg = 2 then 0 else I 178 p1.toNatClampNeg) ?_ (iv_L_look _ ?_) ((ev_M_look (d := d) _).mpr ?_)
        · rw [g0, g6, q173, q178]
          by_cases z2 : kd = 2
          · rw [if_neg (fun z => by have := kk1.mp z; omega), if_pos (kk2.mpr z2)]
          · rw [if_pos (kk1.mpr (by omega)), if_neg (fun z => z2 (kk2.mp z)), if_pos (by omega)]
        · rw [if_pos hC]
          refine ⟨k2, ?_⟩
          rw [if_neg (by decide), if_neg (by decide), if_neg (by decide), if_neg (by decide), if_neg (by decide), if_pos rfl]
        · rw [if_neg hM]
          refine ⟨k3, ?_⟩
          rw [if_neg z1, if_neg (by decide), if_neg (by decide), if_neg (by decide), if_neg (by decide), if_neg (by decide), if_pos rfl]
      · subst q
        refine fin (x := I (150 + p1.toNatClampNeg) 7) (y := if I 173 p1.toNatClampNeg = 2 then I 179 p1.toNatClampNeg else 0) ?_ (iv_L_look _ ?_) ((ev_M_look (d := d) _).mpr ?_)
        · rw [g7, q173, q179]
          by_cases z2 : kd = 2
          · rw [if_pos (kk2.mpr z2)]
          · rw [if_neg (fun z => z2 (kk2.mp z)), show ct = 0 by omega]; rfl
        · rw [if_pos hC]
          refine ⟨k2, ?_⟩
          rw [if_neg (by decide), if_neg (by decide), if_neg (by decide), if_neg (by decide), if_neg (by decide), if_neg (by decide), if_pos rfl]
        · rw [if_neg hM]
          refine ⟨k3, ?_⟩
          rw [if_neg z1, if_neg (by decide), if_neg (by decide), if_neg (by decide), if_neg (by decide), if_neg (by decide), if_neg (by decide), if_pos rfl]
      · subst q
        refine fin (x := I (150 + p1.toNatClampNeg) 8) (y := if I 173 p1.toNatClampNeg = 2 then I 180 p1.toNatClampNeg else 0) ?_ (iv_L_look _ ?_) ((ev_M_look (d := d) _).mpr ?_)
        · rw [g8, q173, q180]
          by_cases z2 : kd = 2
          · rw [if_pos (kk2.mpr z2)]
          · rw [if_neg (fun z => z2 (kk2.mp z)), show cd = 0 by omega]; rfl
        · rw [if_pos hC]
          refine ⟨k2, ?_⟩
          rw [if_neg (by decide), if_neg (by decide), if_neg (by decide), if_neg (by decide), if_neg (by decide), if_neg (by decide), if_neg (by decide), if_pos rfl]
        · rw [if_neg hM]
          refine ⟨k3, ?_⟩
          rw [if_neg z1, if_neg (by decide), if_neg (by decide), if_neg (by decide), if_neg (by decide), if_neg (by decide), if_neg (by decide), if_neg (by decide)]
  · by_cases c1 : 0 ≤ p1.toInt ∧ p1.toInt ≤ 15
    · obtain ⟨k1, k2, k3⟩ := c16_i c1.1 c1.2
      have hne : ∀ n : Int32, 0 ≤ n.toInt → n.toInt ≤ 7 → ¬ p2 = n := fun n h1 h2 e => c ⟨c1, by rw [e]; exact ⟨h1, h2⟩⟩
      refine ⟨I, J, 1, 1, 6, iv_L_look _ ?_, by omega, by omega, st_w (st_w I 166 10 0) 166 10 1, J, 0, (ev_M_look (d := d) _).mpr ?_, e_o _ _ _, fun h => absurd h (by decide), RR_ee h (fun _ _ _ => rfl)⟩
      · rw [if_pos (cI_c.mpr c1)]
        refine ⟨k2, ?_⟩
        rw [if_neg (hne 0 (by decide) (by decide)), if_neg (hne 1 (by decide) (by decide)), if_neg (hne 2 (by decide) (by decide)), if_neg (hne 3 (by decide) (by decide)), if_neg (hne 4 (by decide) (by decide)), if_neg (hne 5 (by decide) (by decide)), if_neg (hne 6 (by decide) (by decide)), if_neg (hne 7 (by decide) (by decide))]
      · rw [if_pos (by rw [cI_m, i64_lt, i64_lt, tl, j0, e7]; omega)]
    · refine ⟨I, J, 1, 1, 6, iv_L_look _ ?_, by omega, by omega, st_w (st_w I 166 10 0) 166 10 1, J, 0, (ev_M_look (d := d) _).mpr ?_, e_o _ _ _, fun h => absurd h (by decide), RR_ee h (fun _ _ _ => rfl)⟩
      · rw [if_neg (fun z => c1 (cI_c.mp z))]
      · rw [if_pos (by rw [cI_m, i64_lt, i64_lt, tl, j0, e7]; omega)]
