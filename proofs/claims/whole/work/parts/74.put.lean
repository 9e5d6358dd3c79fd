/-! put -/
theorem on_eq {p : Int32} (h : p.toInt ≤ 64) : (if p = (64 : Int32) then (-1 : Int64) else (jl (1 : Int64) p) - (1 : Int64)) = on_ p := by
  unfold on_
  by_cases q : p = 64
  · rw [if_pos q, if_neg (by rw [q]; decide)]
  · rw [if_neg q, if_pos]
    rw [i32_lt]
    have : p.toInt ≠ 64 := fun z => q (by rw [i32_eq, z]; rfl)
    show p.toInt < 64
    omega
theorem RR_wd {I : st_I} {J : st_J} {s k : Nat} {V : Int64} (h : RR I J) (hs : s < 4) (hk : k < 64) : RR (st_w I 166 10 0) (st_y (st_y J (3 + s) k V) 167 (64 * s + k) V) := by
  obtain ⟨hm, hz, ho, hc⟩ := h
  obtain ⟨⟨a1, a2, a3⟩, b1, b2, b3, b4, b5⟩ := hm
  refine ⟨⟨⟨a1, a2, a3⟩, b1, b2, b3, fun s' k' hs' hk' => ?_, b5⟩, hz, Ro_cg ho rfl rfl (fun a f h1 h2 => ?_) rfl (fun _ => rfl), fun c hc' => cr_cg (hc c hc') (fun f _ => ?_) (fun a h1 h2 => ?_) (fun s _ => rfl)⟩
  · rw [st_y_e]
    by_cases q : 167 = 167 ∧ 64 * s' + k' = 64 * s + k
    · rw [if_pos q, st_y_e, if_neg (by omega), st_y_e, if_pos (by omega)]
    · rw [if_neg q, st_y_e, if_neg (by omega), st_y_e, if_neg (by omega), st_y_e, if_neg (by omega)]
      exact b4 s' k' hs' hk'
  · rw [st_w_e, if_neg (by omega)]
  · rw [st_w_e, if_neg (by omega)]
  · rw [st_w_e, if_neg (by omega)]
theorem own_c {I : st_I} (h : Rz I) : (¬ ((0 : Int32) < I 1 3)) ↔ (I 166 11 = 0) := by
  rcases h with ⟨z1, z2⟩ | ⟨z1, z2, z3, z4⟩
  · rw [z1, z2]
    exact ⟨fun _ => rfl, fun _ => by decide⟩
  · rw [z1, i32_lt, i0]
    exact ⟨fun q => absurd q (by omega), fun q => absurd q (by decide)⟩
set_option maxRecDepth 20000 in
theorem s_put {X : pm_X} (hX : X 1 = (8, eb)) {d : Nat} {I : st_I} {J : st_J} {p1 p2 p3 : Int32} {p4 : Int64} (h : RR I J) : StpV X (d + 4) 114 [.ref 0, .int p1, .int p2, .int p3, .long p4] 216 [.ref 166, .int p1, .int p2, .int p3, .long p4] I J := by
  have hw := h.1.1
  have hown := own_c h.2.1
  by_cases c : (0 ≤ p1.toInt ∧ p1.toInt ≤ 15) ∧ isW p2 ∧ 0 ≤ p3.toInt ∧ ¬ (I 166 11 = 0)
  · obtain ⟨k1, k2, k3⟩ := c16_i c.1.1 c.1.2
    obtain ⟨e1, e2, ep2, en2⟩ := isW_b c.2.1
    have hn := cln c.2.2.1
    have ep3 := oi_of c.2.2.1
    have hC : ¬ ((¬ ((¬ (p1 < (0 : Int32))) ∧ (p1 < (16 : Int32)))) ∨ ((¬ ((p2 = (1 : Int32)) ∨ ((p2 = (8 : Int32)) ∨ ((p2 = (16 : Int32)) ∨ ((p2 = (32 : Int32)) ∨ (p2 = (64 : Int32))))))) ∨ ((p3 < (0 : Int32)) ∨ (¬ ((0 : Int32) < (I 1 3)))))) := fun q => by
      rcases q with q | q | q | q
      · exact q (cI_c.mpr c.1)
      · exact q c.2.1
      · rw [i32_lt, i0] at q; omega
      · exact c.2.2.2 (hown.mp q)
    have hM : ¬ ((¬ ((¬ ((Int32.toInt64 p1) < (0 : Int64))) ∧ (¬ ((15 : Int64) < (Int32.toInt64 p1))))) ∨ ((¬ ((p2 = (1 : Int32)) ∨ ((p2 = (8 : Int32)) ∨ ((p2 = (16 : Int32)) ∨ ((p2 = (32 : Int32)) ∨ (p2 = (64 : Int32))))))) ∨ ((p3 < (0 : Int32)) ∨ ((I 166 11) = (0 : Int32))))) := fun q => by
      rcases q with q | q | q | q
      · exact q (cI_m.mpr c.1)
      · exact q c.2.1
      · rw [i32_lt, i0] at q; omega
      · exact c.2.2.2 q
    obtain ⟨⟨kd, dp, sg, pl, sh, db, pt, ct, cd⟩, hs9, hm9, hvk⟩ := h.2.2.2 p1.toNatClampNeg k1
    have g0 : I (150 + p1.toNatClampNeg) 0 = Int32.ofNat kd := hs9 0 (by omega)
    have g2 : I (150 + p1.toNatClampNeg) 2 = Int32.ofNat sg := hs9 2 (by omega)
    have g3 : I (150 + p1.toNatClampNeg) 3 = Int32.ofNat pl := hs9 3 (by omega)
    have g4 : I (150 + p1.toNatClampNeg) 4 = Int32.ofNat sh := hs9 4 (by omega)
    have g5 : I (150 + p1.toNatClampNeg) 5 = Int32.ofNat db := hs9 5 (by omega)
    have g7 : I (150 + p1.toNatClampNeg) 7 = Int32.ofNat ct := hs9 7 (by omega)
    have g8 : I (150 + p1.toNatClampNeg) 8 = Int32.ofNat cd := hs9 8 (by omega)
    have q173 : I 173 p1.toNatClampNeg = Int32.ofNat kd := hm9 173 (by omega) (by omega)
    have q175 : I 175 p1.toNatClampNeg = Int32.ofNat sg := hm9 175 (by omega) (by omega)
    have q176 : I 176 p1.toNatClampNeg = Int32.ofNat (64 * pl + sh) := hm9 176 (by omega) (by omega)
    have q177 : I 177 p1.toNatClampNeg = if kd = 1 then Int32.ofNat db else 0 := hm9 177 (by omega) (by omega)
    have q179 : I 179 p1.toNatClampNeg = Int32.ofNat ct := hm9 179 (by omega) (by omega)
    have q180 : I 180 p1.toNatClampNeg = Int32.ofNat cd := hm9 180 (by omega) (by omega)
    have hUs := hw.2.1 sg hvk.2.1
    have hUn := un_i hUs.1
    obtain ⟨w0, w1, w2, w3, w4, w5, w6, w7, w8⟩ := vk_b hvk (by omega)
    have hcase := hvk.2.2.2.2
    have kk0 : (Int32.ofNat kd = 0) ↔ kd = 0 := oi_eq (b := 0) (by omega) (by omega)
    have kk1 : (Int32.ofNat kd = 1) ↔ kd = 1 := oi_eq (b := 1) (by omega) (by omega)
    have kk2 : (Int32.ofNat kd = 2) ↔ kd = 2 := oi_eq (b := 2) (by omega) (by omega)
    have hmul : ((Int32.toInt64 p3 + 1) * Int32.toInt64 p2).toInt = (((p3.toNatClampNeg + 1) * p2.toNatClampNeg : Nat) : Int) := by
      have hb : (p3.toNatClampNeg + 1) * p2.toNatClampNeg ≤ 2147483648 * 64 := Nat.mul_le_mul (by have := p3.toInt_lt; omega) (by omega)
      have e : (((p3.toNatClampNeg + 1) * p2.toNatClampNeg : Nat) : Int) = (p3.toInt + 1) * p2.toInt := by
        rw [Int.natCast_mul, Int.natCast_add, hn, en2]
        rfl
      rw [e]
      refine jm2 (ja2 (tl p3) (show (1 : Int64).toInt = 1 from rfl) ?_ ?_) (tl p2) ?_ ?_
      · have := p3.toInt_lt; omega
      · have := p3.toInt_lt; omega
      · rw [← e]; omega
      · rw [← e]; omega
    have hasC : (((I (150 + p1.toNatClampNeg) 0 = 2) ∧ (p3 < I (150 + p1.toNatClampNeg) 7)) ∨ ((¬ (I (150 + p1.toNatClampNeg) 0 = 2)) ∧ (¬ ((Int32.toInt64 (I (150 + p1.toNatClampNeg) 5)) < ((Int32.toInt64 p3 + 1) * Int32.toInt64 p2))))) ↔ ((kd = 2 ∧ p3.toNatClampNeg < ct) ∨ (¬ kd = 2 ∧ (p3.toNatClampNeg + 1) * p2.toNatClampNeg ≤ db)) := by
      rw [g0, g7, g5, kk2, i32_lt, oi_i (by omega), i64_lt, tl, hmul, oi_i (by omega)]
      generalize (p3.toNatClampNeg + 1) * p2.toNatClampNeg = y
      omega
    have bC : ∀ B, B = 64 * pl + sh + p3.toNatClampNeg * p2.toNatClampNeg → I (150 + p1.toNatClampNeg) 3 * 64 + I (150 + p1.toNatClampNeg) 4 + p3 * p2 = Int32.ofNat B := fun B hB => by
      rw [g3, g4, show (64 : Int32) = Int32.ofNat 64 from rfl, oi_mu, oi_p]
      conv => lhs; rw [ep3, ep2]
      rw [oi_mu, oi_p, hB, Nat.mul_comm pl 64]
    have bM : ∀ B, B = 64 * pl + sh + p3.toNatClampNeg * p2.toNatClampNeg → I 176 p1.toNatClampNeg + p3 * p2 = Int32.ofNat B := fun B hB => by
      rw [q176]
      conv => lhs; rw [ep3, ep2]
      rw [oi_mu, oi_p, hB]
    have mb := bit_c (c := cd) (by omega) (Int32.ofNat cd) (oi_i (by omega))
    have m1 : ((I 173 p1.toNatClampNeg = 0) ∨ ((I 173 p1.toNatClampNeg = 2) ∧ (¬ ((if (I 180 p1.toNatClampNeg) = (0 : Int32) then (0 : Int32) else (if (5 : Int32) < (I 180 p1.toNatClampNeg) then (0 : Int32) else (if (I 180 p1.toNatClampNeg) = (1 : Int32) then (1 : Int32) else (il (4 : Int32) ((I 180 p1.toNatClampNeg) - (1 : Int32)))))) = p2)))) ↔ (kd = 0 ∨ (kd = 2 ∧ ¬ (cd ≤ 5 ∧ ebn cd = p2.toNatClampNeg))) := by
      rw [q173, q180, mb, kk0, kk2]
      have e : (Int32.ofNat (if cd ≤ 5 then ebn cd else 0) = p2) ↔ (cd ≤ 5 ∧ ebn cd = p2.toNatClampNeg) := by
        conv => lhs; rw [ep2]
        have hb := ebn_le cd
        rw [oi_eq (by split <;> omega) (by omega)]
        by_cases z : cd ≤ 5
        · rw [if_pos z]; omega
        · rw [if_neg z]; omega
      rw [e]
    have m2 : (((I 173 p1.toNatClampNeg = 2) ∧ (¬ (p3 < I 179 p1.toNatClampNeg))) ∨ ((¬ (I 173 p1.toNatClampNeg = 2)) ∧ (¬ ((I 173 p1.toNatClampNeg = 1) ∧ (¬ ((Int32.toInt64 (I 177 p1.toNatClampNeg)) < ((Int32.toInt64 p3 + 1) * Int32.toInt64 p2))))))) ↔ ((kd = 2 ∧ ¬ p3.toNatClampNeg < ct) ∨ (¬ kd = 2 ∧ ¬ (kd = 1 ∧ (p3.toNatClampNeg + 1) * p2.toNatClampNeg ≤ db))) := by
      rw [q173, q179, q177, kk2, kk1, i32_lt, oi_i (by omega), i64_lt, tl, hmul]
      generalize (p3.toNatClampNeg + 1) * p2.toNatClampNeg = y
      by_cases z : kd = 1
      · rw [if_pos z, oi_i (by omega)]; omega
      · rw [if_neg z]; omega
    -- both write the same word
    have good : ∀ B, B = 64 * pl + sh + p3.toNatClampNeg * p2.toNatClampNeg → B < 4096 → (∀ V : Int64, V = ((J (3 + sg) (B / 64)) &&& ((jl (on_ p2) (irm (Int32.ofNat B) 64)) ^^^ (-1))) ||| ((jl p4 (irm (Int32.ofNat B) 64)) &&& (jl (on_ p2) (irm (Int32.ofNat B) 64))) → Ex X (d + 4) 114 [.ref 0, .int p1, .int p2, .int p3, .long p4] (st_h I J) (.inl (some (.int 0)), st_h I (st_y J (3 + sg) (B / 64) V), 0, 0)) → ¬ (kd = 0 ∨ (kd = 2 ∧ ¬ (cd ≤ 5 ∧ ebn cd = p2.toNatClampNeg))) → ¬ ((kd = 2 ∧ ¬ p3.toNatClampNeg < ct) ∨ (¬ kd = 2 ∧ ¬ (kd = 1 ∧ (p3.toNatClampNeg + 1) * p2.toNatClampNeg ≤ db))) → StpV X (d + 4) 114 [.ref 0, .int p1, .int p2, .int p3, .long p4] 216 [.ref 166, .int p1, .int p2, .int p3, .long p4] I J := fun B hB hB4 hE n1 n2 => by
      obtain ⟨V, hV⟩ : ∃ V, V = ((J (3 + sg) (B / 64)) &&& ((jl (on_ p2) (irm (Int32.ofNat B) 64)) ^^^ (-1))) ||| ((jl p4 (irm (Int32.ofNat B) 64)) &&& (jl (on_ p2) (irm (Int32.ofNat B) 64))) := ⟨_, rfl⟩
      refine ⟨I, st_y J (3 + sg) (B / 64) V, 0, 0, 0, hE V hV, by omega, by omega, st_w I 166 10 0, st_y (st_y J (3 + sg) (B / 64) V) 167 (64 * sg + B / 64) V, (ev_M_put (d := d + 1) _).mpr ?_, e_1 _ _, RR_wd h w2 (by omega)⟩
      rw [if_neg hM]
      refine ⟨k3, ?_⟩
      rw [if_neg (fun z => n1 (m1.mp z)), if_neg (fun z => n2 (m2.mp z)), bM B hB, q175, on_eq e2, bw_sh]
      refine ⟨bit_k w2 hB4, ?_⟩
      rw [oi_d (by omega), oi_64 (by omega) (by omega), oi_n (by omega)]
      have hw1 : (st_y J (3 + sg) (B / 64) V) 167 (64 * sg + B / 64) = J (3 + sg) (B / 64) := by
        rw [st_y_e, if_neg (by omega)]
        exact h.1.2.2.2.2.1 sg (B / 64) w2 (by omega)
      rw [hw1, ← hV]
    by_cases z1 : kd = 1
    · by_cases z2 : (p3.toNatClampNeg + 1) * p2.toNatClampNeg ≤ db
      · have hB4 : 64 * pl + sh + p3.toNatClampNeg * p2.toNatClampNeg < 4096 := by
          rw [Nat.succ_mul] at z2
          omega
        refine good _ rfl hB4 (fun V hV => iv_L_put hX _ ?_) (by omega) (by omega)
        rw [if_neg hC]
        refine ⟨k2, ?_⟩
        rw [if_pos (by rw [g0]; exact kk1.mpr z1), if_pos (hasC.mpr (Or.inr ⟨by omega, z2⟩)), bC _ rfl, g2]
        refine ⟨oi_in w2 (by omega), bit_j hB4, ?_⟩
        rw [bit_c_ (J := J) w2 hB4, oi_n (by omega), oi_d (by omega), oi_n (by omega), hV]
        rfl
      · refine ⟨I, J, 1, 1, 6, iv_L_put hX _ ?_, by omega, by omega, st_w (st_w I 166 10 0) 166 10 1, J, (ev_M_put (d := d + 1) _).mpr ?_, e_o _ _ _, RR_ee h (fun _ _ _ => rfl)⟩
        · rw [if_neg hC]
          refine ⟨k2, ?_⟩
          rw [if_pos (by rw [g0]; exact kk1.mpr z1), if_neg (fun q => (hasC.mp q).elim (fun q => by omega) (fun q => z2 q.2))]
        · rw [if_neg hM]
          refine ⟨k3, ?_⟩
          rw [if_neg (fun z => by have := m1.mp z; omega), if_pos (m2.mpr (Or.inr ⟨by omega, fun q => z2 q.2⟩))]
    · have hne1 : ¬ (I (150 + p1.toNatClampNeg) 0 = 1) := by rw [g0]; exact fun z => z1 (kk1.mp z)
      have l1 : (Int32.ofNat cd < 1) ↔ cd < 1 := by rw [i32_lt, oi_i (by omega), show (1 : Int32).toInt = 1 from rfl]; omega
      have l5 : ((5 : Int32) < Int32.ofNat cd) ↔ 5 < cd := by rw [i32_lt, oi_i (by omega), show (5 : Int32).toInt = 5 from rfl]; omega
      have ck : ((I (150 + p1.toNatClampNeg) 0 = 2) → ((¬ (I (150 + p1.toNatClampNeg) 8 < 1)) → ((¬ ((5 : Int32) < I (150 + p1.toNatClampNeg) 8)) → (pm_in (I (150 + p1.toNatClampNeg) 8) 8) = true))) := fun _ _ _ => by rw [g8]; exact oi_in (by omega) (by omega)
      have hb := ebn_le cd
      have lst : ((I (150 + p1.toNatClampNeg) 0 = 2) ∧ ((¬ (I (150 + p1.toNatClampNeg) 8 < 1)) ∧ ((¬ ((5 : Int32) < I (150 + p1.toNatClampNeg) 8)) ∧ ((eb (Int32.toNatClampNeg (I (150 + p1.toNatClampNeg) 8))) = p2)))) ↔ (kd = 2 ∧ (cd ≤ 5 ∧ ebn cd = p2.toNatClampNeg)) := by
        rw [g0, g8, kk2, l1, l5, oi_n (by omega), eq_of (eb_n (n := cd) (by omega))]
        have e : (Int32.ofNat (ebn cd) = p2) ↔ ebn cd = p2.toNatClampNeg := by
          conv => lhs; rw [ep2]
          exact oi_eq (by omega) (by omega)
        rw [e]
        have hz : cd = 0 → ebn cd = 0 := fun z => by rw [z]; rfl
        omega
      by_cases z2 : kd = 2 ∧ (cd ≤ 5 ∧ ebn cd = p2.toNatClampNeg)
      · by_cases z3 : p3.toNatClampNeg < ct
        · have hB4 : 64 * pl + sh + p3.toNatClampNeg * p2.toNatClampNeg < 4096 := by
            have hdb : db = ebn cd ∧ sh = 0 ∧ 64 * pl + ct * db ≤ 64 * un (I 7) sg := by
              rcases hcase with q | q | q
              · omega
              · omega
              · obtain ⟨q1, q2, q3, q | q | q⟩ := q
                · exact ⟨q.2.1, q2, q.2.2.2⟩
                · omega
                · omega
            have hmul2 : p3.toNatClampNeg * p2.toNatClampNeg + p2.toNatClampNeg ≤ ct * p2.toNatClampNeg := by
              rw [← Nat.succ_mul]
              exact Nat.mul_le_mul_right _ (by omega)
            rw [hdb.1, z2.2.2] at hdb
            omega
          refine good _ rfl hB4 (fun V hV => iv_L_put hX _ ?_) (by omega) (by omega)
          rw [if_neg hC]
          refine ⟨k2, ?_⟩
          rw [if_neg hne1]
          refine ⟨ck, ?_⟩
          rw [if_pos (lst.mpr z2), if_pos (hasC.mpr (Or.inl ⟨z2.1, z3⟩)), bC _ rfl, g2]
          refine ⟨oi_in w2 (by omega), bit_j hB4, ?_⟩
          rw [bit_c_ (J := J) w2 hB4, oi_n (by omega), oi_d (by omega), oi_n (by omega), hV]
          rfl
        · refine ⟨I, J, 1, 1, 6, iv_L_put hX _ ?_, by omega, by omega, st_w (st_w I 166 10 0) 166 10 1, J, (ev_M_put (d := d + 1) _).mpr ?_, e_o _ _ _, RR_ee h (fun _ _ _ => rfl)⟩
          · rw [if_neg hC]
            refine ⟨k2, ?_⟩
            rw [if_neg hne1]
            refine ⟨ck, ?_⟩
            rw [if_pos (lst.mpr z2), if_neg (fun q => (hasC.mp q).elim (fun q => z3 q.2) (fun q => q.1 z2.1))]
          · rw [if_neg hM]
            refine ⟨k3, ?_⟩
            rw [if_neg (fun z => by have := m1.mp z; omega), if_pos (m2.mpr (Or.inl ⟨z2.1, z3⟩))]
      · refine ⟨I, J, 2, 1, 6, iv_L_put hX _ ?_, by omega, by omega, st_w (st_w I 166 10 0) 166 10 2, J, (ev_M_put (d := d + 1) _).mpr ?_, e_o _ _ _, RR_ee h (fun _ _ _ => rfl)⟩
        · rw [if_neg hC]
          refine ⟨k2, ?_⟩
          rw [if_neg hne1]
          refine ⟨ck, ?_⟩
          rw [if_neg (fun q => z2 (lst.mp q))]
        · rw [if_neg hM]
          refine ⟨k3, ?_⟩
          rw [if_pos (m1.mpr (by omega))]
  · refine ⟨I, J, 1, 1, 6, iv_L_put hX _ ?_, by omega, by omega, st_w (st_w I 166 10 0) 166 10 1, J, (ev_M_put (d := d + 1) _).mpr ?_, e_o _ _ _, RR_ee h (fun _ _ _ => rfl)⟩
    · rw [if_pos]
      by_cases q1 : 0 ≤ p1.toInt ∧ p1.toInt ≤ 15
      · by_cases q2 : isW p2
        · by_cases q3 : 0 ≤ p3.toInt
          · exact Or.inr (Or.inr (Or.inr (hown.mpr (Decidable.not_not.mp (fun q4 => c ⟨q1, q2, q3, q4⟩)))))
          · refine Or.inr (Or.inr (Or.inl ?_))
            rw [i32_lt, i0]
            omega
        · exact Or.inr (Or.inl q2)
      · exact Or.inl (fun q => q1 (cI_c.mp q))
    · rw [if_pos]
      by_cases q1 : 0 ≤ p1.toInt ∧ p1.toInt ≤ 15
      · by_cases q2 : isW p2
        · by_cases q3 : 0 ≤ p3.toInt
          · exact Or.inr (Or.inr (Or.inr (Decidable.not_not.mp (fun q4 => c ⟨q1, q2, q3, q4⟩))))
          · refine Or.inr (Or.inr (Or.inl ?_))
            rw [i32_lt, i0]
            omega
        · exact Or.inr (Or.inl q2)
      · exact Or.inl (fun q => q1 (cI_m.mp q))
