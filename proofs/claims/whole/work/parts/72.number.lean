/-! number: a field of a struct -/
def on_ (p : Int32) : Int64 := if p < (64 : Int32) then (jl (1 : Int64) p) - (1 : Int64) else (-1 : Int64)
def cut_ (p : Int32) (v : Int64) : Int64 := if p = (64 : Int32) then v else v &&& ((jl (1 : Int64) p) - (1 : Int64))
def sgn_ (p : Int32) (v : Int64) : Int64 := if p = (1 : Int32) then v else jr (jl v ((64 : Int32) - p)) ((64 : Int32) - p)
theorem and_m1 (v : Int64) : v &&& (-1) = v := by
  apply Int64.toBitVec_inj.mp
  show v.toBitVec &&& (-1#64) = v.toBitVec
  rw [show (-1#64 : BitVec 64) = BitVec.allOnes 64 by decide, BitVec.and_allOnes]
theorem cut_on {p : Int32} (h : p.toInt ≤ 64) (v : Int64) : v &&& on_ p = cut_ p v := by
  unfold on_ cut_
  by_cases q : p = 64
  · rw [if_pos q, if_neg (by rw [q]; decide), and_m1]
  · rw [if_neg q, if_pos]
    rw [i32_lt]
    have : p.toInt ≠ 64 := fun z => q (by rw [i32_eq, z]; rfl)
    show p.toInt < 64
    omega
/-- the sizes of fields -/
def isW (p : Int32) : Prop := (p = (1 : Int32)) ∨ ((p = (8 : Int32)) ∨ ((p = (16 : Int32)) ∨ ((p = (32 : Int32)) ∨ (p = (64 : Int32)))))
theorem isW_b {p : Int32} (h : isW p) : 1 ≤ p.toInt ∧ p.toInt ≤ 64 ∧ p = Int32.ofNat p.toNatClampNeg ∧ (p.toNatClampNeg : Int) = p.toInt := by
  have hb : 1 ≤ p.toInt ∧ p.toInt ≤ 64 := by
    rcases h with rfl | rfl | rfl | rfl | rfl <;> decide
  exact ⟨hb.1, hb.2, oi_of (by omega), cln (by omega)⟩
/-- the two words at one bit -/
theorem bit_c_ {J : st_J} {s B : Nat} (hs : s < 4) (hB : B < 4096) : J (3 + (Int32.ofNat s).toNatClampNeg) (Int32.toNatClampNeg (Int32.ofNat B / 64)) = J (3 + s) (B / 64) := by
  rw [oi_n (by omega), oi_d (by omega), oi_n (by omega)]
theorem bit_m_ {J : st_J} {s B : Nat} (hs : s < 4) (hB : B < 4096) : J 167 (Int32.toNatClampNeg ((64 : Int32) * Int32.ofNat s + Int32.ofNat B / 64)) = J 167 (64 * s + B / 64) := by
  rw [oi_d (by omega), oi_64 (by omega) (by omega), oi_n (by omega)]
theorem bit_k {s B : Nat} (hs : s < 4) (hB : B < 4096) : pm_in ((64 : Int32) * Int32.ofNat s + Int32.ofNat B / 64) 256 = true := by
  rw [oi_d (by omega), oi_64 (by omega) (by omega)]
  exact oi_in (by omega) (by omega)
theorem bit_j {B : Nat} (hB : B < 4096) : pm_in (Int32.ofNat B / 64) 64 = true := by
  rw [oi_d (by omega)]
  exact oi_in (by omega) (by omega)
set_option maxRecDepth 20000 in
theorem s_number {X : pm_X} {d : Nat} {I : st_I} {J : st_J} {p1 p2 p3 : Int32} {p4 : Int64} (h : RR I J) : StpL X (d + 5) 64 [.ref 0, .int p1, .int p2, .int p3, .long p4, .ref 187] 195 [.ref 166, .int p1, .int p2, .int p3, .long p4] I J := by
  have hw := h.1.1
  by_cases c : (0 ≤ p1.toInt ∧ p1.toInt ≤ 15) ∧ isW p2 ∧ 0 ≤ p3.toInt
  · obtain ⟨k1, k2, k3⟩ := c16_i c.1.1 c.1.2
    obtain ⟨e1, e2, ep2, en2⟩ := isW_b c.2.1
    have hn := cln c.2.2
    have ep3 := oi_of c.2.2
    have hC : ¬ ((¬ ((¬ (p1 < (0 : Int32))) ∧ (p1 < (16 : Int32)))) ∨ ((¬ ((p2 = (1 : Int32)) ∨ ((p2 = (8 : Int32)) ∨ ((p2 = (16 : Int32)) ∨ ((p2 = (32 : Int32)) ∨ (p2 = (64 : Int32))))))) ∨ (p3 < (0 : Int32)))) := fun q => by
      rcases q with q | q | q
      · exact q (cI_c.mpr c.1)
      · exact q c.2.1
      · rw [i32_lt, i0] at q; omega
    have hM : ¬ ((¬ ((¬ ((Int32.toInt64 p1) < (0 : Int64))) ∧ (¬ ((15 : Int64) < (Int32.toInt64 p1))))) ∨ ((¬ ((p2 = (1 : Int32)) ∨ ((p2 = (8 : Int32)) ∨ ((p2 = (16 : Int32)) ∨ ((p2 = (32 : Int32)) ∨ (p2 = (64 : Int32))))))) ∨ (p3 < (0 : Int32)))) := fun q => by
      rcases q with q | q | q
      · exact q (cI_m.mpr c.1)
      · exact q c.2.1
      · rw [i32_lt, i0] at q; omega
    obtain ⟨⟨kd, dp, sg, pl, sh, db, pt, ct, cd⟩, hs9, hm9, hvk⟩ := h.2.2.2 p1.toNatClampNeg k1
    have g0 : I (150 + p1.toNatClampNeg) 0 = Int32.ofNat kd := hs9 0 (by omega)
    have g2 : I (150 + p1.toNatClampNeg) 2 = Int32.ofNat sg := hs9 2 (by omega)
    have g3 : I (150 + p1.toNatClampNeg) 3 = Int32.ofNat pl := hs9 3 (by omega)
    have g4 : I (150 + p1.toNatClampNeg) 4 = Int32.ofNat sh := hs9 4 (by omega)
    have g5 : I (150 + p1.toNatClampNeg) 5 = Int32.ofNat db := hs9 5 (by omega)
    have q173 : I 173 p1.toNatClampNeg = Int32.ofNat kd := hm9 173 (by omega) (by omega)
    have q175 : I 175 p1.toNatClampNeg = Int32.ofNat sg := hm9 175 (by omega) (by omega)
    have q176 : I 176 p1.toNatClampNeg = Int32.ofNat (64 * pl + sh) := hm9 176 (by omega) (by omega)
    have q177 : I 177 p1.toNatClampNeg = if kd = 1 then Int32.ofNat db else 0 := hm9 177 (by omega) (by omega)
    have hUs := hw.2.1 sg hvk.2.1
    have hUn := un_i hUs.1
    obtain ⟨w0, w1, w2, w3, w4, w5, w6, w7, w8⟩ := vk_b hvk (by omega)
    have hcase := hvk.2.2.2.2
    have kk1 : (Int32.ofNat kd = 1) ↔ kd = 1 := oi_eq (b := 1) (by omega) (by omega)
    have kk2 : (Int32.ofNat kd = 2) ↔ kd = 2 := oi_eq (b := 2) (by omega) (by omega)
    by_cases d1 : kd = 2
    · refine ⟨I, J, 2, 1, 6, iv_L_number _ ?_, by omega, by omega, st_w (st_w I 166 10 0) 166 10 2, J, 0, (ev_M_number (d := d + 1) _).mpr ?_, e_o _ _ _, fun h => absurd h (by decide), RR_ee h (fun _ _ _ => rfl)⟩
      · rw [if_neg hC]
        refine ⟨k2, ?_⟩
        rw [if_pos (by rw [g0]; exact kk2.mpr d1)]
      · rw [if_neg hM]
        refine ⟨k3, ?_⟩
        rw [if_pos (by rw [q173]; exact kk2.mpr d1)]
    · have hmul : ((Int32.toInt64 p3 + 1) * Int32.toInt64 p2).toInt = (((p3.toNatClampNeg + 1) * p2.toNatClampNeg : Nat) : Int) := by
        have hb : (p3.toNatClampNeg + 1) * p2.toNatClampNeg ≤ 2147483648 * 64 := Nat.mul_le_mul (by have := p3.toInt_lt; omega) (by omega)
        have e : (((p3.toNatClampNeg + 1) * p2.toNatClampNeg : Nat) : Int) = (p3.toInt + 1) * p2.toInt := by
          rw [Int.natCast_mul, Int.natCast_add, hn, en2]
          rfl
        rw [e]
        refine jm2 (ja2 (tl p3) (show (1 : Int64).toInt = 1 from rfl) ?_ ?_) (tl p2) ?_ ?_
        · have := p3.toInt_lt; omega
        · have := p3.toInt_lt; omega
        · rw [← e]; omega
        · rw [← e]; omega
      have okC : (¬ ((Int32.toInt64 (I (150 + p1.toNatClampNeg) 5)) < ((Int32.toInt64 p3 + 1) * Int32.toInt64 p2))) ↔ (p3.toNatClampNeg + 1) * p2.toNatClampNeg ≤ db := by
        rw [g5, i64_lt, tl, hmul, oi_i (by omega)]
        omega
      have hpos : 1 ≤ (p3.toNatClampNeg + 1) * p2.toNatClampNeg := Nat.mul_pos (by omega) (by omega)
      have okM : ((I 173 p1.toNatClampNeg = 1) ∧ (¬ ((Int32.toInt64 (I 177 p1.toNatClampNeg)) < ((Int32.toInt64 p3 + 1) * Int32.toInt64 p2)))) ↔ (p3.toNatClampNeg + 1) * p2.toNatClampNeg ≤ db := by
        rw [q173, kk1, q177, i64_lt, tl, hmul]
        by_cases z : kd = 1
        · rw [if_pos z, oi_i (by omega)]
          omega
        · constructor
          · exact fun q => absurd q.1 z
          · intro q
            have : kd = 0 := by omega
            omega
      have hl0 : ¬ (I (150 + p1.toNatClampNeg) 0 = 2) := by rw [g0]; exact fun z => d1 (kk2.mp z)
      have hm0 : ¬ (I 173 p1.toNatClampNeg = 2) := by rw [q173]; exact fun z => d1 (kk2.mp z)
      by_cases d2 : (p3.toNatClampNeg + 1) * p2.toNatClampNeg ≤ db
      · have hk1 : kd = 1 := by omega
        obtain ⟨B, hB⟩ : ∃ B, B = 64 * pl + sh + p3.toNatClampNeg * p2.toNatClampNeg := ⟨_, rfl⟩
        have hB4 : B < 4096 := by
          rw [Nat.succ_mul] at d2
          omega
        have bC : I (150 + p1.toNatClampNeg) 3 * 64 + I (150 + p1.toNatClampNeg) 4 + p3 * p2 = Int32.ofNat B := by
          rw [g3, g4, show (64 : Int32) = Int32.ofNat 64 from rfl, oi_mu, oi_p]
          conv => lhs; rw [ep3, ep2]
          rw [oi_mu, oi_p, hB, Nat.mul_comm pl 64]
        have bM : I 176 p1.toNatClampNeg + p3 * p2 = Int32.ofNat B := by
          rw [q176]
          conv => lhs; rw [ep3, ep2]
          rw [oi_mu, oi_p, hB]
        have hval : ∀ x : Int64, x ^^^ (p4 &&& on_ p2) = x ^^^ cut_ p2 p4 := fun x => by rw [cut_on e2]
        obtain ⟨V, hV⟩ : ∃ V, V = sgn_ p2 (cut_ p2 (ju (J (3 + sg) (B / 64)) (irm (Int32.ofNat B) 64)) ^^^ cut_ p2 p4) := ⟨_, rfl⟩
        refine ⟨I, st_y J 187 0 V, 0, 0, 0, iv_L_number _ ?_, by omega, by omega, st_w I 166 10 0, st_y J 187 0 V, V, (ev_M_number (d := d + 1) _).mpr ?_, e_1 _ _, fun _ => y_o _ _, RR_e h (rJ_o _ _)⟩
        · rw [if_neg hC]
          refine ⟨k2, ?_⟩
          rw [if_neg hl0, if_pos (Or.inr ⟨hl0, okC.mpr d2⟩), bC, g2, bit_c_ (J := J) w2 hB4, hV]
          refine ⟨oi_in w2 (by omega), bit_j hB4, ?_⟩
          rw [← cut_on e2, ← cut_on e2]
          rfl
        · rw [if_neg hM]
          refine ⟨k3, ?_⟩
          rw [if_neg hm0, bM, q175, bit_m_ (J := st_y J 187 0 V) w2 hB4, rJ_o _ _ _ _ (Or.inr rfl), h.1.2.2.2.2.1 sg (B / 64) w2 (by omega)]
          refine ⟨fun _ => bit_k w2 hB4, ?_⟩
          rw [if_pos (okM.mpr d2), hV]
          rfl
      · refine ⟨I, st_y J 187 0 (sgn_ p2 (0 ^^^ cut_ p2 p4)), 0, 0, 0, iv_L_number _ ?_, by omega, by omega, st_w I 166 10 0, _, sgn_ p2 (0 ^^^ cut_ p2 p4), (ev_M_number (d := d + 1) _).mpr ?_, e_1 _ _, fun _ => y_o _ _, RR_e h (rJ_o _ _)⟩
        · rw [if_neg hC]
          refine ⟨k2, ?_⟩
          rw [if_neg hl0, if_neg (fun q => q.elim (fun q => hl0 q.1) (fun q => d2 (okC.mp q.2)))]
          rw [← cut_on e2]
          rfl
        · rw [if_neg hM]
          refine ⟨k3, ?_⟩
          rw [if_neg hm0]
          refine ⟨fun q => absurd (okM.mp q) d2, ?_⟩
          rw [if_neg (fun q => d2 (okM.mp q))]
          rfl
  · refine ⟨I, J, 1, 1, 6, iv_L_number _ ?_, by omega, by omega, st_w (st_w I 166 10 0) 166 10 1, J, 0, (ev_M_number (d := d + 1) _).mpr ?_, e_o _ _ _, fun h => absurd h (by decide), RR_ee h (fun _ _ _ => rfl)⟩
    · rw [if_pos]
      by_cases q1 : 0 ≤ p1.toInt ∧ p1.toInt ≤ 15
      · by_cases q2 : isW p2
        · refine Or.inr (Or.inr ?_)
          rw [i32_lt, i0]
          exact Int.lt_of_not_ge (fun q3 => c ⟨q1, q2, q3⟩)
        · exact Or.inr (Or.inl q2)
      · exact Or.inl (fun q => q1 (cI_c.mp q))
    · rw [if_pos]
      by_cases q1 : 0 ≤ p1.toInt ∧ p1.toInt ≤ 15
      · by_cases q2 : isW p2
        · refine Or.inr (Or.inr ?_)
          rw [i32_lt, i0]
          exact Int.lt_of_not_ge (fun q3 => c ⟨q1, q2, q3⟩)
        · exact Or.inr (Or.inl q2)
      · exact Or.inl (fun q => q1 (cI_m.mp q))
