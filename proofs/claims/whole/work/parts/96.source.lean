/-! building: where a pointer to be built lies -/
/-- the class's way to it -/
def srcC (I : st_I) (p2 p3 : Int32) (A K B : Prop) : Prop := if p2 < (0 : Int32) then A else ((pm_in p2 16) = true ∧ (if (¬ ((I (150 + (Int32.toNatClampNeg p2)) 0) = (1 : Int32))) ∧ (¬ (((I (150 + (Int32.toNatClampNeg p2)) 0) = (2 : Int32)) ∧ ((I (150 + (Int32.toNatClampNeg p2)) 8) = (6 : Int32)))) then K else (if (p3 < (0 : Int32)) ∨ (¬ (p3 < (if (I (150 + (Int32.toNatClampNeg p2)) 0) = (2 : Int32) then (I (150 + (Int32.toNatClampNeg p2)) 7) else (I (150 + (Int32.toNatClampNeg p2)) 6)))) then B else A)))
def srcS (I : st_I) (p2 : Int32) : Int32 := if p2 < (0 : Int32) then (0 : Int32) else (I (150 + (Int32.toNatClampNeg p2)) 2)
def srcK (I : st_I) (p2 p3 : Int32) : Int32 := if p2 < (0 : Int32) then (0 : Int32) else (((I (150 + (Int32.toNatClampNeg p2)) 3) + ((I (150 + (Int32.toNatClampNeg p2)) 5) / (64 : Int32))) + p3)
/-- the reference's -/
def srcM (X : pm_X) (d : Nat) (I : st_I) (J : st_J) (p2 p3 : Int32) (s k : Nat) : Prop := ∀ (n : Int32) (w : Int64) (b : Int32) (K : st_I) (L : st_J), Ex X (d + 2) 209 [.ref 166, .int (Int32.ofNat s), .int (Int32.ofNat k), .int n, .long w] (st_h I J) (.inl (some (.int b)), st_h K L, 0, 0) → K 166 10 = 0 → Ex X (d + 3) 208 [.ref 166, .int p2, .int p3, .int n, .long w] (st_h I J) (.inl (some (.int b)), st_h (if b < (0 : Int32) then st_w K 166 10 3 else K) L, 0, 0)
def srcE (X : pm_X) (d : Nat) (I : st_I) (J : st_J) (p2 p3 : Int32) (e : Int32) : Prop := ∀ (n : Int32) (w : Int64), Ex X (d + 3) 208 [.ref 166, .int p2, .int p3, .int n, .long w] (st_h I J) (.inl (some (.int (-1))), st_h (st_w I 166 10 e) J, 0, 0)
set_option maxRecDepth 20000 in
theorem srcs {X : pm_X} {d : Nat} {I : st_I} {J : st_J} {p2 p3 : Int32} (h : RR I J) (h2 : -1 ≤ p2.toInt ∧ p2.toInt ≤ 15) :
  (∃ s k, s < 4 ∧ k < 64 ∧ (k < un (I 7) s ∨ (s = 0 ∧ k = 0)) ∧ (∀ A K B : Prop, A → srcC I p2 p3 A K B) ∧ srcS I p2 = Int32.ofNat s ∧ srcK I p2 p3 = Int32.ofNat k ∧ ((¬ (p2 < (0 : Int32))) → (pm_in p2 16) = true) ∧ ∀ (I1 : st_I) (J1 : st_J), (∀ a c, 173 ≤ a → a ≤ 182 → c < 16 → c = p2.toNatClampNeg → I1 a c = I a c) → I1 166 10 = 0 → srcM X d I1 J1 p2 p3 s k) ∨
  ((∀ A K B : Prop, K → srcC I p2 p3 A K B) ∧ ∀ (I1 : st_I) (J1 : st_J), (∀ a c, 173 ≤ a → a ≤ 182 → c < 16 → c = p2.toNatClampNeg → I1 a c = I a c) → I1 166 10 = 0 → srcE X d I1 J1 p2 p3 2) ∨
  ((∀ A K B : Prop, B → srcC I p2 p3 A K B) ∧ ∀ (I1 : st_I) (J1 : st_J), (∀ a c, 173 ≤ a → a ≤ 182 → c < 16 → c = p2.toNatClampNeg → I1 a c = I a c) → I1 166 10 = 0 → srcE X d I1 J1 p2 p3 1) := by
  have hw := h.1.1
  by_cases c : p2.toInt < 0
  · have hn : p2 < 0 := by rw [i32_lt, i0]; exact c
    refine Or.inl ⟨0, 0, by omega, by omega, Or.inr ⟨rfl, rfl⟩, fun A K B a => ?_, if_pos hn, if_pos hn, fun q => absurd hn q, fun I1 J1 hI he n w b K L hE hK => ?_⟩
    · unfold srcC
      rw [if_pos hn]
      exact a
    · refine iv_M_made (b := b) (K := K) (L := L) (b3 := b) (K3 := K) (L3 := L) _ ?_
      rw [if_pos hn]
      refine ⟨hE, ?_⟩
      by_cases q : b < 0
      · rw [if_pos q, if_pos hK, if_pos q]
      · rw [if_neg q, if_neg q]
  · have hn : ¬ p2 < 0 := by rw [i32_lt, i0]; exact c
    obtain ⟨m1, m2, m3⟩ := c16_i (p := p2) (by omega) h2.2
    obtain ⟨⟨kd, dp, sg, pl, sh, db, pt, ct, cd⟩, hs9, hm9, hvk⟩ := h.2.2.2 p2.toNatClampNeg m1
    have g0 : I (150 + p2.toNatClampNeg) 0 = Int32.ofNat kd := hs9 0 (by omega)
    have g2 : I (150 + p2.toNatClampNeg) 2 = Int32.ofNat sg := hs9 2 (by omega)
    have g3 : I (150 + p2.toNatClampNeg) 3 = Int32.ofNat pl := hs9 3 (by omega)
    have g5 : I (150 + p2.toNatClampNeg) 5 = Int32.ofNat db := hs9 5 (by omega)
    have g6 : I (150 + p2.toNatClampNeg) 6 = Int32.ofNat pt := hs9 6 (by omega)
    have g7 : I (150 + p2.toNatClampNeg) 7 = Int32.ofNat ct := hs9 7 (by omega)
    have g8 : I (150 + p2.toNatClampNeg) 8 = Int32.ofNat cd := hs9 8 (by omega)
    have q173 : I 173 p2.toNatClampNeg = Int32.ofNat kd := hm9 173 (by omega) (by omega)
    have q175 : I 175 p2.toNatClampNeg = Int32.ofNat sg := hm9 175 (by omega) (by omega)
    have q176 : I 176 p2.toNatClampNeg = Int32.ofNat (64 * pl + sh) := hm9 176 (by omega) (by omega)
    have q177 : I 177 p2.toNatClampNeg = if kd = 1 then Int32.ofNat db else 0 := hm9 177 (by omega) (by omega)
    have q178 : I 178 p2.toNatClampNeg = if kd = 1 then Int32.ofNat pt else 0 := hm9 178 (by omega) (by omega)
    have q179 : I 179 p2.toNatClampNeg = Int32.ofNat ct := hm9 179 (by omega) (by omega)
    have q180 : I 180 p2.toNatClampNeg = Int32.ofNat cd := hm9 180 (by omega) (by omega)
    have hUs := hw.2.1 sg hvk.2.1
    have hUn := un_i hUs.1
    obtain ⟨w0, w1, w2, w3, w4, w5, w6, w7, w8⟩ := vk_b hvk (by omega)
    have hcase := hvk.2.2.2.2
    have k0 : (Int32.ofNat kd = 0) ↔ kd = 0 := oi_eq (b := 0) (by omega) (by omega)
    have kk1 : (Int32.ofNat kd = 1) ↔ kd = 1 := oi_eq (b := 1) (by omega) (by omega)
    have kk2 : (Int32.ofNat kd = 2) ↔ kd = 2 := oi_eq (b := 2) (by omega) (by omega)
    have c6 : (Int32.ofNat cd = 6) ↔ cd = 6 := oi_eq (b := 6) (by omega) (by omega)
    have C1 : ((¬ ((I (150 + (Int32.toNatClampNeg p2)) 0) = (1 : Int32))) ∧ (¬ (((I (150 + (Int32.toNatClampNeg p2)) 0) = (2 : Int32)) ∧ ((I (150 + (Int32.toNatClampNeg p2)) 8) = (6 : Int32))))) ↔ (kd = 0 ∨ (kd = 2 ∧ ¬ cd = 6)) := by
      rw [g0, g8, kk1, kk2, c6]
      omega
    have C2 : ((p3 < (0 : Int32)) ∨ (¬ (p3 < (if (I (150 + (Int32.toNatClampNeg p2)) 0) = (2 : Int32) then (I (150 + (Int32.toNatClampNeg p2)) 7) else (I (150 + (Int32.toNatClampNeg p2)) 6))))) ↔ (p3.toInt < 0 ∨ ¬ p3.toInt < (if kd = 2 then (ct : Int) else (pt : Int))) := by
      rw [g0, g7, g6, i32_lt, i0]
      by_cases q : kd = 2
      · rw [if_pos (kk2.mpr q), if_pos q, i32_lt, oi_i (by omega)]
      · rw [if_neg (fun z => q (kk2.mp z)), if_neg q, i32_lt, oi_i (by omega)]
    have M1 : ∀ I1 : st_I, (∀ a c, 173 ≤ a → a ≤ 182 → c < 16 → c = p2.toNatClampNeg → I1 a c = I a c) → ((((I1 173 p2.toNatClampNeg) = (0 : Int32)) ∨ (((I1 173 p2.toNatClampNeg) = (2 : Int32)) ∧ (¬ ((I1 180 p2.toNatClampNeg) = (6 : Int32))))) ↔ (kd = 0 ∨ (kd = 2 ∧ ¬ cd = 6))) := fun I1 hI => by
      rw [hI 173 _ (by omega) (by omega) m1 rfl, hI 180 _ (by omega) (by omega) m1 rfl, q173, q180, k0, kk2, c6]
    have inN : ∀ n : Nat, n ≤ 100000 → (((¬ ((Int32.toInt64 p3) < (0 : Int64))) ∧ (¬ ((Int32.toInt64 (Int32.ofNat n - (1 : Int32))) < (Int32.toInt64 p3)))) ↔ (0 ≤ p3.toInt ∧ p3.toInt < n)) := fun n hn => by
      rw [i64_lt, i64_lt, tl, tl, j0, s_1 (by rw [oi_i (by omega)]; omega) (by rw [oi_i (by omega)]; omega), oi_i (by omega)]
      omega
    have M2 : ∀ I1 : st_I, (∀ a c, 173 ≤ a → a ≤ 182 → c < 16 → c = p2.toNatClampNeg → I1 a c = I a c) → ¬ (kd = 0 ∨ (kd = 2 ∧ ¬ cd = 6)) → pat I1 p2.toNatClampNeg p3 = (if 0 ≤ p3.toInt ∧ p3.toInt < (if kd = 2 then (ct : Int) else (pt : Int)) then Int32.ofNat (pl + db / 64 + p3.toNatClampNeg) else -1) := fun I1 hI hnk => by
      unfold pat
      rw [hI 173 _ (by omega) (by omega) m1 rfl, hI 180 _ (by omega) (by omega) m1 rfl, hI 176 _ (by omega) (by omega) m1 rfl, hI 177 _ (by omega) (by omega) m1 rfl, hI 178 _ (by omega) (by omega) m1 rfl, hI 179 _ (by omega) (by omega) m1 rfl, q173, q176, q177, q178, q179, q180]
      by_cases z : kd = 1
      · rw [if_pos (kk1.mpr z), if_pos z, if_pos z, if_neg (show ¬ kd = 2 by omega)]
        by_cases y : 0 ≤ p3.toInt ∧ p3.toInt < (pt : Int)
        · rw [if_pos ((inN pt (by omega)).mpr y), if_pos y]
          have hp := cln y.1
          have e3 := oi_of y.1
          have hsh : sh = 0 ∧ db % 64 = 0 := by
            rcases hcase with q | q | q
            · omega
            · omega
            · omega
          rw [oi_d (by omega), oi_d (by omega), oi_p]
          conv => lhs; rw [e3]
          rw [oi_p]
          congr 1
          omega
        · rw [if_neg (fun q => y ((inN pt (by omega)).mp q)), if_neg y]
      · have z2 : kd = 2 ∧ cd = 6 := by omega
        rw [if_neg (fun q => z (kk1.mp q)), if_pos (kk2.mpr z2.1), if_pos (c6.mpr z2.2), if_pos z2.1]
        by_cases y : 0 ≤ p3.toInt ∧ p3.toInt < (ct : Int)
        · rw [if_pos ((inN ct (by omega)).mpr y), if_pos y]
          have hp := cln y.1
          have e3 := oi_of y.1
          have hsh : sh = 0 ∧ db = 0 := by
            rcases hcase with q | q | q
            · omega
            · omega
            · omega
          rw [oi_d (by omega)]
          conv => lhs; rw [e3]
          rw [oi_p]
          congr 1
          omega
        · rw [if_neg (fun q => y ((inN ct (by omega)).mp q)), if_neg y]
    by_cases d1 : kd = 0 ∨ (kd = 2 ∧ ¬ cd = 6)
    · refine Or.inr (Or.inl ⟨fun A K B a => ?_, fun I1 J1 hI he n w => ?_⟩)
      · unfold srcC
        rw [if_neg hn]
        refine ⟨m2, ?_⟩
        rw [if_pos (C1.mpr d1)]
        exact a
      · refine iv_M_made (b := 0) (K := I1) (L := J1) (b3 := 0) (K3 := I1) (L3 := J1) _ ?_
        rw [if_neg hn]
        refine ⟨m3, ?_⟩
        rw [if_pos ((M1 I1 hI).mpr d1), if_pos he]
    · by_cases d2 : 0 ≤ p3.toInt ∧ p3.toInt < (if kd = 2 then (ct : Int) else (pt : Int))
      · have hp := cln d2.1
        have e3 := oi_of d2.1
        have hk : pl + db / 64 + p3.toNatClampNeg < un (I 7) sg := by
          rcases hcase with q | q | q
          · omega
          · rw [if_neg (by omega)] at d2
            have : pt ≠ 0 := by omega
            obtain ⟨q1, q2, q3, q4, q5⟩ := q
            omega
          · rw [if_pos (by omega)] at d2
            obtain ⟨q1, q2, q3, q | q | q⟩ := q
            · omega
            · omega
            · omega
        refine Or.inl ⟨sg, pl + db / 64 + p3.toNatClampNeg, w2, by omega, Or.inl hk, fun A K B a => ?_, ?_, ?_, fun _ => m2, fun I1 J1 hI he n w b K L hE hK => ?_⟩
        · unfold srcC
          rw [if_neg hn]
          refine ⟨m2, ?_⟩
          rw [if_neg (fun z => d1 (C1.mp z)), if_neg (fun z => by have := C2.mp z; omega)]
          exact a
        · unfold srcS
          rw [if_neg hn, g2]
        · unfold srcK
          rw [if_neg hn, g3, g5, oi_d (by omega), oi_p]
          conv => lhs; rw [e3]
          rw [oi_p]
        · refine iv_M_made (b := b) (K := K) (L := L) (b3 := b) (K3 := K) (L3 := L) _ ?_
          have hpat := M2 I1 hI d1
          rw [if_pos d2] at hpat
          unfold pat at hpat
          have h175 : I1 175 p2.toNatClampNeg = Int32.ofNat sg := by rw [hI 175 _ (by omega) (by omega) m1 rfl, q175]
          rw [if_neg hn]
          refine ⟨m3, ?_⟩
          rw [if_neg (fun z => d1 ((M1 I1 hI).mp z)), if_pos he, hpat, if_neg (oi_ng (by omega)), h175]
          refine ⟨?_, ?_⟩
          · exact hE
          · by_cases q : b < 0
            · rw [if_pos q, if_pos hK, if_pos q]
            · rw [if_neg q, if_neg q]
      · refine Or.inr (Or.inr ⟨fun A K B a => ?_, fun I1 J1 hI he n w => ?_⟩)
        · unfold srcC
          rw [if_neg hn]
          refine ⟨m2, ?_⟩
          rw [if_neg (fun z => d1 (C1.mp z)), if_pos (C2.mpr (by omega))]
          exact a
        · refine iv_M_made (b := 0) (K := I1) (L := J1) (b3 := 0) (K3 := I1) (L3 := J1) _ ?_
          have hpat := M2 I1 hI d1
          rw [if_neg d2] at hpat
          unfold pat at hpat
          rw [if_neg hn]
          refine ⟨m3, ?_⟩
          rw [if_neg (fun z => d1 ((M1 I1 hI).mp z)), if_pos he, hpat, if_pos (by decide)]
