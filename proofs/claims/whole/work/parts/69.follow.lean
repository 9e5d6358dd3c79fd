/-! follow -/
theorem fol_no {X : pm_X} {d : Nat} {I : st_I} {J : st_J} {s k dp : Nat} {t : Int32 × Int32 × Int64} (h : RR I J) (hs : s < 4) (hk : k < 64) (hd : dp ≤ 64) (hl : ld (cw J) (un (I 7)) (I 1 2).toNatClampNeg (I 8 0).toNatClampNeg s k dp = none) : ∃ K, Ex X (d + 4) 182 [.ref 166, .int 16, .int (Int32.ofNat s), .int (Int32.ofNat k), .int (Int32.ofNat dp)] (st_h (st_w (fI I t) 166 10 0) (st_y J 8 3 t.2.2)) (.inl (some (.int 0)), st_h K (st_y J 8 3 t.2.2), 0, 0) ∧ K 166 10 = 0 ∧ ∀ e, RR (st_w K 166 10 e) (st_y J 8 3 t.2.2) := by
  have hmf := mf_ex (X := X) (d := d) (I := st_w (fI I t) 166 10 0) (J := st_y J 8 3 t.2.2) (s := s) (k := k) (dp := dp) (wmm_rel h (by rw [st_w_e, if_neg (by omega), fI_o _ _ (by omega)]) (by rw [st_w_e, if_neg (by omega), fI_o _ _ (by omega)]) (fun s _ => by rw [st_w_e, if_neg (by omega), fI_o _ _ (by omega)])) hs hk hd
  rw [ld_rel h (by rw [st_w_e, if_neg (by omega), fI_o _ _ (by omega)]) (by rw [st_w_e, if_neg (by omega), fI_o _ _ (by omega)]) (fun s _ => by rw [st_w_e, if_neg (by omega), fI_o _ _ (by omega)]) (fun k => by rw [st_y_e, if_neg (by omega)]) hs hk, hl] at hmf
  obtain ⟨K, b, hE, hMA, hb, hK8⟩ := hmf
  subst hb
  exact ⟨K, hE, (hMA 166 10 (by omega) (by omega)).trans (e_1 _ _), fun e => fo_no h hMA hK8⟩
/-- the class's state with a cursor led on -/
def yI (I : st_I) (t : Int32 × Int32 × Int64) (c : Nat) (v : Nat × Nat × Nat × Nat × Nat × Nat × Nat × Nat) (ch : Nat) : st_I := st_sq (st_w (fI I t) 8 0 (Int32.ofNat ((I 8 0).toNatClampNeg - ch))) (150 + c) (spv v)
theorem yI_o (I : st_I) (t : Int32 × Int32 × Int64) {c : Nat} (hc : c < 16) (v : Nat × Nat × Nat × Nat × Nat × Nat × Nat × Nat) (ch : Nat) {a f : Nat} (q1 : ¬ (a = 8 ∧ f ≤ 2)) (q2 : ¬ (150 ≤ a ∧ a ≤ 165)) : yI I t c v ch a f = I a f := by
  unfold yI st_sq
  rw [if_neg (by omega), st_w_e, if_neg (by omega), fI_o _ _ (by omega)]
theorem yI_k (I : st_I) (t : Int32 × Int32 × Int64) (c : Nat) (v : Nat × Nat × Nat × Nat × Nat × Nat × Nat × Nat) (ch : Nat) : yI I t c v ch (150 + c) 0 = Int32.ofNat v.1 := by
  unfold yI st_sq
  rw [if_pos ⟨rfl, by omega⟩]
  rfl
theorem fol_yes {X : pm_X} {d : Nat} {I : st_I} {J : st_J} {c s k dp ch : Nat} {v : Nat × Nat × Nat × Nat × Nat × Nat × Nat × Nat} {t : Int32 × Int32 × Int64} (h : RR I J) (hc : c < 16) (hs : s < 4) (hk : k < 64) (hd : dp ≤ 64) (hl : ld (cw J) (un (I 7)) (I 1 2).toNatClampNeg (I 8 0).toNatClampNeg s k dp = some (v, ch)) : ∃ K, Ex X (d + 4) 182 [.ref 166, .int 16, .int (Int32.ofNat s), .int (Int32.ofNat k), .int (Int32.ofNat dp)] (st_h (st_w (yI I t c v ch) 166 10 0) (st_y (st_y J 8 3 t.2.2) 187 0 (Int32.toInt64 (Int32.ofNat v.1)))) (.inl (some (.int 1)), st_h K (st_y (st_y J 8 3 t.2.2) 187 0 (Int32.toInt64 (Int32.ofNat v.1))), 0, 0) ∧ K 166 10 = 0 ∧ K 173 16 = Int32.ofNat v.1 ∧ RR (cp10 K c) (st_y (st_y J 8 3 t.2.2) 187 0 (Int32.toInt64 (Int32.ofNat v.1))) := by
  have hw := h.1.1
  have hS4 := cln (x := I 1 2) (by have := hw.1; omega)
  have hA4 := cln hw.2.2.1
  have hmsp : ∀ {a f : Nat}, ¬ (a = 8 ∧ f ≤ 2) → ¬ (150 ≤ a ∧ a ≤ 165) → ¬ (a = 166 ∧ f = 10) → (st_w (yI I t c v ch) 166 10 0) a f = I a f := fun {a f} q1 q2 q3 => by
    rw [st_w_e, if_neg q3, yI_o _ _ hc _ _ q1 q2]
  obtain ⟨hv, hch⟩ := ld_vk hl (by have := hw.1; omega) hs hk (fun s hs => by have := cln (hw.2.1 s hs).1; have := (hw.2.1 s hs).2; unfold un; omega) (by have := hw.2.2; omega) hd
  have hmf := mf_ex (X := X) (d := d) (I := st_w (yI I t c v ch) 166 10 0) (J := st_y (st_y J 8 3 t.2.2) 187 0 (Int32.toInt64 (Int32.ofNat v.1))) (s := s) (k := k) (dp := dp) (wmm_rel h (hmsp (by omega) (by omega) (by omega)) (hmsp (by omega) (by omega) (by omega)) (fun s _ => hmsp (by omega) (by omega) (by omega))) hs hk hd
  rw [ld_rel h (hmsp (by omega) (by omega) (by omega)) (hmsp (by omega) (by omega) (by omega)) (fun s _ => hmsp (by omega) (by omega) (by omega)) (fun k => by rw [st_y_e, if_neg (by omega), st_y_e, if_neg (by omega)]) hs hk, hl, hmsp (by omega) (by omega) (by omega), h.1.2.2.2.1] at hmf
  obtain ⟨K, b, hE, hMA, hb, hK8, hKv⟩ := hmf
  subst hb
  exact ⟨K, hE, (hMA 166 10 (by omega) (by omega)).trans (e_1 _ _), hKv 173 (by omega) (by omega), fo_ok h hc hv hch hMA hK8 hKv⟩
/-- a cursor cleared on both sides -/
theorem RR_clr {I I' : st_I} {J J' : st_J} {c : Nat} (h : RR I J) (hc : c < 16) (h1 : ∀ a f, rI a f → ¬ (a = 150 + c ∧ f < 9) → ¬ (173 ≤ a ∧ a ≤ 182 ∧ f = c) → I' a f = I a f) (h2 : ∀ f, f < 9 → I' (150 + c) f = 0) (h3 : ∀ a, 173 ≤ a → a ≤ 182 → I' a c = 0) (h8 : ∀ a k, rJ a → J' a k = J a k) : RR I' J' := by
  obtain ⟨w, g1, g2, g3⟩ := cr_0 (I := fun a f => if 150 ≤ a then 0 else I a f) (c := c) (fun f hf => if_pos (by omega)) (fun a q1 q2 => if_pos (by omega))
  refine RR_set h hc (v := (0, 0, 0, 0, 0, 0, 0, 0, 0)) (x := I 8 0) (fun a f hr q1 q2 q3 q4 => h1 a f hr (fun z => q1 z.1) q2) (fun f hf => ?_) (fun a q1 q2 => ?_) ⟨by decide, by decide, by decide, by decide, Or.inl ⟨rfl, rfl, rfl, rfl, rfl, rfl, rfl, rfl, rfl⟩⟩ (h1 8 0 (by unfold rI; omega) (by omega) (by omega)) ((h1 166 8 (by unfold rI; omega) (by omega) (by omega)).trans h.1.2.2.2.1) h.1.1.2.2 h8
  · rw [h2 f hf]
    match f, hf with
    | 0, _ => rfl
    | 1, _ => rfl
    | 2, _ => rfl
    | 3, _ => rfl
    | 4, _ => rfl
    | 5, _ => rfl
    | 6, _ => rfl
    | 7, _ => rfl
    | 8, _ => rfl
    | f + 9, h => exact absurd h (by omega)
  · rw [h3 a q1 q2]
    rcases (show a = 173 ∨ a = 174 ∨ a = 175 ∨ a = 176 ∨ a = 177 ∨ a = 178 ∨ a = 179 ∨ a = 180 ∨ a = 181 ∨ a = 182 by omega) with e | e | e | e | e | e | e | e | e | e <;> subst e <;> rfl
theorem z9_f (I : st_I) (n : Nat) {a f : Nat} : (st_w (st_w (st_w (st_w (st_w (st_w (st_w (st_w (st_w I n 0 (0 : Int32)) n 2 (0 : Int32)) n 3 (0 : Int32)) n 1 (0 : Int32)) n 4 (0 : Int32)) n 5 (0 : Int32)) n 6 (0 : Int32)) n 7 (0 : Int32)) n 8 (0 : Int32)) a f = if a = n ∧ f < 9 then 0 else I a f := by rw [st_z9]
theorem z10_f (I : st_I) (n : Nat) {a f : Nat} : (st_w (st_w (st_w (st_w (st_w (st_w (st_w (st_w (st_w (st_w I 173 n (0 : Int32)) 174 n (0 : Int32)) 175 n (0 : Int32)) 176 n (0 : Int32)) 177 n (0 : Int32)) 178 n (0 : Int32)) 179 n (0 : Int32)) 180 n (0 : Int32)) 181 n (0 : Int32)) 182 n (0 : Int32)) a f = if 173 ≤ a ∧ a ≤ 182 ∧ f = n then 0 else I a f := by rw [st_z10]
/-- where the reference looks for a pointer -/
def pat (I : st_I) (n : Nat) (p3 : Int32) : Int32 := (if (I 173 n) = (1 : Int32) then (if (¬ ((Int32.toInt64 p3) < (0 : Int64))) ∧ (¬ ((Int32.toInt64 ((I 178 n) - (1 : Int32))) < (Int32.toInt64 p3))) then ((((I 176 n) / (64 : Int32)) + ((I 177 n) / (64 : Int32))) + p3) else (-1 : Int32)) else (if (I 173 n) = (2 : Int32) then (if (I 180 n) = (6 : Int32) then (if (¬ ((Int32.toInt64 p3) < (0 : Int64))) ∧ (¬ ((Int32.toInt64 ((I 179 n) - (1 : Int32))) < (Int32.toInt64 p3))) then (((I 176 n) / (64 : Int32)) + p3) else (-1 : Int32)) else (-1 : Int32)) else (-1 : Int32)))
section MF
variable {X : pm_X} {d : Nat} {I K : st_I} {J : st_J} {p1 p2 p3 : Int32}
theorem mfA (hM : ¬ ((¬ ((¬ ((Int32.toInt64 p1) < (0 : Int64))) ∧ (¬ ((15 : Int64) < (Int32.toInt64 p1))))) ∨ ((¬ ((¬ ((Int32.toInt64 p2) < (0 : Int64))) ∧ (¬ ((15 : Int64) < (Int32.toInt64 p2))))) ∨ (p3 < (0 : Int32))))) (m3 : pm_in p2 17 = true) (k3 : pm_in p1 17 = true) (n1 : ¬ (((I 173 (Int32.toNatClampNeg p2)) = (2 : Int32)) ∧ (((I 180 (Int32.toNatClampNeg p2)) = (6 : Int32)) ∧ (¬ (p3 < (I 179 (Int32.toNatClampNeg p2))))))) (n2 : ¬ (((I 173 (Int32.toNatClampNeg p2)) = (2 : Int32)) ∧ (¬ ((I 180 (Int32.toNatClampNeg p2)) = (6 : Int32))))) (hat : pat I p2.toNatClampNeg p3 < 0) : Ex X (d + 5) 192 [.ref 166, .int p1, .int p2, .int p3] (st_h I J) (.inl (some (.int 0)), st_h (st_w (st_w (st_w (st_w (st_w (st_w (st_w (st_w (st_w (st_w (st_w I 166 10 0) 173 p1.toNatClampNeg (0 : Int32)) 174 p1.toNatClampNeg (0 : Int32)) 175 p1.toNatClampNeg (0 : Int32)) 176 p1.toNatClampNeg (0 : Int32)) 177 p1.toNatClampNeg (0 : Int32)) 178 p1.toNatClampNeg (0 : Int32)) 179 p1.toNatClampNeg (0 : Int32)) 180 p1.toNatClampNeg (0 : Int32)) 181 p1.toNatClampNeg (0 : Int32)) 182 p1.toNatClampNeg (0 : Int32)) J, 0, 0) := by
  refine iv_M_follow (K := I) (b := 0) _ ?_
  unfold pat at hat
  rw [if_neg hM]
  refine ⟨m3, ?_⟩
  rw [if_neg n1, if_neg n2, if_pos hat]
  exact ⟨k3, rfl⟩
theorem mfB {b : Int32} {s k dp : Nat} (hM : ¬ ((¬ ((¬ ((Int32.toInt64 p1) < (0 : Int64))) ∧ (¬ ((15 : Int64) < (Int32.toInt64 p1))))) ∨ ((¬ ((¬ ((Int32.toInt64 p2) < (0 : Int64))) ∧ (¬ ((15 : Int64) < (Int32.toInt64 p2))))) ∨ (p3 < (0 : Int32))))) (m3 : pm_in p2 17 = true) (k3 : pm_in p1 17 = true) (n1 : ¬ (((I 173 (Int32.toNatClampNeg p2)) = (2 : Int32)) ∧ (((I 180 (Int32.toNatClampNeg p2)) = (6 : Int32)) ∧ (¬ (p3 < (I 179 (Int32.toNatClampNeg p2))))))) (n2 : ¬ (((I 173 (Int32.toNatClampNeg p2)) = (2 : Int32)) ∧ (¬ ((I 180 (Int32.toNatClampNeg p2)) = (6 : Int32))))) (hat : pat I p2.toNatClampNeg p3 = Int32.ofNat k) (hk : k < 64) (h5 : I 175 p2.toNatClampNeg = Int32.ofNat s) (h4 : I 174 p2.toNatClampNeg = Int32.ofNat dp) (hE : Ex X (d + 4) 182 [.ref 166, .int 16, .int (Int32.ofNat s), .int (Int32.ofNat k), .int (Int32.ofNat dp)] (st_h (st_w I 166 10 0) J) (.inl (some (.int b)), st_h K J, 0, 0)) (h10 : K 166 10 = 0) : (b = 0 → Ex X (d + 5) 192 [.ref 166, .int p1, .int p2, .int p3] (st_h I J) (.inl (some (.int 0)), st_h (st_w K 166 10 3) J, 0, 0)) ∧ (b = 1 → Ex X (d + 5) 192 [.ref 166, .int p1, .int p2, .int p3] (st_h I J) (.inl (some (.int (K 173 16))), st_h (cp10 K p1.toNatClampNeg) J, 0, 0)) := by
  have hge : ¬ (pat I p2.toNatClampNeg p3 < 0) := by
    rw [hat, i32_lt, oi_i (by omega), i0]
    omega
  rw [← hat, ← h5, ← h4] at hE
  unfold pat at hge hE
  constructor
  · intro e
    subst e
    refine iv_M_follow (K := K) (b := 0) _ ?_
    rw [if_neg hM]
    refine ⟨m3, ?_⟩
    rw [if_neg n1, if_neg n2, if_neg hge]
    refine ⟨hE, ?_⟩
    rw [if_pos rfl, if_pos h10]
  · intro e
    subst e
    refine iv_M_follow (K := K) (b := 1) _ ?_
    rw [if_neg hM]
    refine ⟨m3, ?_⟩
    rw [if_neg n1, if_neg n2, if_neg hge]
    refine ⟨hE, ?_⟩
    rw [if_neg (by decide), if_pos h10]
    refine ⟨k3, ?_⟩
    rw [w173]
    rfl
end MF
theorem oi_eq {a b : Nat} (ha : a < 2147483648) (hb : b < 2147483648) : Int32.ofNat a = Int32.ofNat b ↔ a = b := by
  rw [i32_eq, oi_i (by omega), oi_i (by omega)]
  omega
theorem oi_d {a : Nat} (ha : a < 2147483648) : Int32.ofNat a / 64 = Int32.ofNat (a / 64) := by
  refine eq_of ?_
  have e : (64 : Int32).toInt = 64 := rfl
  rw [id_ (by rw [oi_i (by omega)]; omega) (by rw [e]; omega), oi_i (by omega), e]
  omega
theorem ldo_n {I : st_I} {J : st_J} {s k dp : Nat} (hs : s < 4) (hk : k < 64) (hd : dp ≤ 64) : ldo I J (Int32.ofNat s) (Int32.ofNat k) (Int32.ofNat dp) = ld (cw J) (un (I 7)) (I 1 2).toNatClampNeg (I 8 0).toNatClampNeg s k dp := by
  unfold ldo
  rw [oi_n (by omega), oi_n (by omega), oi_n (by omega)]
set_option maxRecDepth 20000 in
theorem s_follow {X : pm_X} (hX : X 1 = (8, eb)) {d : Nat} {I : st_I} {J : st_J} {p1 p2 p3 : Int32} (h : RR I J) : StpI X (d + 6) 53 [.ref 0, .int p1, .int p2, .int p3, .ref 187] 192 [.ref 166, .int p1, .int p2, .int p3] I J := by
  have hw := h.1.1
  by_cases c : (0 ≤ p1.toInt ∧ p1.toInt ≤ 15) ∧ (0 ≤ p2.toInt ∧ p2.toInt ≤ 15) ∧ 0 ≤ p3.toInt
  · obtain ⟨k1, k2, k3⟩ := c16_i c.1.1 c.1.2
    obtain ⟨m1, m2, m3⟩ := c16_i c.2.1.1 c.2.1.2
    have hp3 := cln c.2.2
    have ep3 := oi_of c.2.2
    have hC : ¬ ((¬ ((¬ (p1 < (0 : Int32))) ∧ (p1 < (16 : Int32)))) ∨ ((¬ ((¬ (p2 < (0 : Int32))) ∧ (p2 < (16 : Int32)))) ∨ (p3 < (0 : Int32)))) := by
      rw [cI_c, cI_c, i32_lt, i0]
      omega
    have hM : ¬ ((¬ ((¬ ((Int32.toInt64 p1) < (0 : Int64))) ∧ (¬ ((15 : Int64) < (Int32.toInt64 p1))))) ∨ ((¬ ((¬ ((Int32.toInt64 p2) < (0 : Int64))) ∧ (¬ ((15 : Int64) < (Int32.toInt64 p2))))) ∨ (p3 < (0 : Int32)))) := by
      rw [cI_m, cI_m, i32_lt, i0]
      omega
    obtain ⟨v9, hs9, hm9, hvk⟩ := h.2.2.2 p2.toNatClampNeg m1
    obtain ⟨kd, dp, sg, pl, sh, db, pt, ct, cd⟩ := v9
    have g0 : I (150 + p2.toNatClampNeg) 0 = Int32.ofNat kd := hs9 0 (by omega)
    have g1 : I (150 + p2.toNatClampNeg) 1 = Int32.ofNat dp := hs9 1 (by omega)
    have g2 : I (150 + p2.toNatClampNeg) 2 = Int32.ofNat sg := hs9 2 (by omega)
    have g3 : I (150 + p2.toNatClampNeg) 3 = Int32.ofNat pl := hs9 3 (by omega)
    have g5 : I (150 + p2.toNatClampNeg) 5 = Int32.ofNat db := hs9 5 (by omega)
    have g6 : I (150 + p2.toNatClampNeg) 6 = Int32.ofNat pt := hs9 6 (by omega)
    have g7 : I (150 + p2.toNatClampNeg) 7 = Int32.ofNat ct := hs9 7 (by omega)
    have g8 : I (150 + p2.toNatClampNeg) 8 = Int32.ofNat cd := hs9 8 (by omega)
    have q173 : I 173 p2.toNatClampNeg = Int32.ofNat kd := hm9 173 (by omega) (by omega)
    have q174 : I 174 p2.toNatClampNeg = Int32.ofNat dp := hm9 174 (by omega) (by omega)
    have q175 : I 175 p2.toNatClampNeg = Int32.ofNat sg := hm9 175 (by omega) (by omega)
    have q176 : I 176 p2.toNatClampNeg = Int32.ofNat (64 * pl + sh) := hm9 176 (by omega) (by omega)
    have q177 : I 177 p2.toNatClampNeg = if kd = 1 then Int32.ofNat db else 0 := hm9 177 (by omega) (by omega)
    have q178 : I 178 p2.toNatClampNeg = if kd = 1 then Int32.ofNat pt else 0 := hm9 178 (by omega) (by omega)
    have q179 : I 179 p2.toNatClampNeg = Int32.ofNat ct := hm9 179 (by omega) (by omega)
    have q180 : I 180 p2.toNatClampNeg = Int32.ofNat cd := hm9 180 (by omega) (by omega)
    obtain ⟨v1, v2, v3, v4, hcase⟩ := hvk
    have hUs := hw.2.1 sg v2
    have hUn := un_i hUs.1
    have bnd : kd ≤ 2 ∧ db ≤ 4194240 ∧ pt ≤ 65535 ∧ ct ≤ 100000 ∧ cd ≤ 7 := by
      rcases hcase with q | q | q
      · omega
      · omega
      · obtain ⟨q1, q2, q3, q | q | q⟩ := q
        · have := ebn_le cd
          omega
        · omega
        · omega
    obtain ⟨w1, w2, w3, w4, w5⟩ := bnd
    have k0 : (Int32.ofNat kd = 0) ↔ kd = 0 := oi_eq (b := 0) (by omega) (by omega)
    have kk1 : (Int32.ofNat kd = 1) ↔ kd = 1 := oi_eq (b := 1) (by omega) (by omega)
    have kk2 : (Int32.ofNat kd = 2) ↔ kd = 2 := oi_eq (b := 2) (by omega) (by omega)
    have c6 : (Int32.ofNat cd = 6) ↔ cd = 6 := oi_eq (b := 6) (by omega) (by omega)
    have ltc : (p3 < Int32.ofNat ct) ↔ p3.toNatClampNeg < ct := by rw [i32_lt, oi_i (by omega)]; omega
    have ltp : (p3 < Int32.ofNat pt) ↔ p3.toNatClampNeg < pt := by rw [i32_lt, oi_i (by omega)]; omega
    have inN : ∀ n : Nat, n ≤ 100000 → (((¬ ((Int32.toInt64 p3) < (0 : Int64))) ∧ (¬ ((Int32.toInt64 (Int32.ofNat n - (1 : Int32))) < (Int32.toInt64 p3)))) ↔ p3.toNatClampNeg < n) := fun n hn => by
      rw [i64_lt, i64_lt, tl, tl, j0, s_1 (by rw [oi_i (by omega)]; omega) (by rw [oi_i (by omega)]; omega), oi_i (by omega)]
      omega
    -- the class's tests
    have C1 : (((I (150 + p2.toNatClampNeg) 0 = 2) ∧ (I (150 + p2.toNatClampNeg) 8 = 6)) ∧ (¬ (p3 < I (150 + p2.toNatClampNeg) 7))) ↔ (kd = 2 ∧ cd = 6) ∧ ¬ p3.toNatClampNeg < ct := by rw [g0, g8, g7, kk2, c6, ltc]
    have C2 : ((I (150 + p2.toNatClampNeg) 0 = 2) ∧ (¬ ((I (150 + p2.toNatClampNeg) 0 = 2) ∧ (I (150 + p2.toNatClampNeg) 8 = 6)))) ↔ kd = 2 ∧ ¬ cd = 6 := by rw [g0, g8, kk2, c6]; omega
    have C3 : (p3 < (if I (150 + p2.toNatClampNeg) 0 = 2 then I (150 + p2.toNatClampNeg) 7 else I (150 + p2.toNatClampNeg) 6)) ↔ p3.toNatClampNeg < (if kd = 2 then ct else pt) := by
      rw [g0, g7, g6]
      by_cases q : kd = 2
      · rw [if_pos (kk2.mpr q), if_pos q, ltc]
      · rw [if_neg (fun z => q (kk2.mp z)), if_neg q, ltp]
    -- the reference's, in any state with these cursors
    have M1 : ∀ I1 : st_I, (∀ a, 173 ≤ a → a ≤ 182 → I1 a p2.toNatClampNeg = I a p2.toNatClampNeg) → ((((I1 173 p2.toNatClampNeg) = (2 : Int32)) ∧ (((I1 180 p2.toNatClampNeg) = (6 : Int32)) ∧ (¬ (p3 < (I1 179 p2.toNatClampNeg))))) ↔ (kd = 2 ∧ cd = 6) ∧ ¬ p3.toNatClampNeg < ct) := fun I1 hI => by
      rw [hI 173 (by omega) (by omega), hI 180 (by omega) (by omega), hI 179 (by omega) (by omega), q173, q180, q179, kk2, c6, ltc]
      exact and_assoc.symm
    have M2 : ∀ I1 : st_I, (∀ a, 173 ≤ a → a ≤ 182 → I1 a p2.toNatClampNeg = I a p2.toNatClampNeg) → ((((I1 173 p2.toNatClampNeg) = (2 : Int32)) ∧ (¬ ((I1 180 p2.toNatClampNeg) = (6 : Int32)))) ↔ kd = 2 ∧ ¬ cd = 6) := fun I1 hI => by
      rw [hI 173 (by omega) (by omega), hI 180 (by omega) (by omega), q173, q180, kk2, c6]
    by_cases d1 : (kd = 2 ∧ cd = 6) ∧ ¬ p3.toNatClampNeg < ct
    · refine ⟨I, J, 1, 1, 6, iv_L_follow hX _ ?_, by omega, by omega, st_w (st_w I 166 10 0) 166 10 1, J, 0, iv_M_follow (d := d + 1) (K := I) (b := 0) _ ?_, e_o _ _ _, fun h => absurd h (by decide), RR_ee h (fun _ _ _ => rfl)⟩
      · rw [if_neg hC]
        refine ⟨m2, ?_⟩
        rw [if_pos (C1.mpr d1)]
      · rw [if_neg hM]
        refine ⟨m3, ?_⟩
        rw [if_pos ((M1 I (fun _ _ _ => rfl)).mpr d1)]
    · by_cases d2 : kd = 2 ∧ ¬ cd = 6
      · refine ⟨I, J, 2, 1, 6, iv_L_follow hX _ ?_, by omega, by omega, st_w (st_w I 166 10 0) 166 10 2, J, 0, iv_M_follow (d := d + 1) (K := I) (b := 0) _ ?_, e_o _ _ _, fun h => absurd h (by decide), RR_ee h (fun _ _ _ => rfl)⟩
        · rw [if_neg hC]
          refine ⟨m2, ?_⟩
          rw [if_neg (fun z => d1 (C1.mp z)), if_pos (C2.mpr d2)]
        · rw [if_neg hM]
          refine ⟨m3, ?_⟩
          rw [if_neg (fun z => d1 ((M1 I (fun _ _ _ => rfl)).mp z)), if_pos ((M2 I (fun _ _ _ => rfl)).mpr d2)]
      · by_cases d3 : p3.toNatClampNeg < (if kd = 2 then ct else pt)
        · -- led on
          have hk64 : pl + db / 64 + p3.toNatClampNeg < 64 := by
            rcases hcase with q | q | q
            · rw [if_neg (by omega)] at d3; omega
            · rw [if_neg (by omega)] at d3; omega
            · rw [if_pos q.1] at d3; omega
          have hkE : I (150 + p2.toNatClampNeg) 3 + I (150 + p2.toNatClampNeg) 5 / 64 + p3 = Int32.ofNat (pl + db / 64 + p3.toNatClampNeg) := by
            rw [g3, g5, oi_d (by omega), oi_p]
            conv => lhs; rw [ep3]
            rw [oi_p]
          have hpat : ∀ I1 : st_I, (∀ a, 173 ≤ a → a ≤ 182 → I1 a p2.toNatClampNeg = I a p2.toNatClampNeg) → pat I1 p2.toNatClampNeg p3 = Int32.ofNat (pl + db / 64 + p3.toNatClampNeg) := fun I1 hI => by
            unfold pat
            rw [hI 173 (by omega) (by omega), hI 180 (by omega) (by omega), hI 179 (by omega) (by omega), hI 178 (by omega) (by omega), hI 177 (by omega) (by omega), hI 176 (by omega) (by omega), q173, q180, q179, q178, q177, q176]
            rcases hcase with q | q | q
            · rw [if_neg (by omega)] at d3; omega
            · rw [if_neg (by omega)] at d3
              rw [if_pos (kk1.mpr q.1), if_pos q.1, if_pos q.1, if_pos ((inN pt (by omega)).mpr d3), oi_d (by omega), oi_d (by omega), oi_p]
              conv => lhs; rw [ep3]
              rw [oi_p, show (64 * pl + sh) / 64 = pl by omega]
            · rw [if_pos q.1] at d3
              rw [if_neg (fun z => by have := kk1.mp z; omega), if_pos (kk2.mpr q.1), if_pos (c6.mpr (by omega)), if_pos ((inN ct (by omega)).mpr d3), oi_d (by omega)]
              conv => lhs; rw [ep3]
              rw [oi_p, show (64 * pl + sh) / 64 = pl by omega, show db / 64 = 0 by omega, Nat.add_zero]
          generalize pl + db / 64 + p3.toNatClampNeg = k at hk64 hkE hpat
          have hsin : pm_in (Int32.ofNat sg) 4 = true := oi_in v2 (by omega)
          have hkin : pm_in (Int32.ofNat k) 64 = true := oi_in hk64 (by omega)
          have hdk : dpk (Int32.ofNat dp) := by unfold dpk; rw [oi_i (by omega)]; omega
          cases hl : ld (cw J) (un (I 7)) (I 1 2).toNatClampNeg (I 8 0).toNatClampNeg sg k dp with
          | none =>
            obtain ⟨K, hE, h10, hRR⟩ := fol_no (X := X) (d := d + 1) (t := lss I J (Int32.ofNat sg) (Int32.ofNat k)) h v2 hk64 v1 hl
            have hI : ∀ a, 173 ≤ a → a ≤ 182 → (fI I (lss I J (Int32.ofNat sg) (Int32.ofNat k))) a p2.toNatClampNeg = I a p2.toNatClampNeg := fun a q1 q2 => fI_o _ _ (by omega)
            refine ⟨fI I (lss I J (Int32.ofNat sg) (Int32.ofNat k)), st_y J 8 3 (lss I J (Int32.ofNat sg) (Int32.ofNat k)).2.2, 3, 1, 6, iv_L_follow hX _ ?_, by omega, by omega, st_w K 166 10 3, st_y J 8 3 (lss I J (Int32.ofNat sg) (Int32.ofNat k)).2.2, 0, (mfB (d := d + 1) hM m3 k3 (fun z => d1 ((M1 _ hI).mp z)) (fun z => d2 ((M2 _ hI).mp z)) (hpat _ hI) hk64 ((hI 175 (by omega) (by omega)).trans q175) ((hI 174 (by omega) (by omega)).trans q174) hE h10).1 rfl, e_1 _ _, fun h => absurd h (by decide), hRR 3⟩
            rw [if_neg hC]
            refine ⟨m2, ?_⟩
            rw [if_neg (fun z => d1 (C1.mp z)), if_neg (fun z => d2 (C2.mp z)), if_pos (C3.mpr d3), hkE, g2, g1]
            refine ⟨k2, hw, hsin, hkin, hdk, ?_⟩
            rw [ldo_n v2 hk64 v1, hl]
            exact rfl
          | some w =>
            obtain ⟨v, ch⟩ := w
            obtain ⟨K, hE, h10, h173, hRR⟩ := fol_yes (X := X) (d := d + 1) (t := lss I J (Int32.ofNat sg) (Int32.ofNat k)) h k1 v2 hk64 v1 hl
            have hI : ∀ a, 173 ≤ a → a ≤ 182 → (yI I (lss I J (Int32.ofNat sg) (Int32.ofNat k)) p1.toNatClampNeg v ch) a p2.toNatClampNeg = I a p2.toNatClampNeg := fun a q1 q2 => yI_o _ _ k1 _ _ (by omega) (by omega)
            refine ⟨yI I (lss I J (Int32.ofNat sg) (Int32.ofNat k)) p1.toNatClampNeg v ch, st_y (st_y J 8 3 (lss I J (Int32.ofNat sg) (Int32.ofNat k)).2.2) 187 0 (Int32.toInt64 (Int32.ofNat v.1)), 0, 0, 0, iv_L_follow hX _ ?_, by omega, by omega, cp10 K p1.toNatClampNeg, st_y (st_y J 8 3 (lss I J (Int32.ofNat sg) (Int32.ofNat k)).2.2) 187 0 (Int32.toInt64 (Int32.ofNat v.1)), K 173 16, (mfB (d := d + 1) hM m3 k3 (fun z => d1 ((M1 _ hI).mp z)) (fun z => d2 ((M2 _ hI).mp z)) (hpat _ hI) hk64 ((hI 175 (by omega) (by omega)).trans q175) ((hI 174 (by omega) (by omega)).trans q174) hE h10).2 rfl, ?_, fun _ => ?_, hRR⟩
            · rw [if_neg hC]
              refine ⟨m2, ?_⟩
              rw [if_neg (fun z => d1 (C1.mp z)), if_neg (fun z => d2 (C2.mp z)), if_pos (C3.mpr d3), hkE, g2, g1]
              refine ⟨k2, hw, hsin, hkin, hdk, ?_⟩
              rw [ldo_n v2 hk64 v1, hl]
              have hkk := yI_k I (lss I J (Int32.ofNat sg) (Int32.ofNat k)) p1.toNatClampNeg v ch
              unfold yI fI at hkk
              show (_ : pm_R) = _
              rw [hkk]
              rfl
            · rw [cp10_e, if_neg (by omega), h10]
            · rw [y_o, h173]
        · -- nothing there
          have hI : ∀ a, 173 ≤ a → a ≤ 182 → (fun a f => if a = 150 + p1.toNatClampNeg ∧ f < 9 then 0 else I a f) a p2.toNatClampNeg = I a p2.toNatClampNeg := fun a q1 q2 => if_neg (by omega)
          have hpat : pat (fun a f => if a = 150 + p1.toNatClampNeg ∧ f < 9 then 0 else I a f) p2.toNatClampNeg p3 < 0 := by
            unfold pat
            rw [hI 173 (by omega) (by omega), hI 180 (by omega) (by omega), hI 179 (by omega) (by omega), hI 178 (by omega) (by omega), hI 177 (by omega) (by omega), hI 176 (by omega) (by omega), q173, q180, q179, q178, q177, q176]
            by_cases q1 : kd = 1
            · rw [if_neg (by omega)] at d3
              rw [if_pos (kk1.mpr q1), if_pos q1, if_neg (fun z => d3 ((inN pt (by omega)).mp z))]
              decide
            · rw [if_neg (fun z => q1 (kk1.mp z))]
              by_cases q2 : kd = 2
              · rw [if_pos q2] at d3
                exact absurd ⟨⟨q2, by omega⟩, d3⟩ d1
              · rw [if_neg (fun z => q2 (kk2.mp z))]
                decide
          refine ⟨fun a f => if a = 150 + p1.toNatClampNeg ∧ f < 9 then 0 else I a f, st_y J 187 0 (Int32.toInt64 0), 0, 0, 0, iv_L_follow hX _ ?_, by omega, by omega, _, st_y J 187 0 (Int32.toInt64 0), 0, mfA (d := d + 1) hM m3 k3 (fun z => d1 ((M1 (fun a f => if a = 150 + p1.toNatClampNeg ∧ f < 9 then 0 else I a f) hI).mp z)) (fun z => d2 ((M2 (fun a f => if a = 150 + p1.toNatClampNeg ∧ f < 9 then 0 else I a f) hI).mp z)) hpat, ?_, fun _ => y_o _ _, ?_⟩
          · rw [if_neg hC]
            refine ⟨m2, ?_⟩
            rw [if_neg (fun z => d1 (C1.mp z)), if_neg (fun z => d2 (C2.mp z)), if_neg (fun z => d3 (C3.mp z))]
            refine ⟨k2, ?_⟩
            rw [z9_f, if_pos ⟨rfl, by omega⟩, st_z9]
          · rw [z10_f, if_neg (by omega), e_1]
          · refine RR_clr h k1 (fun a f hr q1 q2 => ?_) (fun f hf => ?_) (fun a q1 q2 => ?_) (rJ_o _ _)
            · unfold rI at hr
              rw [z10_f, if_neg q2, st_w_e, if_neg (by omega), if_neg q1]
            · rw [z10_f, if_neg (by omega), st_w_e, if_neg (by omega), if_pos ⟨rfl, hf⟩]
            · rw [z10_f, if_pos ⟨q1, q2, rfl⟩]
  · refine ⟨I, J, 1, 1, 6, iv_L_follow hX _ ?_, by omega, by omega, st_w (st_w I 166 10 0) 166 10 1, J, 0, iv_M_follow (d := d + 1) (K := I) (b := 0) _ ?_, e_o _ _ _, fun h => absurd h (by decide), RR_ee h (fun _ _ _ => rfl)⟩
    · rw [if_pos (by rw [cI_c, cI_c, i32_lt, i0]; omega)]
    · rw [if_pos (by rw [cI_m, cI_m, i32_lt, i0]; omega)]
