/-! struct -/
theorem ifp {c : Prop} [Decidable c] {A B : Prop} (h : c) (a : A) : (if c then A else B) := by rw [if_pos h]; exact a
theorem ifn {c : Prop} [Decidable c] {A B : Prop} (h : ¬ c) (b : B) : (if c then A else B) := by rw [if_neg h]; exact b
theorem in_c {p n : Int32} {m : Int} (hn : n.toInt = m) : ((¬ (p < (0 : Int32))) ∧ (¬ (n < p))) ↔ 0 ≤ p.toInt ∧ p.toInt ≤ m := by
  rw [i32_lt, i32_lt, i0, hn]; omega
theorem in_m {p : Int32} {n : Int64} {m : Int} (hn : n.toInt = m) : ((¬ ((Int32.toInt64 p) < (0 : Int64))) ∧ (¬ (n < (Int32.toInt64 p)))) ↔ 0 ≤ p.toInt ∧ p.toInt ≤ m := by
  rw [i64_lt, i64_lt, tl, j0, hn]; omega
theorem src_c {p : Int32} : ((p = (-1 : Int32)) ∨ ((¬ (p < (0 : Int32))) ∧ (p < (16 : Int32)))) ↔ -1 ≤ p.toInt ∧ p.toInt ≤ 15 := by
  rw [i32_eq, i32_lt, i32_lt, i0, show (16 : Int32).toInt = 16 from rfl, show (-1 : Int32).toInt = -1 from rfl]; omega
theorem src_m {p : Int32} : ((¬ ((Int32.toInt64 p) < (-1 : Int64))) ∧ (¬ ((15 : Int64) < (Int32.toInt64 p)))) ↔ -1 ≤ p.toInt ∧ p.toInt ≤ 15 := by
  rw [i64_lt, i64_lt, tl, show (-1 : Int64).toInt = -1 from rfl, show (15 : Int64).toInt = 15 from rfl]; omega
theorem p_nat {p : Int32} {m : Nat} (h : 0 ≤ p.toInt) (h' : p.toInt ≤ m) : ∃ P : Nat, p = Int32.ofNat P ∧ P ≤ m := ⟨p.toNatClampNeg, oi_of h, by have := cln h; omega⟩
theorem sq_166 (K : st_I) {c : Nat} (hc : c < 16) (g : Nat → Int32) (f : Nat) : st_sq K (150 + c) g 166 f = K 166 f := by
  unfold st_sq
  rw [if_neg (by omega)]
set_option maxRecDepth 20000 in
theorem s_struct {X : pm_X} {d : Nat} {I : st_I} {J : st_J} {p1 p2 p3 p4 p5 : Int32} (h : RR I J) : StpI X (d + 7) 91 [.ref 0, .int p1, .int p2, .int p3, .int p4, .int p5, .ref 187] 207 [.ref 166, .int p1, .int p2, .int p3, .int p4, .int p5] I J := by
  have hown := own_c h.2.1
  by_cases c : (0 ≤ p1.toInt ∧ p1.toInt ≤ 15) ∧ (-1 ≤ p2.toInt ∧ p2.toInt ≤ 15) ∧ (0 ≤ p4.toInt ∧ p4.toInt ≤ 20) ∧ (0 ≤ p5.toInt ∧ p5.toInt ≤ 20) ∧ ¬ I 166 11 = 0
  · obtain ⟨c1, c2, c4, c5, ho⟩ := c
    have hC1 : ¬ ((¬ ((¬ (p1 < (0 : Int32))) ∧ (p1 < (16 : Int32)))) ∨ (¬ ((p2 = (-1 : Int32)) ∨ ((¬ (p2 < (0 : Int32))) ∧ (p2 < (16 : Int32)))))) := fun q => q.elim (fun q => q (cI_c.mpr c1)) (fun q => q (src_c.mpr c2))
    have hC2 : ¬ ((¬ ((¬ (p4 < (0 : Int32))) ∧ (¬ ((20 : Int32) < p4)))) ∨ ((¬ ((¬ (p5 < (0 : Int32))) ∧ (¬ ((20 : Int32) < p5)))) ∨ (¬ ((0 : Int32) < (I 1 3))))) := fun q => by
      rcases q with q | q | q
      · exact q ((in_c rfl).mpr c4)
      · exact q ((in_c rfl).mpr c5)
      · exact ho (hown.mp q)
    have hM : ∀ I1 : st_I, I1 166 11 = I 166 11 → ¬ ((¬ ((¬ ((Int32.toInt64 p1) < (0 : Int64))) ∧ (¬ ((15 : Int64) < (Int32.toInt64 p1))))) ∨ ((¬ ((¬ ((Int32.toInt64 p2) < (-1 : Int64))) ∧ (¬ ((15 : Int64) < (Int32.toInt64 p2))))) ∨ ((¬ ((¬ ((Int32.toInt64 p4) < (0 : Int64))) ∧ (¬ ((20 : Int64) < (Int32.toInt64 p4))))) ∨ ((¬ ((¬ ((Int32.toInt64 p5) < (0 : Int64))) ∧ (¬ ((20 : Int64) < (Int32.toInt64 p5))))) ∨ ((I1 166 11) = (0 : Int32)))))) := fun I1 e q => by
      rcases q with q | q | q | q | q
      · exact q (cI_m.mpr c1)
      · exact q (src_m.mpr c2)
      · exact q ((in_m rfl).mpr c4)
      · exact q ((in_m rfl).mpr c5)
      · exact ho (e.symm.trans q)
    obtain ⟨k1, k2, k3⟩ := c16_i c1.1 c1.2
    have eq0 : ∀ a f, ¬ (a = 166 ∧ f = 10) → (st_w I 166 10 0) a f = I a f := fun a f q => by rw [st_w_e, if_neg q]
    rcases srcs (X := X) (d := d + 3) (p3 := p3) (J := J) h c2 with ⟨s, k, hs, hk, hin, hA, eS, eK, hp, hR⟩ | ⟨hK, hE⟩ | ⟨hB, hE⟩
    · obtain ⟨P4, rfl, h4⟩ := p_nat (m := 20) c4.1 c4.2
      obtain ⟨P5, rfl, h5⟩ := p_nat (m := 20) c5.1 c5.2
      unfold srcS at eS
      unfold srcK at eK
      have m64 : Int32.ofNat P4 * (64 : Int32) = Int32.ofNat (P4 * 64) := oi_mu P4 64
      have m64' : (64 : Int32) * Int32.ofNat P4 = Int32.ofNat (P4 * 64) := by rw [show (64 : Int32) = Int32.ofNat 64 from rfl, oi_mu, Nat.mul_comm]
      by_cases n0 : P4 + P5 = 0
      · have e4 : P4 = 0 := by omega
        have e5 : P5 = 0 := by omega
        subst e4 e5
        obtain ⟨W, hW⟩ : ∃ W, W = (jl (Int32.toInt64 (Int32.ofNat 0)) (32 : Int32)) ||| (jl (Int32.toInt64 (Int32.ofNat 0)) (48 : Int32)) := ⟨_, rfl⟩
        refine ⟨st_sq (st_w (st_w I 9 0 (Int32.ofNat s)) 9 1 (Int32.ofNat k)) (150 + p1.toNatClampNeg) (sp9 (1, 64, s, k, 0, 0, 0, 0, 0)), st_y (st_y J (3 + s) k (nrw W (-1))) 187 0 (Int32.toInt64 1), 0, 0, 0, iv_L_struct _ (ifn hC1 (ifn hC2 (hA _ _ _ ⟨hp, ?_⟩))), by omega, by omega, st_cq (st_w (st_sq (st_w (st_w I 9 0 (Int32.ofNat s)) 9 1 (Int32.ofNat k)) (150 + p1.toNatClampNeg) (sp9 (1, 64, s, k, 0, 0, 0, 0, 0))) 166 10 0) p1.toNatClampNeg (mc9 (1, 64, s, k, 0, 0, 0, 0, 0)), st_y (st_y (st_y J (3 + s) k (nrw W (-1))) 187 0 (Int32.toInt64 1)) 167 (64 * s + k) (nrm W (-1)), 1, iv_M_struct (d := d + 3) (K := st_w (st_sq (st_w (st_w I 9 0 (Int32.ofNat s)) 9 1 (Int32.ofNat k)) (150 + p1.toNatClampNeg) (sp9 (1, 64, s, k, 0, 0, 0, 0, 0))) 166 10 0) (L := st_y (st_y (st_y J (3 + s) k (nrw W (-1))) 187 0 (Int32.toInt64 1)) 167 (64 * s + k) (nrm W (-1))) (b := Int32.ofNat (128 * s + k)) _ (ifn (hM _ (sq_166 _ k1 _ _)) ⟨?_, ifp (st_w_at _ _ _ _) ⟨k3, ?_⟩⟩), ?_, fun _ => ?_, ?_⟩
        · refine ifp (by rw [oi_p]; rfl) ?_
          rw [eS, eK, oi_n (by omega), oi_n (by omega), sp_11, sw_s, ← hW]
          exact ⟨oi_in hs (by omega), oi_in hk (by omega), k2, rfl⟩
        · rw [oi_p, ← hW]
          have z := hR (st_w (st_sq (st_w (st_w I 9 0 (Int32.ofNat s)) 9 1 (Int32.ofNat k)) (150 + p1.toNatClampNeg) (sp9 (1, 64, s, k, 0, 0, 0, 0, 0))) 166 10 0) (st_y (st_y J (3 + s) k (nrw W (-1))) 187 0 (Int32.toInt64 1)) (fun a c' q1 q2 q3 q4 => by
            rw [st_w_e, if_neg (by omega)]
            unfold st_sq
            rw [if_neg (by omega), st_w_e, if_neg (by omega), st_w_e, if_neg (by omega)]) (st_w_at _ _ _ _) (Int32.ofNat 0) W _ _ _ (ma_no hs hk (by rw [hW]; exact sw_3 _ _)) (st_w_at _ _ _ _)
          rw [if_neg (oi_ng (by omega))] at z
          exact z
        · rw [oi_d128 hs (by omega), oi_r128 hs (by omega), st_cq_0, st_cq_w _ _ _ _ _ (by omega) (by omega), st_cq_w _ _ _ _ _ (by omega) (by omega), st_cq_w _ _ _ _ _ (by omega) (by omega), st_cq_w _ _ _ _ _ (by omega) (by omega), st_cq_w _ _ _ _ _ (by omega) (by omega), st_cq_w _ _ _ _ _ (by omega) (by omega)]
          congr 2
          congr 1
          exact st_cq_c _ _ (st_cq_a rfl rfl rfl (by show Int32.ofNat (64 * k + 0) = (64 : Int32) * Int32.ofNat k; rw [show (64 : Int32) = Int32.ofNat 64 from rfl, oi_mu]; rfl) rfl rfl rfl rfl rfl rfl)
        · unfold st_cq
          rw [if_neg (by omega), st_w_at]
        · rw [st_y_e, if_neg (by omega), y_o]
        · obtain ⟨e7, e170, e12, e6, e13, e9, S1, S4, Z1, Z64, h0⟩ := own_f h ho
          have hq : ∀ a f, a ≠ 9 → a ≠ 150 + p1.toNatClampNeg → ¬ (a = 166 ∧ f = 10) → ¬ (173 ≤ a ∧ a ≤ 182 ∧ f = p1.toNatClampNeg) → (st_cq (st_w (st_sq (st_w (st_w I 9 0 (Int32.ofNat s)) 9 1 (Int32.ofNat k)) (150 + p1.toNatClampNeg) (sp9 (1, 64, s, k, 0, 0, 0, 0, 0))) 166 10 0) p1.toNatClampNeg (mc9 (1, 64, s, k, 0, 0, 0, 0, 0))) a f = I a f := fun a f q1 q2 q3 q4 => by
            unfold st_cq
            rw [if_neg q4, st_w_e, if_neg q3]
            unfold st_sq
            rw [if_neg (by omega), st_w_e, if_neg (by omega), st_w_e, if_neg (by omega)]
          refine RR_gen (U' := un (I 7)) (S' := (I 1 2).toNatClampNeg) (v := (1, 64, s, k, 0, 0, 0, 0, 0)) h k1 (fun x hx => ⟨?_, ?_, by omega, (e7 x hx).2⟩) ?_ ?_ S1 S4 h0 (fun s' k' hs' hk' => ?_) (fun a f hr q1 q2 q3 q4 q5 q6 => ?_) (fun f hf => ?_) (fun a q1 q2 => ?_) ?_
          · rw [hq 7 x (by omega) (by omega) (by omega) (by omega)]; exact (e7 x hx).1
          · rw [hq 170 x (by omega) (by omega) (by omega) (by omega)]; exact e170 x hx
          · rw [hq 1 2 (by omega) (by omega) (by omega) (by omega)]; exact e12
          · rw [hq 166 6 (by omega) (by omega) (by omega) (by omega)]; exact e6
          · have hb := bw_near (w := W) (by rw [hW, sw_lo]; omega) (-1)
            rw [st_y_e _ 167, st_y_e _ 167]
            by_cases q : s' = s ∧ k' = k
            · rw [if_pos (by omega), if_neg (by omega), st_y_e, if_neg (by omega), st_y_e, if_pos (by omega)]
              exact hb.symm
            · rw [if_neg (by omega), if_neg (by omega), st_y_e, if_neg (by omega), st_y_e, if_neg (by omega), st_y_e, if_neg (by omega), st_y_e, if_neg (by omega)]
              exact h.1.2.2.2.2.1 s' k' hs' hk'
          · unfold rI at hr
            exact hq a f (by omega) q5 (by omega) q6
          · unfold st_cq
            rw [if_neg (by omega), st_w_e, if_neg (by omega)]
            unfold st_sq
            rw [if_pos ⟨rfl, hf⟩]
          · unfold st_cq
            rw [if_pos ⟨q1, q2, rfl⟩]
          · refine ⟨by omega, hs, by omega, by omega, Or.inr (Or.inl ⟨rfl, rfl, rfl, ?_, Or.inl rfl⟩)⟩
            rcases hin with q | q
            · omega
            · rw [q.2]; omega
      · have n0' : ¬ (Int32.ofNat (P4 + P5) = (0 : Int32)) := fun q => n0 ((oi_eq (b := 0) (by omega) (by omega)).mp q)
        obtain ⟨e7, e170, e12, e6, e13, e9, S1, S4, Z1, Z64, h0⟩ := own_f h ho
        cases hal : al (un (I 7)) (I 1 2).toNatClampNeg (I 1 3).toNatClampNeg s (P4 + P5) with
        | none =>
          refine ⟨I, J, 3, 1, 6, iv_L_struct _ (ifn hC1 (ifn hC2 (hA _ _ _ ⟨hp, ?_⟩))), by omega, by omega, st_w (st_w I 166 10 0) 166 10 3, J, 0, iv_M_struct (d := d + 3) (K := st_w (st_w I 166 10 0) 166 10 3) (L := J) (b := -1) _ (ifn (hM _ rfl) ⟨?_, ifn (by rw [st_w_at]; decide) rfl⟩), e_o _ _ _, fun h => absurd h (by decide), RR_ee h (fun _ _ _ => rfl)⟩
          · rw [eS, eK, oi_p, alo_n hs hk (by omega) hal]
            exact ifn n0' ⟨alk_ok h ho hs hk (by omega), rfl⟩
          · rw [oi_p]
            exact rf_no h ho hs hk (by omega) (fun q => n0 q.1) hal hR
        | some v =>
          have hv := al_4 h0 hs Z64 hal
          obtain ⟨W, hW⟩ : ∃ W, W = (jl (Int32.toInt64 (Int32.ofNat P4)) (32 : Int32)) ||| (jl (Int32.toInt64 (Int32.ofNat P5)) (48 : Int32)) := ⟨_, rfl⟩
          obtain ⟨z, hz⟩ : ∃ z : V9, z = (1, 64, v.2.1, v.2.2.1, 0, P4 * 64, P5, 0, 0) := ⟨_, rfl⟩
          have hlo : wn W % 2 ^ 32 < 4 := by rw [hW, sw_lo]; omega
          refine ⟨bI I v (P4 + P5) p1.toNatClampNeg z, st_y (aJ J v s k W) 187 0 (Int32.toInt64 1), 0, 0, 0, iv_L_struct _ (ifn hC1 (ifn hC2 (hA _ _ _ ⟨hp, ?_⟩))), by omega, by omega, bM I v (P4 + P5) p1.toNatClampNeg z, mJ (st_y (aJ J v s k W) 187 0 (Int32.toInt64 1)) v s k W, 1, iv_M_struct (d := d + 3) (K := mU (st_w (bI I v (P4 + P5) p1.toNatClampNeg z) 166 10 0) v (P4 + P5)) (L := mJ (st_y (aJ J v s k W) 187 0 (Int32.toInt64 1)) v s k W) (b := Int32.ofNat (128 * v.2.1 + v.2.2.1)) _ (ifn (hM _ (bI_o (by omega) (by omega) (by omega) (by omega))) ⟨?_, ifp (by rw [mU_o _ v _ (by omega) (by omega)]; exact st_w_at _ _ _ _) ⟨k3, ?_⟩⟩), ?_, fun _ => ?_, ?_⟩
          · rw [eS, eK, oi_p, sw_s, ← hW, alo_s hs hk (by omega) hal]
            refine ifn n0' ⟨alk_ok h ho hs hk (by omega), k2, ?_⟩
            dsimp only
            rw [aI_90, aI_91, sp_11, m64, hz]
            rfl
          · rw [oi_p, ← hW]
            exact rf_ok h ho k1 hs hk (by omega) (fun q => n0 q.1) hal hR
          · rw [oi_d128 hv.1 (by omega), oi_r128 hv.1 (by omega), st_cq_0, st_cq_w _ _ _ _ _ (by omega) (by omega), st_cq_w _ _ _ _ _ (by omega) (by omega), st_cq_w _ _ _ _ _ (by omega) (by omega), st_cq_w _ _ _ _ _ (by omega) (by omega), st_cq_w _ _ _ _ _ (by omega) (by omega), st_cq_w _ _ _ _ _ (by omega) (by omega)]
            congr 2
            congr 1
            rw [hz, m64']
            exact st_cq_c _ _ (st_cq_a rfl rfl rfl (by show Int32.ofNat (64 * v.2.2.1 + 0) = (64 : Int32) * Int32.ofNat v.2.2.1; rw [show (64 : Int32) = Int32.ofNat 64 from rfl, oi_mu]; rfl) rfl rfl rfl rfl rfl rfl)
          · unfold bM st_cq
            rw [if_neg (by omega), mU_o _ v _ (by omega) (by omega)]
            exact st_w_at _ _ _ _
          · rw [mJ_o (by omega), y_o]
          · refine RR_bld h ho k1 hs hin hal (fun U' q1 q2 q3 => ?_) (al_WW hlo hal h0 Z64 hs hk hin h.1.2.2.2.2.1)
            rw [hz]
            refine ⟨by omega, q1, by omega, by omega, Or.inr (Or.inl ⟨rfl, rfl, rfl, by omega, Or.inr ⟨rfl, by omega⟩⟩)⟩
    · exact ⟨I, J, 2, 1, 6, iv_L_struct _ (ifn hC1 (ifn hC2 (hK _ _ _ rfl))), by omega, by omega, st_w (st_w I 166 10 0) 166 10 2, J, 0, iv_M_struct (d := d + 3) (K := st_w (st_w I 166 10 0) 166 10 2) (L := J) (b := -1) _ (ifn (hM _ rfl) ⟨hE _ _ (fun a c' q1 q2 q3 q4 => eq0 a c' (by omega)) (st_w_at _ _ _ _) _ _, ifn (by rw [st_w_at]; decide) rfl⟩), e_o _ _ _, fun h => absurd h (by decide), RR_ee h (fun _ _ _ => rfl)⟩
    · exact ⟨I, J, 1, 1, 6, iv_L_struct _ (ifn hC1 (ifn hC2 (hB _ _ _ rfl))), by omega, by omega, st_w (st_w I 166 10 0) 166 10 1, J, 0, iv_M_struct (d := d + 3) (K := st_w (st_w I 166 10 0) 166 10 1) (L := J) (b := -1) _ (ifn (hM _ rfl) ⟨hE _ _ (fun a c' q1 q2 q3 q4 => eq0 a c' (by omega)) (st_w_at _ _ _ _) _ _, ifn (by rw [st_w_at]; decide) rfl⟩), e_o _ _ _, fun h => absurd h (by decide), RR_ee h (fun _ _ _ => rfl)⟩
  · refine ⟨I, J, 1, 1, 6, iv_L_struct _ ?_, by omega, by omega, st_w (st_w I 166 10 0) 166 10 1, J, 0, iv_M_struct (d := d + 3) (K := I) (L := J) (b := -1) _ (ifp ?_ rfl), e_o _ _ _, fun h => absurd h (by decide), RR_ee h (fun _ _ _ => rfl)⟩
    · by_cases q1 : (0 ≤ p1.toInt ∧ p1.toInt ≤ 15) ∧ (-1 ≤ p2.toInt ∧ p2.toInt ≤ 15)
      · refine ifn (fun q => q.elim (fun q => q (cI_c.mpr q1.1)) (fun q => q (src_c.mpr q1.2))) (ifp ?_ rfl)
        by_cases q2 : 0 ≤ p4.toInt ∧ p4.toInt ≤ 20
        · by_cases q3 : 0 ≤ p5.toInt ∧ p5.toInt ≤ 20
          · exact Or.inr (Or.inr (hown.mpr (Decidable.byContradiction fun q => c ⟨q1.1, q1.2, q2, q3, q⟩)))
          · exact Or.inr (Or.inl fun q => q3 ((in_c rfl).mp q))
        · exact Or.inl fun q => q2 ((in_c rfl).mp q)
      · refine ifp ?_ rfl
        by_cases q2 : 0 ≤ p1.toInt ∧ p1.toInt ≤ 15
        · exact Or.inr fun q => q1 ⟨q2, src_c.mp q⟩
        · exact Or.inl fun q => q2 (cI_c.mp q)
    · by_cases q1 : 0 ≤ p1.toInt ∧ p1.toInt ≤ 15
      · by_cases q2 : -1 ≤ p2.toInt ∧ p2.toInt ≤ 15
        · by_cases q3 : 0 ≤ p4.toInt ∧ p4.toInt ≤ 20
          · by_cases q4 : 0 ≤ p5.toInt ∧ p5.toInt ≤ 20
            · exact Or.inr (Or.inr (Or.inr (Or.inr (Decidable.byContradiction fun q => c ⟨q1, q2, q3, q4, q⟩))))
            · exact Or.inr (Or.inr (Or.inr (Or.inl fun q => q4 ((in_m rfl).mp q))))
          · exact Or.inr (Or.inr (Or.inl fun q => q3 ((in_m rfl).mp q)))
        · exact Or.inr (Or.inl fun q => q2 (src_m.mp q))
      · exact Or.inl fun q => q1 (cI_m.mp q)
