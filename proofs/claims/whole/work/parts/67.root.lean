/-! root, follow: a cursor is set -/
theorem RR_set {I I' : st_I} {J J' : st_J} {c : Nat} {v : V9} {x : Int32} (h : RR I J) (hc : c < 16) (h1 : ∀ a f, rI a f → a ≠ 150 + c → ¬ (173 ≤ a ∧ a ≤ 182 ∧ f = c) → ¬ (a = 8 ∧ f = 0) → ¬ (a = 166 ∧ f = 8) → I' a f = I a f) (h2 : ∀ f, f < 9 → I' (150 + c) f = sp9 v f) (h3 : ∀ a, 173 ≤ a → a ≤ 182 → I' a c = mc9 v a) (h4 : vk (un (I 7)) v) (h5 : I' 8 0 = x) (h6 : I' 166 8 = x) (h7 : 0 ≤ x.toInt ∧ x.toInt ≤ 100000) (h8 : ∀ a k, rJ a → J' a k = J a k) : RR I' J' := by
  obtain ⟨⟨⟨a1, a2, a3⟩, b1, b2, b3, b4, b5⟩, hz, ho, hcr⟩ := h
  unfold rI at h1
  have u7 : ∀ s, s < 4 → I' 7 s = I 7 s := fun s _ => h1 7 s (by omega) (by omega) (by omega) (by omega) (by omega)
  have u12 : I' 1 2 = I 1 2 := h1 1 2 (by omega) (by omega) (by omega) (by omega) (by omega)
  refine ⟨⟨⟨by rw [u12]; exact a1, fun s hs => by rw [u7 s hs]; exact a2 s hs, by rw [h5]; exact h7⟩, ?_, fun s hs => ?_, by rw [h5, h6], fun s k hs hk => ?_, fun s hs hl => ?_⟩, Rz_cg hz (h1 1 3 (by omega) (by omega) (by omega) (by omega) (by omega)) (h1 166 9 (by omega) (by omega) (by omega) (by omega) (by omega)) (h1 166 11 (by omega) (by omega) (by omega) (by omega) (by omega)), Ro_cg ho (h1 0 6 (by omega) (by omega) (by omega) (by omega) (by omega)) (h1 0 7 (by omega) (by omega) (by omega) (by omega) (by omega)) (fun a f q1 q2 => h1 a f (by omega) (by omega) (by omega) (by omega) (by omega)) (h1 166 7 (by omega) (by omega) (by omega) (by omega) (by omega)) (fun f => h1 171 f (by omega) (by omega) (by omega) (by omega) (by omega)), fun c' hc' => ?_⟩
  · rw [u12, h1 166 6 (by omega) (by omega) (by omega) (by omega) (by omega)]
    exact b1
  · rw [u7 s hs, h1 170 s (by omega) (by omega) (by omega) (by omega) (by omega)]
    exact b2 s hs
  · rw [h8 167 _ (Or.inr rfl), h8 (3 + s) _ (Or.inl (by omega))]
    exact b4 s k hs hk
  · rw [u7 s hs]
    rw [u12] at hl
    exact b5 s hs hl
  · by_cases e : c' = c
    · subst e
      exact ⟨v, h2, h3, vk_cg h4 (fun s hs => by unfold un; rw [u7 s hs])⟩
    · exact cr_cg (hcr c' hc') (fun f hf => h1 (150 + c') f (by omega) (by omega) (by omega) (by omega) (by omega)) (fun a q1 q2 => h1 a c' (by omega) (by omega) (by omega) (by omega) (by omega)) u7
def cp10 (K : st_I) (c : Nat) : st_I := st_w (st_w (st_w (st_w (st_w (st_w (st_w (st_w (st_w (st_w K 173 c (K 173 16)) 174 c (K 174 16)) 175 c (K 175 16)) 176 c (K 176 16)) 177 c (K 177 16)) 178 c (K 178 16)) 179 c (K 179 16)) 180 c (K 180 16)) 181 c (K 181 16)) 182 c (K 182 16)
theorem cp10_e (K : st_I) (c a f : Nat) : cp10 K c a f = if 173 ≤ a ∧ a ≤ 182 ∧ f = c then K a 16 else K a f := by
  unfold cp10
  by_cases h : 173 ≤ a ∧ a ≤ 182 ∧ f = c
  · rw [if_pos h]
    obtain ⟨h1, h2, rfl⟩ := h
    rcases (show a = 173 ∨ a = 174 ∨ a = 175 ∨ a = 176 ∨ a = 177 ∨ a = 178 ∨ a = 179 ∨ a = 180 ∨ a = 181 ∨ a = 182 by omega) with e | e | e | e | e | e | e | e | e | e <;> subst e <;> simp [st_w_e]
  · rw [if_neg h]
    simp only [st_w_e]
    repeat rw [if_neg (by omega)]
/-- what both find at a pointer is one -/
theorem ld_rel {I I1 : st_I} {J J1 : st_J} {s k dp : Nat} (h : RR I J) (h1 : I1 166 6 = I 166 6) (h2 : I1 166 8 = I 166 8) (h3 : ∀ s, s < 4 → I1 170 s = I 170 s) (h4 : ∀ k, J1 167 k = J 167 k) (hs : s < 4) (hk : k < 64) : ld (mw J1) (un (I1 170)) (I1 166 6).toNatClampNeg (I1 166 8).toNatClampNeg s k dp = ld (cw J) (un (I 7)) (I 1 2).toNatClampNeg (I 8 0).toNatClampNeg s k dp := by
  obtain ⟨⟨⟨a1, a2, a3⟩, b1, b2, b3, b4, b5⟩, -⟩ := h
  rw [h1, h2, b1, b3]
  refine ld_cg (fun s k hs hk => ?_) (fun s hs => ⟨?_, ?_⟩) ?_ hs hk
  · unfold mw
    rw [h4, b4 s k hs hk, cw_at J hs]
  · unfold un
    rw [h3 s hs, b2 s hs]
  · have := cln (a2 s hs).1
    have := (a2 s hs).2
    unfold un
    omega
  · have := cln (x := I 1 2) (by omega)
    omega
theorem wmm_rel {I I1 : st_I} {J : st_J} (h : RR I J) (h1 : I1 166 6 = I 166 6) (h2 : I1 166 8 = I 166 8) (h3 : ∀ s, s < 4 → I1 170 s = I 170 s) : wmm I1 := by
  obtain ⟨⟨⟨a1, a2, a3⟩, b1, b2, b3, b4, b5⟩, -⟩ := h
  refine ⟨by rw [h1, b1]; exact a1, fun s hs => by rw [h3 s hs, b2 s hs]; exact a2 s hs, by rw [h2, b3]; exact a3⟩
/-- the class's state when a cursor was led on, or not -/
def fI (I : st_I) (t : Int32 × Int32 × Int64) : st_I := st_w (st_w I 8 1 t.1) 8 2 t.2.1
theorem fI_o (I : st_I) (t : Int32 × Int32 × Int64) {a f : Nat} (h : ¬ (a = 8 ∧ (f = 1 ∨ f = 2))) : fI I t a f = I a f := by
  unfold fI
  rw [st_w_e, if_neg (by omega), st_w_e, if_neg (by omega)]
theorem fo_no {I K : st_I} {J : st_J} {t : Int32 × Int32 × Int64} {e y : Int32} (h : RR I J) (h1 : MA (st_w (fI I t) 166 10 y) K) (h2 : K 166 8 = (st_w (fI I t) 166 10 y) 166 8) : RR (st_w K 166 10 e) (st_y J 8 3 t.2.2) := by
  refine RR_cg h (fun a f hr => ?_) (fun a k hr => ?_)
  · unfold rI at hr
    rw [st_w_e, if_neg (by omega)]
    by_cases q : a = 166 ∧ f = 8
    · rw [q.1, q.2, h2, st_w_e, if_neg (by omega), fI_o _ _ (by omega)]
    · rw [h1 a f (by omega) q, st_w_e, if_neg (by omega), fI_o _ _ (by omega)]
  · unfold rJ at hr
    rw [st_y_e, if_neg (by omega)]
theorem fo_ok {I K : st_I} {J : st_J} {t : Int32 × Int32 × Int64} {c ch : Nat} {v : Nat × Nat × Nat × Nat × Nat × Nat × Nat × Nat} {y : Int32} {z : Int64} (h : RR I J) (hc : c < 16) (hv : vk (un (I 7)) (v98 v)) (hch : ch ≤ (I 8 0).toNatClampNeg) (h1 : MA (st_w (st_sq (st_w (fI I t) 8 0 (Int32.ofNat ((I 8 0).toNatClampNeg - ch))) (150 + c) (spv v)) 166 10 y) K) (h2 : K 166 8 = Int32.ofNat ((I 8 0).toNatClampNeg - ch)) (h3 : ∀ a, 173 ≤ a → a ≤ 182 → K a 16 = mcv v a) : RR (cp10 K c) (st_y (st_y J 8 3 t.2.2) 187 0 z) := by
  have a3 := h.1.1.2.2
  have hA := cln a3.1
  have hx : (Int32.ofNat ((I 8 0).toNatClampNeg - ch)).toInt = (((I 8 0).toNatClampNeg - ch : Nat) : Int) := oi_i (by omega)
  have sq_o : ∀ (M : st_I) (g : Nat → Int32) {a f : Nat}, ¬ (a = 150 + c ∧ f < 9) → st_sq M (150 + c) g a f = M a f := fun M g {a f} q => if_neg q
  refine RR_set h hc (v := v98 v) (x := Int32.ofNat ((I 8 0).toNatClampNeg - ch)) (fun a f hr q1 q2 q3 q4 => ?_) (fun f hf => ?_) (fun a q1 q2 => ?_) hv ?_ ?_ (by rw [hx]; omega) (fun a k hr => ?_)
  · unfold rI at hr
    rw [cp10_e, if_neg q2, h1 a f (by omega) q4, st_w_e, if_neg (by omega), sq_o _ _ (by omega), st_w_e, if_neg q3, fI_o _ _ (by omega)]
  · rw [cp10_e, if_neg (by omega), h1 (150 + c) f (by omega) (by omega), st_w_e, if_neg (by omega)]
    show st_sq _ (150 + c) (spv v) (150 + c) f = _
    unfold st_sq
    rw [if_pos ⟨rfl, hf⟩, v98_s]
  · rw [cp10_e, if_pos ⟨q1, q2, rfl⟩, h3 a q1 q2, v98_m]
  · rw [cp10_e, if_neg (by omega), h1 8 0 (by omega) (by omega), st_w_e, if_neg (by omega), sq_o _ _ (by omega), st_w_e, if_pos ⟨rfl, rfl⟩]
  · rw [cp10_e, if_neg (by omega), h2]
  · unfold rJ at hr
    rw [st_y_e, if_neg (by omega), st_y_e, if_neg (by omega)]
