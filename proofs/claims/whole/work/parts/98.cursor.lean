/-! building: words were taken, and a cursor stands there -/
def st_cq (I : st_I) (c : Nat) (g : Nat → Int32) : st_I := fun a f => if 173 ≤ a ∧ a ≤ 182 ∧ f = c then g a else I a f
theorem st_cq_0 (K : st_I) (c : Nat) : st_w (st_w (st_w (st_w (st_w (st_w (st_w (st_w (st_w (st_w K 173 c (0 : Int32)) 174 c (0 : Int32)) 175 c (0 : Int32)) 176 c (0 : Int32)) 177 c (0 : Int32)) 178 c (0 : Int32)) 179 c (0 : Int32)) 180 c (0 : Int32)) 181 c (0 : Int32)) 182 c (0 : Int32) = st_cq K c (fun _ => 0) := by
  funext a f
  unfold st_cq
  simp only [st_w_e]
  by_cases q : 173 ≤ a ∧ a ≤ 182 ∧ f = c
  · rw [if_pos q]
    repeat' split
    all_goals first | rfl | omega
  · rw [if_neg q]
    repeat rw [if_neg (by omega)]
theorem st_cq_w (K : st_I) (c a : Nat) (g : Nat → Int32) (x : Int32) (h1 : 173 ≤ a) (h2 : a ≤ 182) : st_w (st_cq K c g) a c x = st_cq K c (fun b => if b = a then x else g b) := by
  funext i j
  rw [st_w_e]
  unfold st_cq
  by_cases q : i = a ∧ j = c
  · rw [if_pos q, if_pos (by omega)]
    exact (if_pos q.1).symm
  · rw [if_neg q]
    by_cases z : 173 ≤ i ∧ i ≤ 182 ∧ j = c
    · rw [if_pos z, if_pos z]
      exact (if_neg (fun w => q ⟨w, z.2.2⟩)).symm
    · rw [if_neg z, if_neg z]
theorem st_cq_c (K : st_I) (c : Nat) {g g' : Nat → Int32} (h : ∀ a, 173 ≤ a → a ≤ 182 → g a = g' a) : st_cq K c g = st_cq K c g' := by
  funext i j
  unfold st_cq
  by_cases z : 173 ≤ i ∧ i ≤ 182 ∧ j = c
  · rw [if_pos z, if_pos z, h i z.1 z.2.1]
  · rw [if_neg z, if_neg z]
def bI (I : st_I) (v : Nat × Nat × Nat × Nat × Nat) (n c : Nat) (z : V9) : st_I := st_sq (aI I v n) (150 + c) (sp9 z)
def bM (I : st_I) (v : Nat × Nat × Nat × Nat × Nat) (n c : Nat) (z : V9) : st_I := st_cq (mU (st_w (bI I v n c z) 166 10 0) v n) c (mc9 z)
theorem bI_o {I : st_I} {v : Nat × Nat × Nat × Nat × Nat} {n c : Nat} {z : V9} {a f : Nat} (h1 : a ≠ 7) (h2 : ¬ (a = 1 ∧ f = 2)) (h3 : a ≠ 9) (h4 : a ≠ 150 + c) : bI I v n c z a f = I a f := by
  unfold bI st_sq
  rw [if_neg (fun q => h4 q.1)]
  unfold aI
  rw [st_w_e, if_neg (fun q => h3 q.1), st_w_e, if_neg (fun q => h3 q.1), aU_o I v n h1 h2]
theorem bI_7 {I : st_I} {v : Nat × Nat × Nat × Nat × Nat} {n c : Nat} {z : V9} (hc : c < 16) {a f : Nat} (h1 : a < 9) : bI I v n c z a f = aU I v n a f := by
  unfold bI st_sq
  rw [if_neg (by omega)]
  unfold aI
  rw [st_w_e, if_neg (by omega), st_w_e, if_neg (by omega)]
/-- what both sides hold of segments, when it may be built -/
theorem own_f {I : st_I} {J : st_J} (h : RR I J) (ho : ¬ I 166 11 = 0) : (∀ x, x < 4 → I 7 x = Int32.ofNat (un (I 7) x) ∧ un (I 7) x ≤ 64) ∧ (∀ x, x < 4 → I 170 x = Int32.ofNat (un (I 7) x)) ∧ I 1 2 = Int32.ofNat (I 1 2).toNatClampNeg ∧ I 166 6 = Int32.ofNat (I 1 2).toNatClampNeg ∧ I 1 3 = Int32.ofNat (I 1 3).toNatClampNeg ∧ I 166 9 = Int32.ofNat (I 1 3).toNatClampNeg ∧ 1 ≤ (I 1 2).toNatClampNeg ∧ (I 1 2).toNatClampNeg ≤ 4 ∧ 1 ≤ (I 1 3).toNatClampNeg ∧ (I 1 3).toNatClampNeg ≤ 64 ∧ (∀ x, x < 4 → (I 1 2).toNatClampNeg ≤ x → un (I 7) x = 0) := by
  obtain ⟨⟨⟨a1, a2, a3⟩, b1, b2, b3, b4, b5⟩, hz, hoo, hcr⟩ := h
  rcases hz with ⟨z1, -⟩ | ⟨z1, z2, z3, z4⟩
  · exact absurd z1 ho
  have n1 := cln (x := I 1 2) (by omega)
  have n2 := cln (x := I 1 3) (by omega)
  have e7 : ∀ x, x < 4 → I 7 x = Int32.ofNat (un (I 7) x) ∧ un (I 7) x ≤ 64 := fun x hx => by
    have a := a2 x hx
    have b := un_i a.1
    exact ⟨oi_of a.1, by omega⟩
  refine ⟨e7, fun x hx => (b2 x hx).trans (e7 x hx).1, oi_of (by omega), b1.trans (oi_of (by omega)), oi_of (by omega), z2.trans (oi_of (by omega)), by omega, by omega, by omega, by omega, fun x hx hl => ?_⟩
  unfold un
  rw [b5 x hx (by omega)]
  rfl
theorem in_S {I : st_I} {J : st_J} (h : RR I J) (ho : ¬ I 166 11 = 0) {s k : Nat} (hs : s < 4) (hin : k < un (I 7) s ∨ (s = 0 ∧ k = 0)) : s < (I 1 2).toNatClampNeg := by
  obtain ⟨-, -, -, -, -, -, S1, -, -, -, h0⟩ := own_f h ho
  rcases hin with q | q
  · by_cases c : s < (I 1 2).toNatClampNeg
    · exact c
    · have := h0 s hs (by omega)
      omega
  · omega
/-- words were taken and a cursor set: alike -/
theorem RR_bld {I : st_I} {J J2 : st_J} {s k n c : Nat} {v : Nat × Nat × Nat × Nat × Nat} {z : V9} (h : RR I J) (ho : ¬ I 166 11 = 0) (hc : c < 16) (hs : s < 4) (hin : k < un (I 7) s ∨ (s = 0 ∧ k = 0)) (hal : al (un (I 7)) (I 1 2).toNatClampNeg (I 1 3).toNatClampNeg s n = some v) (hvk : ∀ U' : Nat → Nat, v.2.1 < 4 → v.2.2.1 + n ≤ U' v.2.1 → U' v.2.1 ≤ 64 → vk U' z) (hW : ∀ s' k', s' < 4 → k' < 64 → J2 167 (64 * s' + k') = J2 (3 + s') k') : RR (bM I v n c z) J2 := by
  obtain ⟨e7, e170, eS, eM, eZ, eZM, S1, S4, Z1, Z64, h0⟩ := own_f h ho
  have hsS := in_S h ho hs hin
  have e170' : ∀ x, x < 4 → (st_w (bI I v n c z) 166 10 0) 170 x = Int32.ofNat (un (I 7) x) := fun x hx => by
    rw [st_w_e, if_neg (by omega), bI_o (by omega) (by omega) (by omega) (by omega)]
    exact e170 x hx
  have eM' : (st_w (bI I v n c z) 166 10 0) 166 6 = Int32.ofNat (I 1 2).toNatClampNeg := by
    rw [st_w_e, if_neg (by omega), bI_o (by omega) (by omega) (by omega) (by omega)]
    exact eM
  obtain ⟨U', S', hU, hS, hM, S1', S4', h0', hg, hp⟩ := al_U e7 e170' eS eM' S1 S4 h0 Z64 hs hsS hal
  have cq : ∀ a f, ¬ (173 ≤ a ∧ a ≤ 182 ∧ f = c) → bM I v n c z a f = (mU (st_w (bI I v n c z) 166 10 0) v n) a f := fun a f q => by
    unfold bM st_cq
    rw [if_neg q]
  have cw : ∀ a f, ¬ (173 ≤ a ∧ a ≤ 182 ∧ f = c) → a ≠ 170 → ¬ (a = 166 ∧ (f = 6 ∨ f = 10)) → bM I v n c z a f = bI I v n c z a f := fun a f q q1 q2 => by
    rw [cq a f q, mU_o _ v n q1 (by omega), st_w_e, if_neg (by omega)]
  refine RR_gen (U' := U') (S' := S') (v := z) h hc (fun x hx => ⟨?_, ?_, (hU x hx).2.2.1, (hU x hx).2.2.2⟩) ?_ ?_ S1' S4' h0' hW (fun a f hr q1 q2 q3 q4 q5 q6 => ?_) (fun f hf => ?_) (fun a q1 q2 => ?_) (hvk U' hg hp (hU _ hg).2.2.2)
  · rw [cw 7 x (by omega) (by omega) (by omega), bI_7 hc (by omega)]
    exact (hU x hx).1
  · rw [cq 170 x (by omega)]
    exact (hU x hx).2.1
  · rw [cw 1 2 (by omega) (by omega) (by omega), bI_7 hc (by omega)]
    exact hS
  · rw [cq 166 6 (by omega)]
    exact hM
  · unfold rI at hr
    rw [cw a f q6 q2 (by omega), bI_o q1 q3 (by omega) q5]
  · rw [cw (150 + c) f (by omega) (by omega) (by omega)]
    unfold bI st_sq
    rw [if_pos ⟨rfl, hf⟩]
  · unfold bM st_cq
    rw [if_pos ⟨q1, q2, rfl⟩]
theorem aJ_o {J : st_J} {v : Nat × Nat × Nat × Nat × Nat} {s k : Nat} {w : Int64} (hs : s < 4) (hv : v.2.2.2.1 < 4) {a f : Nat} (h : a = 167 ∨ a = 187) : (aJ J v s k w) a f = J a f := by
  obtain ⟨a0, b1, b2, b3, b4⟩ := v
  have hb : b3 < 4 := hv
  rcases a0 with _ | _ | _ | a0
  · show st_y J (3 + s) k _ a f = _
    rw [st_y_e, if_neg (by omega)]
  · show st_y (st_y J (3 + s) k _) (3 + b3) _ _ a f = _
    rw [st_y_e, if_neg (by omega), st_y_e, if_neg (by omega)]
  · show st_y (st_y (st_y J (3 + s) k _) (3 + b3) _ _) (3 + b3) _ _ a f = _
    rw [st_y_e, if_neg (by omega), st_y_e, if_neg (by omega), st_y_e, if_neg (by omega)]
  · show st_y (st_y J (3 + s) k _) (3 + b3) _ _ a f = _
    rw [st_y_e, if_neg (by omega), st_y_e, if_neg (by omega)]
theorem mJ_o {J : st_J} {v : Nat × Nat × Nat × Nat × Nat} {s k : Nat} {w : Int64} {a f : Nat} (h : a ≠ 167) : (mJ J v s k w) a f = J a f := by
  obtain ⟨a0, b1, b2, b3, b4⟩ := v
  rcases a0 with _ | _ | _ | a0
  · show st_y J 167 _ _ a f = _
    rw [st_y_e, if_neg (by omega)]
  · show st_y (st_y J 167 _ _) 167 _ _ a f = _
    rw [st_y_e, if_neg (by omega), st_y_e, if_neg (by omega)]
  · show st_y (st_y (st_y J 167 _ _) 167 _ _) 167 _ _ a f = _
    rw [st_y_e, if_neg (by omega), st_y_e, if_neg (by omega), st_y_e, if_neg (by omega)]
  · show st_y (st_y J 167 _ _) 167 _ _ a f = _
    rw [st_y_e, if_neg (by omega), st_y_e, if_neg (by omega)]
theorem al_4 {U : Nat → Nat} {S Z s n : Nat} {v : Nat × Nat × Nat × Nat × Nat} (h0 : ∀ x, x < 4 → S ≤ x → U x = 0) (hs : s < 4) (hZ : Z ≤ 64) (h : al U S Z s n = some v) : v.2.1 < 4 ∧ v.2.2.2.1 < 4 ∧ v.2.2.1 + n ≤ 64 ∧ v.2.2.1 ≤ 64 := by
  rcases al_c h with ⟨rfl, c⟩ | ⟨F, f4, fS, fZ, c, rfl⟩ | ⟨F, P, f4, fS, p4, pS, fZ, pZ, c, rfl⟩ | ⟨fS, fZ, c, rfl⟩
  · exact ⟨hs, by show 0 < 4; omega, by show U s + n ≤ 64; omega, by show U s ≤ 64; omega⟩
  · exact ⟨f4, f4, by show U F + 1 + n ≤ 64; omega, by show U F + 1 ≤ 64; omega⟩
  · exact ⟨f4, p4, by show U F + n ≤ 64; omega, by show U F ≤ 64; omega⟩
  · have e0 := h0 S fS (by omega)
    exact ⟨fS, fS, by show U S + 1 + n ≤ 64; omega, by show U S + 1 ≤ 64; omega⟩

/-- the words are alike again; without a tag, then with one -/
theorem al_WW {J : st_J} {x : Int64} {U : Nat → Nat} {S Z s k n : Nat} {w : Int64} {v : Nat × Nat × Nat × Nat × Nat} (hw : wn w % 2 ^ 32 < 4) (hal : al U S Z s n = some v) (h0 : ∀ x, x < 4 → S ≤ x → U x = 0) (hZ : Z ≤ 64) (hs : s < 4) (hk : k < 64) (hin : k < U s ∨ (s = 0 ∧ k = 0)) (hJ : ∀ s' k', s' < 4 → k' < 64 → J 167 (64 * s' + k') = J (3 + s') k') : ∀ s' k', s' < 4 → k' < 64 → (mJ (st_y (aJ J v s k w) 187 0 x) v s k w) 167 (64 * s' + k') = (mJ (st_y (aJ J v s k w) 187 0 x) v s k w) (3 + s') k' := fun s' k' hs' hk' => by
  have hv := al_4 h0 hs hZ hal
  rw [al_W (J := J) hw hal h0 hZ hs hk hin hs' hk' (by rw [st_y_e, if_neg (by omega), aJ_o hs hv.2.1 (Or.inl rfl)]; exact hJ s' k' hs' hk'), mJ_o (by omega), st_y_e, if_neg (by omega)]
theorem al_WT {J : st_J} {x t : Int64} {U : Nat → Nat} {S Z s k n : Nat} {w : Int64} {v : Nat × Nat × Nat × Nat × Nat} (hw : wn w % 2 ^ 32 < 4) (hal : al U S Z s n = some v) (h0 : ∀ x, x < 4 → S ≤ x → U x = 0) (hZ : Z ≤ 64) (hs : s < 4) (hk : k < 64) (hin : k < U s ∨ (s = 0 ∧ k = 0)) (hn : 1 ≤ n) (hJ : ∀ s' k', s' < 4 → k' < 64 → J 167 (64 * s' + k') = J (3 + s') k') : ∀ s' k', s' < 4 → k' < 64 → (st_y (mJ (st_y (st_y (aJ J v s k w) (3 + v.2.1) v.2.2.1 t) 187 0 x) v s k w) 167 (64 * v.2.1 + v.2.2.1) t) 167 (64 * s' + k') = (st_y (mJ (st_y (st_y (aJ J v s k w) (3 + v.2.1) v.2.2.1 t) 187 0 x) v s k w) 167 (64 * v.2.1 + v.2.2.1) t) (3 + s') k' := fun s' k' hs' hk' => by
  have hv := al_4 h0 hs hZ hal
  rw [st_y_e _ 167, st_y_e _ 167]
  by_cases q : s' = v.2.1 ∧ k' = v.2.2.1
  · rw [if_pos (by omega), if_neg (by omega), mJ_o (by omega), st_y_e, if_neg (by omega), st_y_e, if_pos (by omega)]
  · rw [if_neg (by omega), if_neg (by omega), al_W (J := J) hw hal h0 hZ hs hk hin hs' hk' (by rw [st_y_e, if_neg (by omega), st_y_e, if_neg (by omega), aJ_o hs hv.2.1 (Or.inl rfl)]; exact hJ s' k' hs' hk'), mJ_o (by omega), st_y_e, if_neg (by omega), st_y_e, if_neg (by omega)]
