/-! .. what is taken, in both -/
theorem al_c {U : Nat → Nat} {S Z s n : Nat} {v : Nat × Nat × Nat × Nat × Nat} (h : al U S Z s n = some v) :
  (v = (0, s, U s, 0, 0) ∧ U s + n ≤ Z) ∨
  (∃ F, F < 4 ∧ F < S ∧ U F + (n + 1) ≤ Z ∧ ¬ (U s + n ≤ Z) ∧ v = (1, F, U F + 1, F, U F)) ∨
  (∃ F P, F < 4 ∧ F < S ∧ P < 4 ∧ P < S ∧ U F + n ≤ Z ∧ uad U F n P + 2 ≤ Z ∧ ¬ (U s + n ≤ Z) ∧ v = (2, F, U F, P, uad U F n P)) ∨
  (S < 4 ∧ n + 1 ≤ Z ∧ ¬ (U s + n ≤ Z) ∧ v = (3, S, U S + 1, S, U S)) := by
  unfold al at h
  by_cases c0 : U s + n ≤ Z
  · rw [if_pos c0] at h
    injection h with h
    exact Or.inl ⟨h.symm, c0⟩
  · rw [if_neg c0] at h
    by_cases c1 : fwn U Z S (n + 1) 4 0 < 4
    · rw [if_pos c1] at h
      injection h with h
      have b := fwn_b 4 0 c1
      exact Or.inr (Or.inl ⟨_, c1, b.1, b.2, c0, h.symm⟩)
    · rw [if_neg c1] at h
      by_cases c2 : fwn U Z S n 4 0 < 4 ∧ fwn (uad U (fwn U Z S n 4 0) n) Z S 2 4 0 < 4
      · rw [if_pos c2] at h
        injection h with h
        have b := fwn_b 4 0 c2.1
        have b' := fwn_b 4 0 c2.2
        exact Or.inr (Or.inr (Or.inl ⟨_, _, c2.1, b.1, c2.2, b'.1, b.2, b'.2, c0, h.symm⟩))
      · rw [if_neg c2] at h
        by_cases c3 : S < 4 ∧ n + 1 ≤ Z
        · rw [if_pos c3] at h
          injection h with h
          exact Or.inr (Or.inr (Or.inr ⟨c3.1, c3.2, c0, h.symm⟩))
        · rw [if_neg c3] at h
          cases h
theorem aU_o (I : st_I) (v : Nat × Nat × Nat × Nat × Nat) (n : Nat) {a f : Nat} (h1 : a ≠ 7) (h2 : ¬ (a = 1 ∧ f = 2)) : aU I v n a f = I a f := by
  obtain ⟨a0, b1, b2, b3, b4⟩ := v
  rcases a0 with _ | _ | _ | a0
  · show st_w I 7 _ _ a f = _
    rw [st_w_e, if_neg (fun z => h1 z.1)]
  · show st_w I 7 _ _ a f = _
    rw [st_w_e, if_neg (fun z => h1 z.1)]
  · show st_w (st_w I 7 _ _) 7 _ _ a f = _
    rw [st_w_e, if_neg (fun z => h1 z.1), st_w_e, if_neg (fun z => h1 z.1)]
  · show st_w (st_w I 1 2 _) 7 _ _ a f = _
    rw [st_w_e, if_neg (fun z => h1 z.1), st_w_e, if_neg h2]
theorem mU_o (I : st_I) (v : Nat × Nat × Nat × Nat × Nat) (n : Nat) {a f : Nat} (h1 : a ≠ 170) (h2 : ¬ (a = 166 ∧ f = 6)) : mU I v n a f = I a f := by
  obtain ⟨a0, b1, b2, b3, b4⟩ := v
  rcases a0 with _ | _ | _ | a0
  · show st_w I 170 _ _ a f = _
    rw [st_w_e, if_neg (fun z => h1 z.1)]
  · show st_w I 170 _ _ a f = _
    rw [st_w_e, if_neg (fun z => h1 z.1)]
  · show st_w (st_w I 170 _ _) 170 _ _ a f = _
    rw [st_w_e, if_neg (fun z => h1 z.1), st_w_e, if_neg (fun z => h1 z.1)]
  · show st_w (st_w I 166 6 _) 170 _ _ a f = _
    rw [st_w_e, if_neg (fun z => h1 z.1), st_w_e, if_neg h2]
def ust (U : Nat → Nat) (t x : Nat) : Nat → Nat := fun y => if y = t then x else U y
theorem ust_e (U : Nat → Nat) (t x y : Nat) : ust U t x y = if y = t then x else U y := rfl
theorem ust_w {I : st_I} {a t x : Nat} {U : Nat → Nat} (h : ∀ y, y < 4 → I a y = Int32.ofNat (U y)) : ∀ y, y < 4 → (st_w I a t (Int32.ofNat x)) a y = Int32.ofNat (ust U t x y) := fun y hy => by
  rw [st_w_e]
  unfold ust
  by_cases q : y = t
  · rw [if_pos ⟨rfl, q⟩, if_pos q]
  · rw [if_neg (fun z => q z.2), if_neg q]
    exact h y hy
theorem al_U {I I1 : st_I} {U : Nat → Nat} {S Z s n : Nat} {v : Nat × Nat × Nat × Nat × Nat} (e7 : ∀ x, x < 4 → I 7 x = Int32.ofNat (U x) ∧ U x ≤ 64) (e170 : ∀ x, x < 4 → I1 170 x = Int32.ofNat (U x)) (eS : I 1 2 = Int32.ofNat S) (eM : I1 166 6 = Int32.ofNat S) (S1 : 1 ≤ S) (S4 : S ≤ 4) (h0 : ∀ x, x < 4 → S ≤ x → U x = 0) (hZ : Z ≤ 64) (hs : s < 4) (hsS : s < S) (hal : al U S Z s n = some v) :
  ∃ (U' : Nat → Nat) (S' : Nat), (∀ x, x < 4 → (aU I v n) 7 x = Int32.ofNat (U' x) ∧ (mU I1 v n) 170 x = Int32.ofNat (U' x) ∧ U x ≤ U' x ∧ U' x ≤ 64) ∧ (aU I v n) 1 2 = Int32.ofNat S' ∧ (mU I1 v n) 166 6 = Int32.ofNat S' ∧ 1 ≤ S' ∧ S' ≤ 4 ∧ (∀ x, x < 4 → S' ≤ x → U' x = 0) ∧ v.2.1 < 4 ∧ v.2.2.1 + n ≤ U' v.2.1 := by
  have e7' : ∀ x, x < 4 → I 7 x = Int32.ofNat (U x) := fun x hx => (e7 x hx).1
  rcases al_c hal with ⟨rfl, c⟩ | ⟨F, f4, fS, fZ, c, rfl⟩ | ⟨F, P, f4, fS, p4, pS, fZ, pZ, c, rfl⟩ | ⟨fS, fZ, c, rfl⟩
  · refine ⟨ust U s (U s + n), S, fun x hx => ⟨ust_w e7' x hx, ust_w e170 x hx, ?_, ?_⟩, ?_, ?_, S1, S4, fun x hx hl => ?_, hs, ?_⟩
    · unfold ust; split <;> rename_i q
      · rw [q]; omega
      · omega
    · unfold ust; split
      · omega
      · exact (e7 x hx).2
    · show (st_w I 7 s _) 1 2 = _
      rw [st_w_e, if_neg (by omega)]; exact eS
    · show (st_w I1 170 s _) 166 6 = _
      rw [st_w_e, if_neg (by omega)]; exact eM
    · unfold ust
      rw [if_neg (by omega)]
      exact h0 x hx hl
    · show U s + n ≤ ust U s (U s + n) s
      unfold ust
      rw [if_pos rfl]
      omega
  · refine ⟨ust U F (U F + (n + 1)), S, fun x hx => ⟨ust_w e7' x hx, ust_w e170 x hx, ?_, ?_⟩, ?_, ?_, S1, S4, fun x hx hl => ?_, f4, ?_⟩
    · unfold ust; split <;> rename_i q
      · rw [q]; omega
      · omega
    · unfold ust; split
      · omega
      · exact (e7 x hx).2
    · show (st_w I 7 F _) 1 2 = _
      rw [st_w_e, if_neg (by omega)]; exact eS
    · show (st_w I1 170 F _) 166 6 = _
      rw [st_w_e, if_neg (by omega)]; exact eM
    · unfold ust
      rw [if_neg (by omega)]
      exact h0 x hx hl
    · show U F + 1 + n ≤ ust U F (U F + (n + 1)) F
      unfold ust
      rw [if_pos rfl]
      omega
  · have hu : uad U F n = ust U F (U F + n) := by
      funext x
      unfold uad ust
      split <;> rename_i q
      · rw [q]
      · rfl
    refine ⟨ust (ust U F (U F + n)) P (uad U F n P + 2), S, fun x hx => ⟨ust_w (ust_w e7') x hx, ust_w (ust_w e170) x hx, ?_, ?_⟩, ?_, ?_, S1, S4, fun x hx hl => ?_, f4, ?_⟩
    · have h1 : U x ≤ ust U F (U F + n) x := by
        unfold ust; split <;> rename_i q
        · rw [q]; omega
        · omega
      rw [hu]
      rw [ust_e (ust U F (U F + n)) P]
      split <;> rename_i q
      · rw [q] at h1 ⊢; omega
      · exact h1
    · have h1 : ust U F (U F + n) x ≤ 64 := by
        unfold ust; split
        · omega
        · exact (e7 x hx).2
      rw [ust_e (ust U F (U F + n)) P]
      split
      · omega
      · exact h1
    · show (st_w (st_w I 7 F _) 7 P _) 1 2 = _
      rw [st_w_e, if_neg (by omega), st_w_e, if_neg (by omega)]; exact eS
    · show (st_w (st_w I1 170 F _) 170 P _) 166 6 = _
      rw [st_w_e, if_neg (by omega), st_w_e, if_neg (by omega)]; exact eM
    · unfold ust
      rw [if_neg (by omega), if_neg (by omega)]
      exact h0 x hx hl
    · show U F + n ≤ ust (ust U F (U F + n)) P (uad U F n P + 2) F
      rw [hu]
      unfold ust
      by_cases q : F = P
      · rw [if_pos q, if_pos q.symm]; omega
      · rw [if_neg q, if_pos rfl]; omega
  · have e0 := h0 S fS (by omega)
    have e7'' : ∀ x, x < 4 → (st_w I 1 2 (Int32.ofNat (S + 1))) 7 x = Int32.ofNat (U x) := fun x hx => by rw [st_w_e, if_neg (by omega)]; exact e7' x hx
    have e17'' : ∀ x, x < 4 → (st_w I1 166 6 (Int32.ofNat (S + 1))) 170 x = Int32.ofNat (U x) := fun x hx => by rw [st_w_e, if_neg (by omega)]; exact e170 x hx
    refine ⟨ust U S (U S + (n + 1)), S + 1, fun x hx => ⟨ust_w e7'' x hx, ust_w e17'' x hx, ?_, ?_⟩, ?_, ?_, by omega, by omega, fun x hx hl => ?_, fS, ?_⟩
    · unfold ust; split <;> rename_i q
      · rw [q]; omega
      · omega
    · unfold ust; split
      · omega
      · exact (e7 x hx).2
    · show (st_w (st_w I 1 2 _) 7 S _) 1 2 = _
      rw [st_w_e, if_neg (by omega), st_w_at]
    · show (st_w (st_w I1 166 6 _) 170 S _) 166 6 = _
      rw [st_w_e, if_neg (by omega), st_w_at]
    · unfold ust
      rw [if_neg (by omega)]
      exact h0 x hx (by omega)
    · show U S + 1 + n ≤ ust U S (U S + (n + 1)) S
      unfold ust
      rw [if_pos rfl]
      omega
theorem al_W {J J1 : st_J} {U : Nat → Nat} {S Z s k n : Nat} {w : Int64} {v : Nat × Nat × Nat × Nat × Nat} (hw : wn w % 2 ^ 32 < 4) (hal : al U S Z s n = some v) (h0 : ∀ x, x < 4 → S ≤ x → U x = 0) (hZ : Z ≤ 64) (hs : s < 4) (hk : k < 64) (hin : k < U s ∨ (s = 0 ∧ k = 0)) {s' k' : Nat} (hs' : s' < 4) (hk' : k' < 64) (hJ : J1 167 (64 * s' + k') = J (3 + s') k') : (mJ J1 v s k w) 167 (64 * s' + k') = (aJ J v s k w) (3 + s') k' := by
  have far : ∀ (t ps pd : Nat) (x : Int64), ps < 4 → pd < 64 → ¬ (s = ps ∧ k = pd) → (st_y (st_y J1 167 (64 * ps + pd) w) 167 (64 * s + k) x) 167 (64 * s' + k') = (st_y (st_y J (3 + s) k x) (3 + ps) pd w) (3 + s') k' := fun t ps pd x h1 h2 h3 => by
    rw [st_y_e, st_y_e, st_y_e, st_y_e]
    by_cases q1 : s' = s ∧ k' = k
    · rw [if_pos (by omega), if_neg (by omega), if_pos (by omega)]
    · rw [if_neg (by omega)]
      by_cases q2 : s' = ps ∧ k' = pd
      · rw [if_pos (by omega), if_pos (by omega)]
      · rw [if_neg (by omega), if_neg (by omega), if_neg (by omega)]
        exact hJ
  rcases al_c hal with ⟨rfl, c⟩ | ⟨F, f4, fS, fZ, c, rfl⟩ | ⟨F, P, f4, fS, p4, pS, fZ, pZ, c, rfl⟩ | ⟨fS, fZ, c, rfl⟩
  · show (st_y J1 167 (64 * s + k) (nrm w _)) 167 (64 * s' + k') = (st_y J (3 + s) k (nrw w _)) (3 + s') k'
    rw [st_y_e, st_y_e]
    by_cases q : s' = s ∧ k' = k
    · rw [if_pos (by omega), if_pos (by omega)]
      exact (bw_near hw _).symm
    · rw [if_neg (by omega), if_neg (by omega)]
      exact hJ
  · refine far 0 F (U F) _ f4 (by omega) (fun z => ?_)
    rcases hin with q | q
    · rw [z.1] at q; omega
    · rw [z.1] at c; omega
  · have hd : uad U F n P ≥ U P := by
      unfold uad; split <;> omega
    have n1 : ¬ (s = P ∧ k = uad U F n P) := fun z => by
      rcases hin with q | q
      · rw [z.1] at q; omega
      · rw [z.1] at c; omega
    have n2 : ¬ (s = P ∧ k = uad U F n P + 1) := fun z => by
      rcases hin with q | q
      · rw [z.1] at q; omega
      · omega
    show (st_y (st_y (st_y J1 167 (64 * P + uad U F n P) _) 167 (64 * P + uad U F n P + 1) w) 167 (64 * s + k) _) 167 (64 * s' + k') = (st_y (st_y (st_y J (3 + s) k _) (3 + P) (uad U F n P) _) (3 + P) (uad U F n P + 1) w) (3 + s') k'
    generalize uad U F n P = e at *
    rw [st_y_e, st_y_e, st_y_e, st_y_e, st_y_e, st_y_e]
    by_cases q1 : s' = s ∧ k' = k
    · repeat (first | rw [if_pos (by omega)] | rw [if_neg (by omega)])
    · by_cases q2 : s' = P ∧ k' = e + 1
      · repeat (first | rw [if_pos (by omega)] | rw [if_neg (by omega)])
      · by_cases q3 : s' = P ∧ k' = e
        · repeat (first | rw [if_pos (by omega)] | rw [if_neg (by omega)])
        · repeat (first | rw [if_pos (by omega)] | rw [if_neg (by omega)])
          exact hJ
  · have e0 := h0 S fS (by omega)
    refine far 0 S (U S) _ fS (by omega) (fun z => ?_)
    rcases hin with q | q
    · rw [z.1] at q; omega
    · rw [z.1] at c; omega
theorem vk_up {U U' : Nat → Nat} {v : V9} (h : vk U v) (hU : ∀ s, s < 4 → U s ≤ U' s) : vk U' v := by
  obtain ⟨kd, dp, sg, pl, sh, db, pt, ct, cd⟩ := v
  unfold vk at h ⊢
  dsimp only at h ⊢
  have hu := Nat.mul_le_mul_left 64 (hU sg h.2.1)
  have hu' := hU sg h.2.1
  refine ⟨h.1, h.2.1, h.2.2.1, h.2.2.2.1, ?_⟩
  rcases h.2.2.2.2 with q | q | q
  · exact Or.inl q
  · exact Or.inr (Or.inl ⟨q.1, q.2.1, q.2.2.1, Nat.le_trans q.2.2.2.1 hu, q.2.2.2.2⟩)
  · refine Or.inr (Or.inr ⟨q.1, q.2.1, q.2.2.1, ?_⟩)
    rcases q.2.2.2 with z | z | z
    · exact Or.inl ⟨z.1, z.2.1, z.2.2.1, Nat.le_trans z.2.2.2 hu⟩
    · exact Or.inr (Or.inl ⟨z.1, z.2.1, z.2.2.1, Nat.le_trans z.2.2.2 hu'⟩)
    · exact Or.inr (Or.inr ⟨z.1, z.2.1, Nat.le_trans z.2.2.1 hu, z.2.2.2⟩)
/-- words were taken, and a cursor stands there -/
theorem RR_gen {I I2 : st_I} {J J2 : st_J} {U' : Nat → Nat} {S' c : Nat} {v : V9} (h : RR I J) (hc : c < 16) (hU : ∀ x, x < 4 → I2 7 x = Int32.ofNat (U' x) ∧ I2 170 x = Int32.ofNat (U' x) ∧ un (I 7) x ≤ U' x ∧ U' x ≤ 64) (hS : I2 1 2 = Int32.ofNat S') (hM : I2 166 6 = Int32.ofNat S') (S1 : 1 ≤ S') (S4 : S' ≤ 4) (h0 : ∀ x, x < 4 → S' ≤ x → U' x = 0) (hW : ∀ s k, s < 4 → k < 64 → J2 167 (64 * s + k) = J2 (3 + s) k) (hq : ∀ a f, rI a f → a ≠ 7 → a ≠ 170 → ¬ (a = 1 ∧ f = 2) → ¬ (a = 166 ∧ f = 6) → a ≠ 150 + c → ¬ (173 ≤ a ∧ a ≤ 182 ∧ f = c) → I2 a f = I a f) (h2 : ∀ f, f < 9 → I2 (150 + c) f = sp9 v f) (h3 : ∀ a, 173 ≤ a → a ≤ 182 → I2 a c = mc9 v a) (h4 : vk U' v) : RR I2 J2 := by
  obtain ⟨⟨⟨a1, a2, a3⟩, b1, b2, b3, b4, b5⟩, hz, ho, hcr⟩ := h
  unfold rI at hq
  have hq' : ∀ a f, ((a = 0 ∧ (f = 6 ∨ f = 7)) ∨ (a = 1 ∧ f = 3) ∨ (a = 8 ∧ f = 0) ∨ (146 ≤ a ∧ a ≤ 149) ∨ (a = 166 ∧ (f = 7 ∨ f = 8 ∨ f = 9 ∨ f = 11)) ∨ a = 171) → I2 a f = I a f := fun a f z => hq a f (by omega) (by omega) (by omega) (by omega) (by omega) (by omega) (by omega)
  have uU : ∀ x, x < 4 → un (I2 7) x = U' x := fun x hx => by
    have := hU x hx
    unfold un
    rw [this.1, oi_n (by omega)]
  refine ⟨⟨⟨?_, fun s hs => ?_, ?_⟩, by rw [hS, hM], fun s hs => by rw [(hU s hs).1, (hU s hs).2.1], ?_, hW, fun s hs hl => ?_⟩, Rz_cg hz (hq' 1 3 (by omega)) (hq' 166 9 (by omega)) (hq' 166 11 (by omega)), Ro_cg ho (hq' 0 6 (by omega)) (hq' 0 7 (by omega)) (fun a f q1 q2 => hq' a f (by omega)) (hq' 166 7 (by omega)) (fun f => hq' 171 f (by omega)), fun c' hc' => ?_⟩
  · rw [hS, oi_i (by omega)]; omega
  · have := hU s hs
    rw [this.1, oi_i (by omega)]; omega
  · rw [hq' 8 0 (by omega)]; exact a3
  · rw [hq' 166 8 (by omega), hq' 8 0 (by omega)]; exact b3
  · rw [hS, oi_i (by omega)] at hl
    rw [(hU s hs).1, h0 s hs (by omega)]
    rfl
  · by_cases e : c' = c
    · subst e
      exact ⟨v, h2, h3, vk_cg h4 uU⟩
    · obtain ⟨v', p1, p2, p3⟩ := hcr c' hc'
      refine ⟨v', fun f hf => (hq (150 + c') f (by omega) (by omega) (by omega) (by omega) (by omega) (by omega) (by omega)).trans (p1 f hf), fun a q1 q2 => (hq a c' (by omega) (by omega) (by omega) (by omega) (by omega) (by omega) (by omega)).trans (p2 a q1 q2), vk_cg (vk_up p3 fun s hs => (hU s hs).2.2.1) uU⟩
