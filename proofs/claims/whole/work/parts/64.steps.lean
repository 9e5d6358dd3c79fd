/-! A CALL: the class through its wrapper, then the reference: they answer alike, and the relation holds again -/
def StpL (X : pm_X) (D lm : Nat) (la : List Value) (mm : Nat) (ma : List Value) (I : st_I) (J : st_J) : Prop := ∃ I1 J1 kk cc ks, Ex X D lm la (st_h I J) (.inl (some (.int kk)), st_h I1 J1, cc, ks) ∧ cc ≤ 1 ∧ ks ≤ 6 ∧ ∃ I2 J2 b, Ex X D mm ma (st_h I1 J1) (.inl (some (.long b)), st_h I2 J2, 0, 0) ∧ I2 166 10 = kk ∧ (kk = 0 → J2 187 0 = b) ∧ RR I2 J2
def StpI (X : pm_X) (D lm : Nat) (la : List Value) (mm : Nat) (ma : List Value) (I : st_I) (J : st_J) : Prop := ∃ I1 J1 kk cc ks, Ex X D lm la (st_h I J) (.inl (some (.int kk)), st_h I1 J1, cc, ks) ∧ cc ≤ 1 ∧ ks ≤ 6 ∧ ∃ I2 J2 b, Ex X D mm ma (st_h I1 J1) (.inl (some (.int b)), st_h I2 J2, 0, 0) ∧ I2 166 10 = kk ∧ (kk = 0 → J2 187 0 = Int32.toInt64 b) ∧ RR I2 J2
def StpV (X : pm_X) (D lm : Nat) (la : List Value) (mm : Nat) (ma : List Value) (I : st_I) (J : st_J) : Prop := ∃ I1 J1 kk cc ks, Ex X D lm la (st_h I J) (.inl (some (.int kk)), st_h I1 J1, cc, ks) ∧ cc ≤ 1 ∧ ks ≤ 6 ∧ ∃ I2 J2, Ex X D mm ma (st_h I1 J1) (.inl none, st_h I2 J2, 0, 0) ∧ I2 166 10 = kk ∧ RR I2 J2
theorem titl (p : Int32) : Int64.toInt32 (Int32.toInt64 p) = p := by
  have := p.toInt_lt
  have := p.le_toInt
  rw [i32_eq]
  exact ti2 (tl p) (by omega) (by omega)
theorem RR_e {I : st_I} {J J' : st_J} {x : Int32} (h : RR I J) (hJ : ∀ a k, rJ a → J' a k = J a k) : RR (st_w I 166 10 x) J' := RR_cg h (fun a f hr => by
  rw [st_w_e, if_neg]
  unfold rI at hr
  omega) hJ
theorem RR_ee {I : st_I} {J J' : st_J} {x y : Int32} (h : RR I J) (hJ : ∀ a k, rJ a → J' a k = J a k) : RR (st_w (st_w I 166 10 x) 166 10 y) J' := RR_e (RR_e h (fun _ _ _ => rfl)) hJ
theorem rJ_o (J : st_J) (x : Int64) : ∀ a k, rJ a → (st_y J 187 0 x) a k = J a k := fun a k hr => by
  rw [st_y_e, if_neg]
  unfold rJ at hr
  omega
theorem e_o (I : st_I) (x y : Int32) : (st_w (st_w I 166 10 x) 166 10 y) 166 10 = y := by rw [st_w_e, if_pos ⟨rfl, rfl⟩]
theorem e_1 (I : st_I) (x : Int32) : (st_w I 166 10 x) 166 10 = x := by rw [st_w_e, if_pos ⟨rfl, rfl⟩]
theorem y_o (J : st_J) (x : Int64) : (st_y J 187 0 x) 187 0 = x := by rw [st_y_e, if_pos ⟨rfl, rfl⟩]
/-! allow -/
theorem s_allow {X : pm_X} {d : Nat} {I : st_I} {J : st_J} {p1 : Int32} (h : RR I J) : StpI X (d + 3) 24 [.ref 0, .int p1, .ref 187] 179 [.ref 166, .int p1] I J := by
  have eh : (100000 : Int32).toInt = 100000 := rfl
  have ej : (100000 : Int64).toInt = 100000 := rfl
  by_cases c : 0 ≤ p1.toInt ∧ p1.toInt ≤ 100000
  · refine ⟨st_w I 8 0 p1, st_y J 187 0 (Int32.toInt64 (I 8 0)), 0, 0, 0, iv_L_allow _ (by rw [if_neg (by rw [i32_lt, i32_lt, i0, eh]; omega)]), by omega, by omega, st_w (st_w (st_w I 8 0 p1) 166 10 0) 166 8 p1, st_y J 187 0 (Int32.toInt64 (I 8 0)), I 166 8, (ev_M_allow (d := d + 1) _).mpr (by rw [if_pos (by rw [i64_lt, i64_lt, tl, j0, ej]; omega)]; rfl), rfl, fun _ => ?_, ?_⟩
    · rw [y_o, h.1.2.2.2.1]
    · obtain ⟨hm, hz, ho, hc⟩ := h
      refine ⟨?_, Rz_cg hz rfl rfl rfl, Ro_cg ho rfl rfl (fun a f h1 h2 => ?_) rfl (fun _ => rfl), fun c hc' => cr_cg (hc c hc') (fun f _ => ?_) (fun a h1 h2 => ?_) (fun s _ => rfl)⟩
      · obtain ⟨⟨a1, a2, a3⟩, b1, b2, b3, b4, b5⟩ := hm
        exact ⟨⟨a1, a2, c⟩, b1, b2, rfl, fun s k hs hk => by rw [rJ_o _ _ _ _ (Or.inr rfl), rJ_o _ _ _ _ (Or.inl (by omega))]; exact b4 s k hs hk, b5⟩
      · rw [st_w_e, if_neg (by omega), st_w_e, if_neg (by omega), st_w_e, if_neg (by omega)]
      · rw [st_w_e, if_neg (by omega), st_w_e, if_neg (by omega), st_w_e, if_neg (by omega)]
      · rw [st_w_e, if_neg (by omega), st_w_e, if_neg (by omega), st_w_e, if_neg (by omega)]
  · refine ⟨I, J, 1, 1, 6, iv_L_allow _ (by rw [if_pos (by rw [i32_lt, i32_lt, i0, eh]; omega)]), by omega, by omega, st_w (st_w I 166 10 0) 166 10 1, J, 0, (ev_M_allow (d := d + 1) _).mpr (by rw [if_neg (by rw [i64_lt, i64_lt, tl, j0, ej]; omega)]), e_o _ _ _, fun h => absurd h (by decide), RR_ee h (fun _ _ _ => rfl)⟩
/-! at, word -/
def hd (I : st_I) (p1 p2 : Int32) : Prop := 0 ≤ p1.toInt ∧ p1.toInt < (I 1 2).toInt ∧ 0 ≤ p2.toInt ∧ p2.toInt < (I 7 p1.toNatClampNeg).toInt
theorem hd_c {I : st_I} {p1 p2 : Int32} : ((¬ ((Int32.toInt64 p1) < (0 : Int64))) ∧ (((Int32.toInt64 p1) < (Int32.toInt64 (I 1 2))) ∧ ((¬ (p2 < (0 : Int32))) ∧ (p2 < (I 7 (Int32.toNatClampNeg (Int64.toInt32 (Int32.toInt64 p1)))))))) ↔ hd I p1 p2 := by
  unfold hd
  rw [titl, i64_lt, i64_lt, i32_lt, i32_lt, tl, tl, j0, i0]
  omega
theorem hd_k {I : st_I} {p1 p2 : Int32} (hm : wfm I) : ((¬ ((Int32.toInt64 p1) < (0 : Int64))) → (((Int32.toInt64 p1) < (Int32.toInt64 (I 1 2))) → ((¬ (p2 < (0 : Int32))) → (pm_in (Int64.toInt32 (Int32.toInt64 p1)) 4) = true))) := by
  intro h1 h2 _
  rw [i64_lt, tl, j0] at h1
  rw [i64_lt, tl, tl] at h2
  have := hm.1
  have hn := cln (x := p1) (by omega)
  rw [titl, oi_of (x := p1) (by omega)]
  exact oi_in (by omega) (by omega)
theorem hd_3 {p1 : Int32} (h : 0 ≤ p1.toInt) (h4 : p1.toInt < 4) : (if (¬ ((Int32.toInt64 p1) < (0 : Int64))) ∧ (¬ ((3 : Int64) < (Int32.toInt64 p1))) then p1 else (0 : Int32)) = p1 := if_pos (by
  rw [i64_lt, i64_lt, tl, j0, show (3 : Int64).toInt = 3 from rfl]
  omega)
theorem s_1 {x : Int32} (h : -1000000 ≤ x.toInt) (h' : x.toInt ≤ 1000000) : (x - 1).toInt = x.toInt - 1 := is2 rfl (show (1 : Int32).toInt = 1 from rfl) (by omega) (by omega)
theorem hd_m {I : st_I} {J : st_J} {p1 p2 : Int32} (h : Rm I J) : (((¬ ((Int32.toInt64 p1) < (0 : Int64))) ∧ (¬ ((Int32.toInt64 ((I 166 6) - (1 : Int32))) < (Int32.toInt64 p1)))) ∧ ((¬ ((Int32.toInt64 p2) < (0 : Int64))) ∧ (¬ ((Int32.toInt64 ((I 170 (Int32.toNatClampNeg (if (¬ ((Int32.toInt64 p1) < (0 : Int64))) ∧ (¬ ((3 : Int64) < (Int32.toInt64 p1))) then p1 else (0 : Int32)))) - (1 : Int32))) < (Int32.toInt64 p2))))) ↔ hd I p1 p2 := by
  obtain ⟨⟨a1, a2, a3⟩, b1, b2, b3, b4, b5⟩ := h
  unfold hd
  by_cases c : 0 ≤ p1.toInt ∧ p1.toInt < (I 1 2).toInt
  · have hn := cln c.1
    have hU := a2 p1.toNatClampNeg (by omega)
    rw [hd_3 c.1 (by omega), b1, b2 _ (show p1.toNatClampNeg < 4 by omega), i64_lt, i64_lt, i64_lt, i64_lt, tl, tl, tl, tl, j0, s_1 (by omega) (by omega), s_1 (by omega) (by omega)]
    omega
  · constructor
    · intro q
      have q := q.1
      rw [b1, i64_lt, i64_lt, tl, tl, j0, s_1 (by omega) (by omega)] at q
      omega
    · intro q
      omega
theorem hd_mk {I : st_I} {J : st_J} {p1 : Int32} (h : Rm I J) : (((¬ ((Int32.toInt64 p1) < (0 : Int64))) ∧ (¬ ((Int32.toInt64 ((I 166 6) - (1 : Int32))) < (Int32.toInt64 p1)))) → (pm_in (if (¬ ((Int32.toInt64 p1) < (0 : Int64))) ∧ (¬ ((3 : Int64) < (Int32.toInt64 p1))) then p1 else (0 : Int32)) 4) = true) := by
  obtain ⟨⟨a1, a2, a3⟩, b1, b2, b3, b4, b5⟩ := h
  intro q
  rw [b1, i64_lt, i64_lt, tl, tl, j0, s_1 (by omega) (by omega)] at q
  have hn := cln (x := p1) (by omega)
  rw [hd_3 (by omega) (by omega), oi_of (x := p1) (by omega)]
  exact oi_in (by omega) (by omega)
/-- .. its places -/
theorem hd_p {I : st_I} {p1 p2 : Int32} (hm : wfm I) (h : hd I p1 p2) : p1.toNatClampNeg < 4 ∧ p2.toNatClampNeg < 64 ∧ pm_in p1 4 = true ∧ pm_in p2 64 = true ∧ (64 : Int32) * p1 + p2 = Int32.ofNat (64 * p1.toNatClampNeg + p2.toNatClampNeg) := by
  obtain ⟨h1, h2, h3, h4⟩ := h
  have hs := hm.1
  have hn := cln h1
  have hk := cln h3
  have hU := hm.2.1 p1.toNatClampNeg (by omega)
  have e1 := oi_of h1
  have e2 := oi_of h3
  refine ⟨by omega, by omega, ?_, ?_, ?_⟩
  · rw [e1]; exact oi_in (by omega) (by omega)
  · rw [e2]; exact oi_in (by omega) (by omega)
  · generalize p1.toNatClampNeg = a at *
    generalize p2.toNatClampNeg = b at *
    subst e1 e2
    exact oi_64 (by omega) (by omega)
theorem s_at {X : pm_X} {d : Nat} {I : st_I} {J : st_J} {p1 p2 : Int32} (h : RR I J) : StpL X (d + 3) 22 [.ref 0, .int p1, .int p2, .ref 187] 178 [.ref 166, .int p1, .int p2] I J := by
  have hw := h.1.1
  by_cases c : hd I p1 p2
  · obtain ⟨k1, k2, k3, k4, k5⟩ := hd_p hw c
    refine ⟨I, st_y J 187 0 (J (3 + p1.toNatClampNeg) p2.toNatClampNeg), 0, 0, 0, iv_L_at _ ⟨hd_k hw, by rw [if_pos (hd_c.mpr c)]; exact ⟨k3, k4, rfl⟩⟩, by omega, by omega, st_w I 166 10 0, st_y J 187 0 (J (3 + p1.toNatClampNeg) p2.toNatClampNeg), (st_y J 187 0 (J (3 + p1.toNatClampNeg) p2.toNatClampNeg)) 167 (64 * p1.toNatClampNeg + p2.toNatClampNeg), (ev_M_at _).mpr ⟨hd_mk h.1, by rw [if_pos ((hd_m h.1).mpr c), k5, oi_n (by omega)]; exact ⟨oi_in (by omega) (by omega), rfl⟩⟩, e_1 _ _, fun _ => ?_, RR_e h (rJ_o _ _)⟩
    rw [y_o, rJ_o _ _ _ _ (Or.inr rfl), h.1.2.2.2.2.1 _ _ k1 k2]
  · exact ⟨I, J, 1, 1, 6, iv_L_at _ ⟨hd_k hw, by rw [if_neg (fun q => c (hd_c.mp q))]⟩, by omega, by omega, st_w (st_w I 166 10 0) 166 10 1, J, 0, (ev_M_at _).mpr ⟨hd_mk h.1, by rw [if_neg (fun q => c ((hd_m h.1).mp q))]⟩, e_o _ _ _, fun h => absurd h (by decide), RR_ee h (fun _ _ _ => rfl)⟩
theorem s_word {X : pm_X} {d : Nat} {I : st_I} {J : st_J} {p1 p2 : Int32} {p3 : Int64} (h : RR I J) : StpL X (d + 3) 19 [.ref 0, .int p1, .int p2, .long p3, .ref 187] 176 [.ref 166, .int p1, .int p2, .long p3] I J := by
  have hw := h.1.1
  by_cases c : hd I p1 p2
  · obtain ⟨k1, k2, k3, k4, k5⟩ := hd_p hw c
    have hm1 : Rm (st_w I 1 3 0) (st_y (st_y J (3 + p1.toNatClampNeg) p2.toNatClampNeg p3) 187 0 (J (3 + p1.toNatClampNeg) p2.toNatClampNeg)) → True := fun _ => trivial
    have hB : (st_y (st_y J (3 + p1.toNatClampNeg) p2.toNatClampNeg p3) 187 0 (J (3 + p1.toNatClampNeg) p2.toNatClampNeg)) 167 = J 167 := by
      funext k
      rw [rJ_o _ _ _ _ (Or.inr rfl), st_y_e, if_neg (by omega)]
    have g1 : hd (st_w I 1 3 0) p1 p2 := c
    obtain ⟨hm, hz, ho, hc⟩ := h
    have hm' := hm
    obtain ⟨⟨a1, a2, a3⟩, b1, b2, b3, b4, b5⟩ := hm'
    have gm : (((¬ ((Int32.toInt64 p1) < (0 : Int64))) ∧ (¬ ((Int32.toInt64 (((st_w I 1 3 0) 166 6) - (1 : Int32))) < (Int32.toInt64 p1)))) ∧ ((¬ ((Int32.toInt64 p2) < (0 : Int64))) ∧ (¬ ((Int32.toInt64 (((st_w I 1 3 0) 170 (Int32.toNatClampNeg (if (¬ ((Int32.toInt64 p1) < (0 : Int64))) ∧ (¬ ((3 : Int64) < (Int32.toInt64 p1))) then p1 else (0 : Int32)))) - (1 : Int32))) < (Int32.toInt64 p2))))) := (hd_m hm).mpr c
    refine ⟨st_w I 1 3 0, st_y (st_y J (3 + p1.toNatClampNeg) p2.toNatClampNeg p3) 187 0 (J (3 + p1.toNatClampNeg) p2.toNatClampNeg), 0, 0, 0, iv_L_word _ ⟨hd_k hw, by rw [if_pos (hd_c.mpr c)]; exact ⟨k3, k4, rfl⟩⟩, by omega, by omega, st_w (st_w (st_w I 1 3 0) 166 10 0) 166 11 0, st_y (st_y (st_y J (3 + p1.toNatClampNeg) p2.toNatClampNeg p3) 187 0 (J (3 + p1.toNatClampNeg) p2.toNatClampNeg)) 167 (64 * p1.toNatClampNeg + p2.toNatClampNeg) p3, J 167 (64 * p1.toNatClampNeg + p2.toNatClampNeg), (ev_M_word _).mpr ⟨hd_mk (J := J) hm, by rw [if_pos gm, k5, oi_n (by omega), hB]; exact ⟨oi_in (by omega) (by omega), rfl⟩⟩, rfl, fun _ => ?_, ?_⟩
    · rw [st_y_e, if_neg (by omega), y_o, b4 _ _ k1 k2]
    · refine ⟨⟨⟨a1, a2, a3⟩, b1, b2, b3, fun s k hs hk => ?_, b5⟩, Or.inl ⟨rfl, rfl⟩, Ro_cg ho rfl rfl (fun a f h1 h2 => ?_) rfl (fun _ => rfl), fun c hc' => cr_cg (hc c hc') (fun f _ => ?_) (fun a h1 h2 => ?_) (fun s _ => rfl)⟩
      · rw [st_y_e]
        by_cases q : 167 = 167 ∧ 64 * s + k = 64 * p1.toNatClampNeg + p2.toNatClampNeg
        · rw [if_pos q, st_y_e, if_neg (by omega), st_y_e, if_neg (by omega), st_y_e, if_pos (by omega)]
        · rw [if_neg q, hB, st_y_e, if_neg (by omega), st_y_e, if_neg (by omega), st_y_e, if_neg (by omega)]
          exact b4 s k hs hk
      · rw [st_w_e, if_neg (by omega), st_w_e, if_neg (by omega), st_w_e, if_neg (by omega)]
      · rw [st_w_e, if_neg (by omega), st_w_e, if_neg (by omega), st_w_e, if_neg (by omega)]
      · rw [st_w_e, if_neg (by omega), st_w_e, if_neg (by omega), st_w_e, if_neg (by omega)]
  · exact ⟨I, J, 1, 1, 6, iv_L_word _ ⟨hd_k hw, by rw [if_neg (fun q => c (hd_c.mp q))]⟩, by omega, by omega, st_w (st_w I 166 10 0) 166 10 1, J, 0, (ev_M_word _).mpr ⟨hd_mk h.1, by rw [if_neg (fun q => c ((hd_m h.1).mp q))]⟩, e_o _ _ _, fun h => absurd h (by decide), RR_ee h (fun _ _ _ => rfl)⟩
