/-! the least data and pointers that all elements need -/
theorem msr_o (I : st_I) (l : Nat) (x y : Int32) {a f : Nat} (h : ¬ (a = l ∧ (f = 6 ∨ f = 7))) : msr I l x y a f = I a f := by
  unfold msr
  rw [st_w_e, if_neg (by omega), st_w_e, if_neg (by omega)]
theorem msr_6 (I : st_I) (l : Nat) (x y : Int32) : msr I l x y l 6 = x := by
  unfold msr
  rw [st_w_e, if_neg (by omega), st_w_at]
theorem msr_7 (I : st_I) (l : Nat) (x y : Int32) : msr I l x y l 7 = y := by
  unfold msr
  rw [st_w_at]
theorem msr_w6 (I : st_I) (l : Nat) (x y z : Int32) : st_w (msr I l x y) l 6 z = msr I l z y := by
  unfold msr
  rw [st_w_cm (st_w I l 6 x) (a := l) (b := l) 7 6 _ _ (by omega), st_w_w]
theorem msr_w7 (I : st_I) (l : Nat) (x y z : Int32) : st_w (msr I l x y) l 7 z = msr I l x z := by
  unfold msr
  rw [st_w_w]
theorem oi_mx {a b : Nat} (ha : a < 2147483648) (hb : b < 2147483648) : (if Int32.ofNat a < Int32.ofNat b then Int32.ofNat b else Int32.ofNat a) = Int32.ofNat (if a < b then b else a) := by
  by_cases c : a < b
  · rw [if_pos ((oi_lt ha hb).mpr c), if_pos c]
  · rw [if_neg (fun z => c ((oi_lt ha hb).mp z)), if_neg c]
theorem hc_Le_measure {X : pm_X} {d : Nat} {I : st_I} {J : st_J} {K2 : st_I} {p0 : Nat} (g0 : st_isL p0 = true) {p1 : Nat} (g1 : st_aJ p1 = some 64) (r : pm_R) : ((msx I J p0 p1 K2) ∧ r = (.inl none, st_h K2 J, 0, 0)) → Ex X (d + 2) 157 [.ref p0, .ref p1] (st_h I J) r := by
  rintro ⟨⟨el, fr, fd, fp, ⟨e1, e2, e3, e4⟩, ⟨e6, e7⟩, ⟨hel, hb⟩, hK⟩, h⟩
  refine ie_Le_measure g0 g1 r ?_
  have e0 : msr I p0 (Int32.ofNat (mx (fun e => nd (J p1) (fr + e * (fd + fp)) fd) 0)) (Int32.ofNat (mx (fun e => nd (J p1) (fr + e * (fd + fp) + fd) fp) 0)) = I := by
    funext a f
    by_cases c : a = p0 ∧ (f = 6 ∨ f = 7)
    · obtain ⟨rfl, rfl | rfl⟩ := c
      · rw [msr_6, e6]; rfl
      · rw [msr_7, e7]; rfl
    · exact msr_o I p0 _ _ c
  have key : ∀ t e, e + t = el → ∀ u3, Gx X (d + 1) (kc_Le_measure, []) (2, [some (.ref p0), some (.ref p1), some (.int (Int32.ofNat e)), u3], [], st_h (msr I p0 (Int32.ofNat (mx (fun e => nd (J p1) (fr + e * (fd + fp)) fd) e)) (Int32.ofNat (mx (fun e => nd (J p1) (fr + e * (fd + fp) + fd) fp) e))) J, 0, 0) r := by
    intro t
    induction t with
    | zero =>
      intro e he u3
      obtain rfl : e = el := he
      refine ib_Le_measure_2 g0 g1 r (ifn (by rw [msr_o _ _ _ _ (by omega), e1, oi_lt (by omega) (by omega)]; omega) ?_)
      rw [h, hK]
    | succ t ih =>
      intro e he u3
      have hbe := hb e (by omega)
      have n1 := nd_le (J p1) (fr + e * (fd + fp)) fd
      have n2 := nd_le (J p1) (fr + e * (fd + fp) + fd) fp
      have m1 : mx (fun e => nd (J p1) (fr + e * (fd + fp)) fd) e ≤ fd := mx_le (fun e => nd_le _ _ _) e
      have m2 : mx (fun e => nd (J p1) (fr + e * (fd + fp) + fd) fp) e ≤ fp := mx_le (fun e => nd_le _ _ _) e
      have z := ih (e + 1) (by omega)
      unfold mx at z
      refine ib_Le_measure_2 g0 g1 r (ifp (by rw [msr_o _ _ _ _ (by omega), e1, oi_lt (by omega) (by omega)]; omega) ?_)
      rw [msr_6, msr_o I p0 _ _ (a := p0) (f := 2) (by omega), msr_o I p0 _ _ (a := p0) (f := 3) (by omega), msr_o I p0 _ _ (a := p0) (f := 4) (by omega), e2, e3, e4, oi_p fd fp, oi_mu, oi_p, oi_a, oi_n (i := fr + e * (fd + fp)) (by omega), oi_n (i := fd) (by omega), oi_mx (by omega) (by omega), msr_w6, msr_7, msr_o I p0 _ _ (a := p0) (f := 3) (by omega), msr_o I p0 _ _ (a := p0) (f := 4) (by omega), e3, e4, oi_p, oi_n (by omega), oi_n (by omega), oi_mx (by omega) (by omega), msr_w7]
      refine ⟨⟨?_, ?_, ?_⟩, ⟨?_, ?_, ?_⟩, z _⟩
      · rw [oi_i (by omega)]; omega
      · rw [oi_i (by omega)]; omega
      · rw [oi_i (by omega), oi_i (by omega)]; omega
      · rw [oi_i (by omega)]; omega
      · rw [oi_i (by omega)]; omega
      · rw [oi_i (by omega), oi_i (by omega)]; omega
  have z := key el 0 (by omega) none
  rw [e0] at z
  exact z
