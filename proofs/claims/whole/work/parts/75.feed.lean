/-! feed: octets added on both sides -/
theorem ob_c (w : Int64) (s : Int32) : (Int64.toInt32 (ju w s) &&& 255) = Int32.ofNat (wn (ju w s) % 256) := by
  refine eq_of (bn_i ((bn_and32 (n := 8) 255 rfl).trans ?_) (by omega))
  rw [bn_low]
  omega
theorem ob_m (w : Int64) (s : Int32) : Int64.toInt32 (ju w s &&& 255) = Int32.ofNat (wn (ju w s) % 256) := by
  refine eq_of (bn_i ((bn_low _).trans ?_) (by omega))
  unfold wn
  rw [bn_and64 (n := 8) 255 rfl]
  omega
def byt (v : Nat) : Int32 := vp_nar .byte (Int8.toInt32 (Int32.toInt8 (Int32.ofNat v)))
set_option maxRecDepth 100000 in
theorem byt_a : ∀ v : Fin 256, (byt v.1 &&& 255) = Int32.ofNat v.1 := by decide +kernel
def obn (w : Int64) (k : Nat) : Nat := wn (ju w ((8 : Int32) * Int32.ofNat k)) % 256
/-- the class's octets with n more -/
def fdI (I : st_I) (w : Int64) (n : Nat) : st_I := fun a f => if a = st_o (I 0 6) + 1 ∧ (I (st_o (I 0 6)) 1).toNatClampNeg ≤ f ∧ f < (I (st_o (I 0 6)) 1).toNatClampNeg + n then byt (obn w (f - (I (st_o (I 0 6)) 1).toNatClampNeg)) else if a = st_o (I 0 6) ∧ f = 1 then Int32.ofNat ((I (st_o (I 0 6)) 1).toNatClampNeg + n) else I a f
def fdk (I : st_I) : Prop := 0 ≤ (I (st_o (I 0 6)) 1).toInt ∧ (I (st_o (I 0 6)) 1).toInt ≤ 1500
theorem fdI_0 {I : st_I} (w : Int64) (h : fdk I) : fdI I w 0 = I := by
  funext a f
  unfold fdI
  rw [if_neg (by omega)]
  by_cases q : a = st_o (I 0 6) ∧ f = 1
  · rw [if_pos q, q.1, q.2, Nat.add_zero]
    exact (oi_of h.1).symm
  · rw [if_neg q]
theorem fdI_06 (I : st_I) (w : Int64) (n : Nat) : fdI I w n 0 6 = I 0 6 := by
  have hc := st_o_c (I 0 6)
  unfold fdI
  rw [if_neg (by omega), if_neg (by omega)]
theorem fdI_o (I : st_I) (w : Int64) (n : Nat) : fdI I w n (st_o (I 0 6)) 1 = Int32.ofNat ((I (st_o (I 0 6)) 1).toNatClampNeg + n) := by
  unfold fdI
  rw [if_neg (by omega), if_pos ⟨rfl, rfl⟩]
theorem fdI_s (I : st_I) (w : Int64) (n : Nat) : st_w (st_w (fdI I w n) (st_o (I 0 6) + 1) ((I (st_o (I 0 6)) 1).toNatClampNeg + n) (byt (obn w n))) (st_o (I 0 6)) 1 (Int32.ofNat ((I (st_o (I 0 6)) 1).toNatClampNeg + n + 1)) = fdI I w (n + 1) := by
  funext a f
  rw [st_w_e]
  by_cases q1 : a = st_o (I 0 6) ∧ f = 1
  · rw [if_pos q1]
    unfold fdI
    rw [if_neg (by omega), if_pos q1]
    rfl
  · rw [if_neg q1, st_w_e]
    by_cases q2 : a = st_o (I 0 6) + 1 ∧ f = (I (st_o (I 0 6)) 1).toNatClampNeg + n
    · rw [if_pos q2]
      unfold fdI
      rw [if_pos (by omega), q2.2, show (I (st_o (I 0 6)) 1).toNatClampNeg + n - (I (st_o (I 0 6)) 1).toNatClampNeg = n by omega]
    · rw [if_neg q2]
      unfold fdI
      by_cases q3 : a = st_o (I 0 6) + 1 ∧ (I (st_o (I 0 6)) 1).toNatClampNeg ≤ f ∧ f < (I (st_o (I 0 6)) 1).toNatClampNeg + n
      · rw [if_pos q3, if_pos (by omega)]
      · rw [if_neg q3, if_neg q1, if_neg (by omega), if_neg q1]
theorem hc_D_feed {X : pm_X} {d : Nat} {I : st_I} {J : st_J} {p1 : Int64} {p2 : Int32} (r : pm_R) : (if (p2 < (1 : Int32)) ∨ ((8 : Int32) < p2) then r = (.inr 1, st_h I J, 1, 6) else (if (1500 : Int32) < ((I (st_o (I 0 6)) 1) + p2) then r = (.inr 3, st_h I J, 1, 6) else ((fdk I) ∧ r = (.inl (some (.int (Int32.ofNat ((Int32.toNatClampNeg (I (st_o (I 0 6)) 1)) + (Int32.toNatClampNeg p2))))), st_h (fdI I p1 (Int32.toNatClampNeg p2)) J, 0, 0)))) → Ex X (d + 3) 140 [.ref 0, .long p1, .int p2] (st_h I J) r := by
  intro h
  refine (e_D_feed r).mpr ?_
  by_cases c1 : (p2 < (1 : Int32)) ∨ ((8 : Int32) < p2)
  · rw [if_pos c1] at h ⊢
    exact h
  · rw [if_neg c1] at h ⊢
    by_cases c2 : (1500 : Int32) < ((I (st_o (I 0 6)) 1) + p2)
    · rw [if_pos c2] at h ⊢
      exact h
    · rw [if_neg c2] at h ⊢
      obtain ⟨hk, h⟩ := h
      rw [i32_lt, i32_lt, show (1 : Int32).toInt = 1 from rfl, show (8 : Int32).toInt = 8 from rfl] at c1
      have hn := cln (x := p2) (by omega)
      have ep := oi_of (x := p2) (by omega)
      have hcn := cln hk.1
      rw [i32_lt, ia2 rfl rfl (by unfold fdk at hk; omega) (by unfold fdk at hk; omega), show (1500 : Int32).toInt = 1500 from rfl] at c2
      have hle : (I (st_o (I 0 6)) 1).toNatClampNeg + p2.toNatClampNeg ≤ 1500 := by omega
      have L := lp (G := fun i => Gx X (d + 2) (kc_D_feed, []) (45, [some (.ref 0), some (.long p1), none, some (.int p2), some (.int (Int32.ofNat i))], [], st_h (fdI I p1 i) J, 0, 0) r) p2.toNatClampNeg (fun i hi => by
        refine (b_D_feed_45 r).trans ?_
        rw [if_pos (show Int32.ofNat i < p2 by rw [i32_lt, oi_i (by omega)]; omega), fdI_06, fdI_o, if_pos (show Int32.ofNat ((I (st_o (I 0 6)) 1).toNatClampNeg + i) < 1500 by rw [i32_lt, oi_i (by omega), show (1500 : Int32).toInt = 1500 from rfl]; omega), oi_n (by omega), ob_c, oi_a]
        have e2 : (st_w (fdI I p1 i) (st_o (I 0 6) + 1) ((I (st_o (I 0 6)) 1).toNatClampNeg + i) (vp_nar .byte (Int8.toInt32 (Int32.toInt8 (Int32.ofNat (wn (ju p1 ((8 : Int32) * Int32.ofNat i)) % 256)))))) (st_o (I 0 6)) 1 = Int32.ofNat ((I (st_o (I 0 6)) 1).toNatClampNeg + i) := by
          rw [st_w_e, if_neg (by omega), fdI_o]
        rw [e2, oi_a]
        have e3 := fdI_s I p1 i
        unfold byt obn at e3
        rw [e3]
        exact and_t (oi_in (by omega) (by omega)))
      have L := L.mpr ((b_D_feed_45 r).mpr (by
        rw [← ep, if_neg (show ¬ p2 < p2 by rw [i32_lt]; omega), fdI_06, fdI_o]
        exact h))
      rw [fdI_0 p1 hk] at L
      exact L
/-- the reference's octets with n more -/
def fdM (I : st_I) (w : Int64) (n : Nat) : st_I := fun a f => if a = 171 ∧ (I 166 7).toNatClampNeg ≤ f ∧ f < (I 166 7).toNatClampNeg + n then Int32.ofNat (obn w (f - (I 166 7).toNatClampNeg)) else I a f
theorem fdM_0 (I : st_I) (w : Int64) : fdM I w 0 = I := by
  funext a f
  unfold fdM
  rw [if_neg (by omega)]
theorem fdM_7 (I : st_I) (w : Int64) (n : Nat) : fdM I w n 166 7 = I 166 7 := by
  unfold fdM
  rw [if_neg (by omega)]
theorem fdM_s (I : st_I) (w : Int64) (n : Nat) : st_w (fdM I w n) 171 ((I 166 7).toNatClampNeg + n) (Int32.ofNat (obn w n)) = fdM I w (n + 1) := by
  funext a f
  rw [st_w_e]
  by_cases q2 : a = 171 ∧ f = (I 166 7).toNatClampNeg + n
  · rw [if_pos q2]
    unfold fdM
    rw [if_pos (by omega), q2.2, show (I 166 7).toNatClampNeg + n - (I 166 7).toNatClampNeg = n by omega]
  · rw [if_neg q2]
    unfold fdM
    by_cases q3 : a = 171 ∧ (I 166 7).toNatClampNeg ≤ f ∧ f < (I 166 7).toNatClampNeg + n
    · rw [if_pos q3, if_pos (by omega)]
    · rw [if_neg q3, if_neg (by omega)]
theorem hc_M_feed {X : pm_X} {d : Nat} {I : st_I} {J : st_J} {p1 : Int64} {p2 : Int32} (h7 : 0 ≤ (I 166 7).toInt ∧ (I 166 7).toInt ≤ 1500) (r : pm_R) : (if (¬ ((Int32.toInt64 p2) < (1 : Int64))) ∧ (¬ ((8 : Int64) < (Int32.toInt64 p2))) then (if (1500 : Int32) < ((I 166 7) + p2) then r = (.inl (some (.int (0 : Int32))), st_h (st_w (st_w I 166 10 (0 : Int32)) 166 10 (2 : Int32)) J, 0, 0) else r = (.inl (some (.int (Int32.ofNat ((I 166 7).toNatClampNeg + p2.toNatClampNeg)))), st_h (st_w (fdM (st_w I 166 10 (0 : Int32)) p1 p2.toNatClampNeg) 166 7 (Int32.ofNat ((I 166 7).toNatClampNeg + p2.toNatClampNeg))) J, 0, 0)) else r = (.inl (some (.int (0 : Int32))), st_h (st_w (st_w I 166 10 (0 : Int32)) 166 10 (1 : Int32)) J, 0, 0)) → Ex X (d + 2) 225 [.ref 166, .long p1, .int p2] (st_h I J) r := by
  intro h
  refine (e_M_feed r).mpr ?_
  by_cases c1 : (¬ ((Int32.toInt64 p2) < (1 : Int64))) ∧ (¬ ((8 : Int64) < (Int32.toInt64 p2)))
  · rw [if_pos c1] at h ⊢
    by_cases c2 : (1500 : Int32) < ((I 166 7) + p2)
    · rw [if_pos c2] at h ⊢
      exact h
    · rw [if_neg c2] at h ⊢
      rw [i64_lt, i64_lt, tl, show (1 : Int64).toInt = 1 from rfl, show (8 : Int64).toInt = 8 from rfl] at c1
      have hn := cln (x := p2) (by omega)
      have ep := oi_of (x := p2) (by omega)
      have hcn := cln h7.1
      have e7 := oi_of h7.1
      rw [i32_lt, ia2 rfl rfl (by omega) (by omega), show (1500 : Int32).toInt = 1500 from rfl] at c2
      have k7 : (st_w I 166 10 0) 166 7 = I 166 7 := by rw [st_w_e, if_neg (by omega)]
      have hsum : ∀ i : Nat, I 166 7 + Int32.ofNat i = Int32.ofNat ((I 166 7).toNatClampNeg + i) := fun i => by
        conv => lhs; rw [e7]
        exact oi_p _ _
      have L := lp (G := fun i => Gx X (d + 1) (kc_M_feed, []) (60, [some (.ref 166), some (.long p1), none, some (.int p2), some (.int (Int32.ofNat i))], [], st_h (fdM (st_w I 166 10 0) p1 i) J, 0, 0) r) p2.toNatClampNeg (fun i hi => by
        refine (b_M_feed_60 r).trans ?_
        rw [if_pos (show Int32.ofNat i < p2 by rw [i32_lt, oi_i (by omega)]; omega), fdM_7, k7, hsum, oi_n (by omega), ob_m, oi_a]
        have e3 := fdM_s (st_w I 166 10 0) p1 i
        rw [k7] at e3
        unfold obn at e3
        rw [e3]
        exact and_t (oi_in (by omega) (by omega)))
      have L := L.mpr ((b_M_feed_60 r).mpr (by
        rw [← ep, if_neg (show ¬ p2 < p2 by rw [i32_lt]; omega), fdM_7, k7]
        have es : I 166 7 + p2 = Int32.ofNat ((I 166 7).toNatClampNeg + p2.toNatClampNeg) := by
          rw [← hsum, ← ep]
        rw [es]
        exact h))
      rw [fdM_0] at L
      exact L
  · rw [if_neg c1] at h ⊢
    exact h
