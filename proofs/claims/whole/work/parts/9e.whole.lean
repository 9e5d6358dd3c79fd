/-! .. the reference's whole group -/
def whn (I : st_I) (t : Nat) (w : Int64) (n : Nat) : st_I := fun a f => if a = 172 ∧ t ≤ f ∧ f < t + n then Int32.ofNat (obn w (f - t)) else I a f
def whI (I : st_I) (t : Nat) (w : Int64) : st_I := whn I t w 8
def whk (p : Int32) : Prop := 0 ≤ p.toInt ∧ p.toInt ≤ 2590
theorem whn_s (I : st_I) (t : Nat) (w : Int64) (n : Nat) : st_w (whn I t w n) 172 (t + n) (Int32.ofNat (obn w n)) = whn I t w (n + 1) := by
  funext a f
  rw [st_w_e]
  unfold whn
  by_cases q : a = 172 ∧ f = t + n
  · rw [if_pos q, if_pos (by omega), q.2, show t + n - t = n by omega]
  · rw [if_neg q]
    by_cases z : a = 172 ∧ t ≤ f ∧ f < t + n
    · rw [if_pos z, if_pos (by omega)]
    · rw [if_neg z, if_neg (by omega)]
theorem hc_M_whole {X : pm_X} {d : Nat} {I : st_I} {J : st_J} {p1 : Int32} {p2 : Int64} (r : pm_R) : ((whk p1) ∧ r = (.inl (some (.int (p1 + (8 : Int32)))), st_h (whI I (Int32.toNatClampNeg p1) p2) J, 0, 0)) → Ex X (d + 1) 223 [.ref 166, .int p1, .long p2] (st_h I J) r := by
  rintro ⟨hp, h⟩
  obtain ⟨P, rfl, hP⟩ : ∃ P : Nat, p1 = Int32.ofNat P ∧ P ≤ 2590 := ⟨p1.toNatClampNeg, oi_of hp.1, by have := cln hp.1; have := hp.2; omega⟩
  refine (e_M_whole r).mpr ?_
  have L := lp (G := fun i => Gx X d (kc_M_whole, []) (3, [some (.ref 166), some (.int (Int32.ofNat P)), some (.long p2), none, some (.int (Int32.ofNat i))], [], st_h (whn I P p2 i) J, 0, 0) r) 8 (fun i hi => by
    refine (b_M_whole_3 r).trans ?_
    rw [if_pos (show Int32.ofNat i < 8 by rw [show (8 : Int32) = Int32.ofNat 8 from rfl, oi_lt (by omega) (by omega)]; exact hi), oi_a, oi_p, oi_n (by omega), ob_m]
    have e := whn_s I P p2 i
    unfold obn at e
    rw [e]
    exact and_t (oi_in (by omega) (by omega)))
  have L := L.mpr ((b_M_whole_3 r).mpr (by
    rw [if_neg (by decide)]
    rw [oi_n (by omega)] at h
    exact h))
  have e0 : whn I P p2 0 = I := by
    funext a f
    unfold whn
    rw [if_neg (by omega)]
  rw [e0] at L
  exact L
