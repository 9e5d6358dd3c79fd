/-! taking: the message is laid out anew, by the class -/
def emi (G : Nat → Int64) (I : st_I) : Nat → st_I
  | 0 => I
  | s + 1 => st_w (emi G I s) 7 s (Int32.ofNat (hnm G (s + 1)))
def emj (G : Nat → Int64) (m : Nat) (J : st_J) : Nat → st_J
  | 0 => J
  | s + 1 => st_yr (emj G m J s) (3 + s) (va_cpy G ((emj G m J s) (3 + s)) (due G m s) 0 (hnm G (s + 1)))
def rnI (I : st_I) (m : Nat) : st_I := st_w (st_w (st_w (st_w (st_w (st_w I 7 0 (0 : Int32)) 7 1 (0 : Int32)) 7 2 (0 : Int32)) 7 3 (0 : Int32)) 1 2 (Int32.ofNat m)) 1 3 (0 : Int32)
def rnJ (J : st_J) : st_J := st_fl (st_fl (st_fl (st_fl J 3 64 (0 : Int64)) 4 64 (0 : Int64)) 5 64 (0 : Int64)) 6 64 (0 : Int64)
def emI (I : st_I) (J : st_J) : st_I := emi (J 11) (rnI I (hnm (J 11) 0 + 1)) (hnm (J 11) 0 + 1)
def emJ (I : st_I) (J : st_J) : st_J := emj (J 11) (hnm (J 11) 0 + 1) (rnJ J) (hnm (J 11) 0 + 1)
def emk (I : st_I) (J : st_J) : Prop := ckk I ∧ tkok (J 11) (I 10 1).toNatClampNeg
theorem emj_o (G : Nat → Int64) (m : Nat) (J : st_J) {a : Nat} : ∀ s, (a < 3 ∨ 3 + s ≤ a) → (emj G m J s) a = J a := by
  intro s
  induction s with
  | zero => intro _; rfl
  | succ s ih =>
    intro h
    show (st_yr (emj G m J s) (3 + s) _) a = _
    rw [st_yr_o _ _ (by omega), ih (by omega)]
theorem rnJ_o (J : st_J) {a : Nat} (h : a < 3 ∨ 6 < a) : (rnJ J) a = J a := by
  unfold rnJ
  funext k
  unfold st_fl
  rw [if_neg (by omega), if_neg (by omega), if_neg (by omega), if_neg (by omega)]
theorem hc_Fr_empty {X : pm_X} {d : Nat} {I : st_I} {J : st_J} (r : pm_R) : ((emk I J) ∧ r = (.inl none, st_h (emI I J) (emJ I J), 0, 0)) → Ex X (d + 3) 149 [.ref 10, .ref 1] (st_h I J) r := by
  rintro ⟨⟨hk, h0, h4, h5, h6, h7⟩, h⟩
  have hn := cln hk.1
  unfold ckk at hk
  refine ie_Fr_empty r ⟨by decide, ?_⟩
  rw [hnj_0, hnj_t (by omega), oi_a]
  unfold emI emJ at h
  generalize hm : hnm (J 11) 0 + 1 = m at *
  generalize (I 10 1).toNatClampNeg = n at *
  have hm4 : m ≤ 4 := by omega
  rw [(oi_h (k := m) (by omega)).1, oi_a]
  have e11 : ∀ s, s ≤ 4 → (emj (J 11) m (rnJ J) s) 11 = J 11 := fun s hs => by rw [emj_o _ _ _ _ (by omega), rnJ_o _ (by omega)]
  have hdm : ∀ s, s ≤ m → due (J 11) m s ≤ n := by
    have up : ∀ t s, s + t = m → due (J 11) m s ≤ due (J 11) m m := by
      intro t
      induction t with
      | zero => intro s hs; rw [show s = m by omega]; exact Nat.le_refl _
      | succ t ih =>
        intro s hs
        have := ih (s + 1) (by omega)
        have e : due (J 11) m (s + 1) = due (J 11) m s + hnm (J 11) (s + 1) := rfl
        omega
    intro s hs
    rw [h7]
    exact up (m - s) s (by omega)
  have key : ∀ t s, s + t = m → ∀ u5, Gx X (d + 2) (kc_Fr_empty, []) (22, [some (.ref 10), some (.ref 1), some (.int (Int32.ofNat m)), some (.int (Int32.ofNat (due (J 11) m s))), some (.int (Int32.ofNat s)), u5], [], st_h (emi (J 11) (rnI I m) s) (emj (J 11) m (rnJ J) s), 0, 0) r := by
    intro t
    induction t with
    | zero =>
      intro s hs u5
      obtain rfl : s = m := hs
      exact ib_Fr_empty_22 r (ifn (by rw [oi_lt (by omega) (by omega)]; omega) h)
    | succ t ih =>
      intro s hs u5
      have hl := h6 s (by omega)
      have hd1 := hdm (s + 1) (by omega)
      have hd0 := hdm s (by omega)
      have e : due (J 11) m (s + 1) = due (J 11) m s + hnm (J 11) (s + 1) := rfl
      refine ib_Fr_empty_22 r (ifp (by rw [oi_lt (by omega) (by omega)]; omega) ?_)
      rw [e11 s (by omega), oi_a, hnj_e _ (by omega), hnj_t (by omega), (oi_h (k := s + 1) (by omega)).1, oi_p, oi_n (i := s) (by omega), oi_n (i := due (J 11) m s) (by omega), oi_n (i := hnm (J 11) (s + 1)) (by omega)]
      refine ⟨oi_in (by omega) (by omega), oi_in (by omega) (by omega), ?_, ih (s + 1) (by omega) _⟩
      unfold st_cpk
      rw [oi_n (by omega), oi_n (by omega), decide_eq_false (oi_ng (by omega)), decide_eq_false (oi_ng (by omega)), decide_eq_false (show ¬ ((0 : Int32) < 0) by decide), Nat.ble_eq_true_of_le (show due (J 11) m s + hnm (J 11) (s + 1) ≤ 259 by omega), Nat.ble_eq_true_of_le (show (0 : Int32).toNatClampNeg + hnm (J 11) (s + 1) ≤ 64 by show 0 + _ ≤ 64; omega)]
      rfl
  exact key m 0 (by omega) none
