/-! two loops of four rounds -/
theorem hc_Me_renew {X : pm_X} {d : Nat} {I : st_I} {J : st_J} {p1 : Int32} (r : pm_R) : r = (.inl none, st_h (st_w (st_w (st_w (st_w (st_w (st_w I 7 0 (0 : Int32)) 7 1 (0 : Int32)) 7 2 (0 : Int32)) 7 3 (0 : Int32)) 1 2 p1) 1 3 (0 : Int32)) (st_fl (st_fl (st_fl (st_fl J 3 64 (0 : Int64)) 4 64 (0 : Int64)) 5 64 (0 : Int64)) 6 64 (0 : Int64)), 0, 0) → Ex X (d + 2) 14 [.ref 1, .int p1] (st_h I J) r := by
  intro h
  refine ie_Me_renew r (ib_Me_renew_2 r ?_)
  rw [if_pos (by decide)]
  refine ⟨rfl, ib_Me_renew_2 r ?_⟩
  rw [if_pos (by decide)]
  refine ⟨rfl, ib_Me_renew_2 r ?_⟩
  rw [if_pos (by decide)]
  refine ⟨rfl, ib_Me_renew_2 r ?_⟩
  rw [if_pos (by decide)]
  refine ⟨rfl, ib_Me_renew_2 r ?_⟩
  rw [if_neg (by decide)]
  exact h
theorem hc_M_begin {X : pm_X} {d : Nat} {I : st_I} {J : st_J} {p1 : Int32} (r : pm_R) : (if (¬ ((Int32.toInt64 p1) < (1 : Int64))) ∧ (¬ ((64 : Int64) < (Int32.toInt64 p1))) then r = (.inl none, st_h (st_mz (st_w (st_w (st_w (st_w (st_w (st_w (st_w (st_w (st_w I 166 10 (0 : Int32)) 166 9 p1) 166 6 (1 : Int32)) 170 0 (0 : Int32)) 170 1 (0 : Int32)) 170 2 (0 : Int32)) 170 3 (0 : Int32)) 170 0 (1 : Int32)) 166 11 (1 : Int32)) 17) (st_lz (st_lz (st_lz (st_lz J 0 64) 1 64) 2 64) 3 64), 0, 0) else r = (.inl none, st_h (st_w (st_w I 166 10 (0 : Int32)) 166 10 (1 : Int32)) J, 0, 0)) → Ex X (d + 3) 206 [.ref 166, .int p1] (st_h I J) r := by
  intro h
  refine ie_M_begin r ?_
  by_cases hb : (¬ ((Int32.toInt64 p1) < (1 : Int64))) ∧ (¬ ((64 : Int64) < (Int32.toInt64 p1)))
  · rw [if_pos hb] at h ⊢
    refine ib_M_begin_43 r ?_
    rw [if_pos (by decide)]
    refine ⟨rfl, ib_M_begin_43 r ?_⟩
    rw [if_pos (by decide)]
    refine ⟨rfl, ib_M_begin_43 r ?_⟩
    rw [if_pos (by decide)]
    refine ⟨rfl, ib_M_begin_43 r ?_⟩
    rw [if_pos (by decide)]
    refine ⟨rfl, ib_M_begin_43 r ?_⟩
    rw [if_neg (by decide)]
    exact h
  · rw [if_neg hb] at h ⊢
    exact h
