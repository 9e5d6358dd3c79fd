/-! octet, count, drop -/
theorem s_octet {X : pm_X} {d : Nat} {I : st_I} {J : st_J} {p1 : Int32} (h : RR I J) : StpI X (d + 3) 137 [.ref 0, .int p1, .ref 187] 224 [.ref 166, .int p1] I J := by
  obtain ⟨o1, o2, o3, o4, o5⟩ := h.2.2.1
  by_cases c : 0 ≤ p1.toInt ∧ p1.toInt < (I 166 7).toInt
  · have hn := cln c.1
    have h7 := cln o3
    have hp : pm_in p1 1500 = true := by
      rw [oi_of c.1]
      exact oi_in (by omega) (by omega)
    refine ⟨I, st_y J 187 0 (Int32.toInt64 (I (st_o (I 0 6) + 1) p1.toNatClampNeg &&& 255)), 0, 0, 0, iv_L_octet _ (by rw [if_neg (by rw [i32_lt, i32_lt, i0, o2]; omega)]; exact ⟨hp, rfl⟩), by omega, by omega, st_w I 166 10 0, st_y J 187 0 (Int32.toInt64 (I (st_o (I 0 6) + 1) p1.toNatClampNeg &&& 255)), I 171 p1.toNatClampNeg, (ev_M_octet (d := d + 1) _).mpr (by rw [if_pos (by rw [i64_lt, i64_lt, tl, tl, j0, s_1 (by omega) (by omega)]; omega)]; exact ⟨hp, rfl⟩), e_1 _ _, fun _ => ?_, RR_e h (rJ_o _ _)⟩
    rw [y_o, o5 _ (by omega)]
  · refine ⟨I, J, 1, 1, 6, iv_L_octet _ (by rw [if_pos (by rw [i32_lt, i32_lt, i0, o2]; omega)]), by omega, by omega, st_w (st_w I 166 10 0) 166 10 1, J, 0, (ev_M_octet (d := d + 1) _).mpr (by rw [if_neg (by rw [i64_lt, i64_lt, tl, tl, j0, s_1 (by omega) (by omega)]; omega)]), e_o _ _ _, fun h => absurd h (by decide), RR_ee h (fun _ _ _ => rfl)⟩
/-- what the two count, by its number -/
theorem s_count {X : pm_X} {d : Nat} {I : st_I} {J : st_J} {p1 : Int32} (h : RR I J) : StpI X (d + 3) 166 [.ref 0, .int p1, .ref 187] 237 [.ref 166, .int p1] I J := by
  obtain ⟨⟨a1, a2, a3⟩, b1, b2, b3, b4, b5⟩ := h.1
  obtain ⟨o1, o2, o3, o4, o5⟩ := h.2.2.1
  have hz := h.2.1
  have e8 : (8 : Int64).toInt = 8 := rfl
  have fin : ∀ {x y : Int32}, x = y → Ex X (d + 3) 166 [.ref 0, .int p1, .ref 187] (st_h I J) (.inl (some (.int 0)), st_h I (st_y J 187 0 (Int32.toInt64 x)), 0, 0) → Ex X (d + 3) 237 [.ref 166, .int p1] (st_h I (st_y J 187 0 (Int32.toInt64 x))) (.inl (some (.int y)), st_h (st_w I 166 10 0) (st_y J 187 0 (Int32.toInt64 x)), 0, 0) → StpI X (d + 3) 166 [.ref 0, .int p1, .ref 187] 237 [.ref 166, .int p1] I J := fun {x y} e q1 q2 => ⟨_, _, _, _, _, q1, by omega, by omega, _, _, _, q2, e_1 _ _, fun _ => by rw [y_o, e], RR_e h (rJ_o _ _)⟩
  have used : ∀ n : Nat, n < 4 → p1 = Int32.ofNat (n + 4) → p1 - 4 = Int32.ofNat n := fun n hn e => by
    refine eq_of ?_
    rw [e, is2 (oi_i (by omega)) (show (4 : Int32).toInt = 4 from rfl) (by omega) (by omega)]
    omega
  have usd : ∀ n : Nat, n < 4 → I 7 n = if Int32.ofNat n < I 166 6 then I 170 n else 0 := fun n hn => by
    rw [b1, b2 n hn]
    by_cases q : Int32.ofNat n < I 1 2
    · rw [if_pos q]
    · rw [if_neg q]
      rw [i32_lt, oi_i (by omega)] at q
      exact b5 n hn (by omega)
  by_cases c : 0 ≤ p1.toInt ∧ p1.toInt ≤ 8
  · have hin : (¬ ((Int32.toInt64 p1) < (0 : Int64))) ∧ (¬ ((8 : Int64) < (Int32.toInt64 p1))) := by
      rw [i64_lt, i64_lt, tl, j0, e8]
      omega
    have hcs : p1 = 0 ∨ p1 = 1 ∨ p1 = 2 ∨ p1 = 3 ∨ p1 = 4 ∨ p1 = 5 ∨ p1 = 6 ∨ p1 = 7 ∨ p1 = 8 := by
      have hn := cln c.1
      have e := oi_of c.1
      generalize p1.toNatClampNeg = n at *
      have : n ≤ 8 := by omega
      rcases (show n = 0 ∨ n = 1 ∨ n = 2 ∨ n = 3 ∨ n = 4 ∨ n = 5 ∨ n = 6 ∨ n = 7 ∨ n = 8 by omega) with q | q | q | q | q | q | q | q | q <;> subst q <;> rw [e] <;> decide
    rcases hcs with q | q | q | q | q | q | q | q | q
    · subst q
      exact fin b1.symm (iv_L_count _ (by rw [if_pos rfl])) ((ev_M_count (d := d + 1) _).mpr (by rw [if_pos hin, if_pos rfl]))
    · subst q
      exact fin o2 (iv_L_count _ (by rw [if_neg (by decide), if_pos rfl])) ((ev_M_count (d := d + 1) _).mpr (by rw [if_pos hin, if_neg (by decide), if_pos rfl]))
    · subst q
      exact fin b3.symm (iv_L_count _ (by rw [if_neg (by decide), if_neg (by decide), if_pos rfl])) ((ev_M_count (d := d + 1) _).mpr (by rw [if_pos hin, if_neg (by decide), if_neg (by decide), if_pos rfl]))
    · subst q
      refine fin (x := bz (0 < I 1 3)) (y := bz (¬ (I 166 11 = 0))) ?_ (iv_L_count _ (by rw [if_neg (by decide), if_neg (by decide), if_neg (by decide), if_pos rfl])) ((ev_M_count (d := d + 1) _).mpr (by rw [if_pos hin, if_neg (by decide), if_neg (by decide), if_neg (by decide), if_pos rfl]))
      rcases hz with ⟨z1, z2⟩ | ⟨z1, z2, z3, z4⟩
      · rw [bz_f (by rw [z2]; decide), bz_f (fun w => w z1)]
      · rw [bz_t (by rw [i32_lt, i0]; omega), bz_t (by rw [z1]; decide)]
    · have e4 := used 0 (by omega) q
      have hq := usd 0 (by omega)
      refine fin hq (iv_L_count _ ?_) ((ev_M_count (d := d + 1) _).mpr ?_)
      · rw [e4]; subst q
        rw [if_neg (by decide), if_neg (by decide), if_neg (by decide), if_neg (by decide), if_pos rfl]
        exact ⟨rfl, rfl⟩
      · rw [if_pos hin, e4]; subst q
        rw [if_neg (by decide), if_neg (by decide), if_neg (by decide), if_neg (by decide), if_pos rfl]
        exact ⟨fun _ => rfl, rfl⟩
    · have e4 := used 1 (by omega) q
      have hq := usd 1 (by omega)
      refine fin hq (iv_L_count _ ?_) ((ev_M_count (d := d + 1) _).mpr ?_)
      · rw [e4]; subst q
        rw [if_neg (by decide), if_neg (by decide), if_neg (by decide), if_neg (by decide), if_neg (by decide), if_pos rfl]
        exact ⟨rfl, rfl⟩
      · rw [if_pos hin, e4]; subst q
        rw [if_neg (by decide), if_neg (by decide), if_neg (by decide), if_neg (by decide), if_neg (by decide), if_pos rfl]
        exact ⟨fun _ => rfl, rfl⟩
    · have e4 := used 2 (by omega) q
      have hq := usd 2 (by omega)
      refine fin hq (iv_L_count _ ?_) ((ev_M_count (d := d + 1) _).mpr ?_)
      · rw [e4]; subst q
        rw [if_neg (by decide), if_neg (by decide), if_neg (by decide), if_neg (by decide), if_neg (by decide), if_neg (by decide), if_pos rfl]
        exact ⟨rfl, rfl⟩
      · rw [if_pos hin, e4]; subst q
        rw [if_neg (by decide), if_neg (by decide), if_neg (by decide), if_neg (by decide), if_neg (by decide), if_neg (by decide), if_pos rfl]
        exact ⟨fun _ => rfl, rfl⟩
    · have e4 := used 3 (by omega) q
      have hq := usd 3 (by omega)
      refine fin hq (iv_L_count _ ?_) ((ev_M_count (d := d + 1) _).mpr ?_)
      · rw [e4]; subst q
        rw [if_neg (by decide), if_neg (by decide), if_neg (by decide), if_neg (by decide), if_neg (by decide), if_neg (by decide), if_neg (by decide), if_pos rfl]
        exact ⟨rfl, rfl⟩
      · rw [if_pos hin, e4]; subst q
        rw [if_neg (by decide), if_neg (by decide), if_neg (by decide), if_neg (by decide), if_neg (by decide), if_neg (by decide), if_neg (by decide), if_pos rfl]
        exact ⟨fun _ => rfl, rfl⟩
    · subst q
      refine fin (x := I 1 3) (y := if I 166 11 = 0 then 0 else I 166 9) ?_ (iv_L_count _ (by rw [if_neg (by decide), if_neg (by decide), if_neg (by decide), if_neg (by decide), if_neg (by decide), if_neg (by decide), if_neg (by decide), if_neg (by decide), if_pos rfl])) ((ev_M_count (d := d + 1) _).mpr (by rw [if_pos hin, if_neg (by decide), if_neg (by decide), if_neg (by decide), if_neg (by decide), if_neg (by decide), if_neg (by decide), if_neg (by decide), if_neg (by decide), if_pos rfl]))
      rcases hz with ⟨z1, z2⟩ | ⟨z1, z2, z3, z4⟩
      · rw [if_pos z1, z2]
      · rw [if_neg (by rw [z1]; decide), z2]
  · have hne : ∀ n : Int32, 0 ≤ n.toInt → n.toInt ≤ 8 → ¬ p1 = n := fun n h1 h2 e => c (by rw [e]; exact ⟨h1, h2⟩)
    refine ⟨I, J, 1, 1, 6, iv_L_count _ (by rw [if_neg (hne 0 (by decide) (by decide)), if_neg (hne 1 (by decide) (by decide)), if_neg (hne 2 (by decide) (by decide)), if_neg (hne 3 (by decide) (by decide)), if_neg (hne 4 (by decide) (by decide)), if_neg (hne 5 (by decide) (by decide)), if_neg (hne 6 (by decide) (by decide)), if_neg (hne 7 (by decide) (by decide)), if_neg (hne 8 (by decide) (by decide))]), by omega, by omega, st_w (st_w I 166 10 0) 166 10 1, J, 0, (ev_M_count (d := d + 1) _).mpr (by rw [if_neg (by rw [i64_lt, i64_lt, tl, j0, e8]; omega)]), e_o _ _ _, fun h => absurd h (by decide), RR_ee h (fun _ _ _ => rfl)⟩
/-- drop: both give the number of octets -/
theorem s_drop {X : pm_X} {d : Nat} {I : st_I} {J : st_J} (h : RR I J) : ∃ I1 b, Ex X (d + 1) 9 [.ref 0] (st_h I J) (.inl (some (.int b)), st_h I1 J, 0, 0) ∧ ∃ I2, Ex X (d + 1) 226 [.ref 166] (st_h I1 J) (.inl (some (.int b)), st_h I2 J, 0, 0) ∧ RR I2 J := by
  obtain ⟨hm, hz, ho, hc⟩ := h
  have o := ho
  obtain ⟨o1, o2, o3, o4, o5⟩ := o
  have hoc := st_o_c (I 0 6)
  have e7 : (st_w I (st_o (I 0 6)) 1 0) 166 7 = I 166 7 := by rw [st_w_e, if_neg (by omega)]
  refine ⟨st_w I (st_o (I 0 6)) 1 0, I (st_o (I 0 6)) 1, (ev_D_drop _).mpr rfl, st_w (st_w (st_w I (st_o (I 0 6)) 1 0) 166 10 0) 166 7 0, (ev_M_drop _).mpr (by rw [e7, o2]), ?_⟩
  have q : ∀ a f, ¬ (a = st_o (I 0 6) ∧ f = 1) → ¬ (a = 166 ∧ (f = 10 ∨ f = 7)) → (st_w (st_w (st_w I (st_o (I 0 6)) 1 0) 166 10 0) 166 7 0) a f = I a f := fun a f h1 h2 => by
    rw [st_w_e, if_neg (by omega), st_w_e, if_neg (by omega), st_w_e, if_neg (by omega)]
  refine ⟨Rm_cg hm (q 1 2 (by omega) (by omega)) (fun s _ => q 7 s (by omega) (by omega)) (q 8 0 (by omega) (by omega)) (q 166 6 (by omega) (by omega)) (q 166 8 (by omega) (by omega)) (fun s _ => q 170 s (by omega) (by omega)) (fun _ _ _ => rfl), Rz_cg hz (q 1 3 (by omega) (by omega)) (q 166 9 (by omega) (by omega)) (q 166 11 (by omega) (by omega)), ?_, fun c hc' => cr_cg (hc c hc') (fun f _ => q (150 + c) f (by omega) (by omega)) (fun a h1 h2 => q a c (by omega) (by omega)) (fun s _ => q 7 s (by omega) (by omega))⟩
  unfold Ro
  rw [q 0 6 (by omega) (by omega), q 0 7 (by omega) (by omega), show (st_w (st_w (st_w I (st_o (I 0 6)) 1 0) 166 10 0) 166 7 0) 166 7 = 0 by rw [st_w_e, if_pos ⟨rfl, rfl⟩]]
  refine ⟨o1, ?_, by decide, by decide, fun k hk => absurd hk (by show ¬ k < 0; omega)⟩
  rw [st_w_e, if_neg (by omega), st_w_e, if_neg (by omega), st_w_e, if_pos ⟨rfl, rfl⟩]
