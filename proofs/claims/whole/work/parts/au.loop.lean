/-! .. and the loop -/
def lc_head : List (Nat × Instr × Nat × pm_L) := [(28, .iload 5, 2, ([], .null)), (30, .aload_n 0, 1, ([], .null)), (31, .arraylength, 1, ([], .null)), (32, .bipush 8, 2, ([], .null)), (34, .isub, 1, ([], .null)), (35, .if_icmp .gt 1875, 3, ([1910], .null)), (38, .aload_n 0, 1, ([], .null)), (39, .iload 5, 2, ([], .null)), (41, .iaload, 1, ([], .null)), (42, .bipush 31, 2, ([], .null)), (44, .iand, 1, ([], .null)), (45, .tableswitch 1859 0 22 #[107, 191, 302, 369, 425, 493, 573, 653, 776, 893, 960, 1028, 1064, 1168, 1300, 1404, 1502, 1546, 1602, 1702, 1715, 1759, 1803], 107, ([1904, 152, 236, 347, 414, 470, 538, 618, 698, 821, 938, 1005, 1073, 1109, 1213, 1345, 1449, 1547, 1591, 1647, 1747, 1760, 1804, 1848], .null)), (1904, .iinc 5 8, 3, ([], .null)), (1907, .goto (-1879), 3, ([28], .null)), (1910, .iconst 1, 1, ([], .null)), (1911, .ireturn, 1, ([1], .null))]
theorem ls_head : pm_sub lc_head kc_L_law := pm_sub_of (by decide +kernel)
def lw_ts : List Nat := [152, 236, 347, 414, 470, 538, 618, 698, 821, 938, 1005, 1073, 1109, 1213, 1345, 1449, 1547, 1591, 1647, 1747, 1760, 1804, 1848]
theorem lw_case {X : pm_X} {n : Nat} {xs : Nat → Int32} (h0 : X 0 = (n, xs)) (hX : X 1 = (8, eb)) {d : Nat} {i : Int32} (hi : lw_in i n) {a b e : Option Value} {c k : Nat} {I : st_I} {J : st_J} (h : RR I J) : ∀ w : Nat, lw_S X d (lw_ts.getD w 1904) i a b e c k I J
  | 0 => lw_segment h0 hX hi h
  | 1 => lw_word h0 hX hi h
  | 2 => lw_at h0 hX hi h
  | 3 => lw_allow h0 hX hi h
  | 4 => lw_root h0 hX hi h
  | 5 => lw_follow h0 hX hi h
  | 6 => lw_element h0 hX hi h
  | 7 => lw_number h0 hX hi h
  | 8 => lw_real h0 hX hi h
  | 9 => lw_item h0 hX hi h
  | 10 => lw_look h0 hX hi h
  | 11 => lw_begin h0 hX hi h
  | 12 => lw_struct h0 hX hi h
  | 13 => lw_list h0 hX hi h
  | 14 => lw_put h0 hX hi h
  | 15 => lw_putReal h0 hX hi h
  | 16 => lw_pack h0 hX hi h
  | 17 => lw_octet h0 hX hi h
  | 18 => lw_feed h0 hX hi h
  | 19 => lw_drop h0 hX hi h
  | 20 => lw_take h0 hX hi h
  | 21 => lw_canonical h0 hX hi h
  | 22 => lw_count h0 hX hi h
  | _ + 23 => ⟨I, J, a, b, e, c, k, h, by omega, by omega, fun _ g => g⟩
theorem lw_31 (x : Int32) : ∃ w : Nat, w < 32 ∧ (x &&& (31 : Int32)).toInt = w := ⟨_, Nat.mod_lt _ (by decide), bn_i (bn_and32 (n := 5) 31 rfl) (by omega)⟩
theorem lw_in_of {m n : Nat} (h : 8 * m + 8 ≤ n) (hn : n ≤ 4096) : lw_in (Int32.ofNat (8 * m)) n := by
  have key : ∀ j : Nat, j ≤ 7 → pm_in (Int32.ofNat (8 * m) + Int32.ofNat j) n = true := fun j hj => by
    rw [oi_p]
    exact oi_in (by omega) (by omega)
  refine ⟨oi_in (by omega) (by omega), key 1 (by omega), key 2 (by omega), key 3 (by omega), key 4 (by omega), key 5 (by omega), key 6 (by omega), key 7 (by omega)⟩
theorem lw_loop {X : pm_X} {n : Nat} {xs : Nat → Int32} (h0 : X 0 = (n, xs)) (hX : X 1 = (8, eb)) (hn : n ≤ 4096) {d : Nat} : ∀ (t m : Nat), n < 8 * (m + t) + 8 → m ≤ 513 → ∀ (a b e : Option Value) (c k : Nat) (I : st_I) (J : st_J), RR I J →
    ∃ (I' : st_I) (J' : st_J) (c' k' : Nat), c' ≤ c + t ∧ k' ≤ k + 6 * t ∧ Gx X (d + 72) (kc_L_law, []) (28, [some (.retAddr 0), some (.ref 0), some (.ref 166), some (.ref 187), some (.ref 188), some (.int (Int32.ofNat (8 * m))), a, b, e], [], st_h I J, c, k) (.inl (some (.int 1)), st_h I' J', c', k') := by
  intro t
  induction t with
  | zero =>
    intro m hm hm2 a b e c k I J h
    refine ⟨I, J, c, k, by omega, by omega, ?_⟩
    refine (t_pS ls_head (pc' := 31) (ls' := [some (.retAddr 0), some (.ref 0), some (.ref 166), some (.ref 187), some (.ref 188), some (.int (Int32.ofNat (8 * m))), a, b, e]) (st' := [.retAddr 0, .int (Int32.ofNat (8 * m))]) 2 rfl).mpr ?_
    refine (t_nX (ls_head _ _ rfl) rfl h0).mpr ?_
    refine (t_pS ls_head (pc' := 35) (ls' := [some (.retAddr 0), some (.ref 0), some (.ref 166), some (.ref 187), some (.ref 188), some (.int (Int32.ofNat (8 * m))), a, b, e]) (st' := [.int (Int32.ofNat n - (8 : Int32)), .int (Int32.ofNat (8 * m))]) 2 rfl).mpr ?_
    refine (t_igt (ls_head _ _ rfl)).mpr ?_
    rw [if_pos (by rw [i32_lt, is2 (oi_i (by omega)) (show (8 : Int32).toInt = 8 from rfl) (by omega) (by omega), oi_i (by omega)]; omega)]
    refine (t_pS ls_head (pc' := 1911) (ls' := [some (.retAddr 0), some (.ref 0), some (.ref 166), some (.ref 187), some (.ref 188), some (.int (Int32.ofNat (8 * m))), a, b, e]) (st' := [.int (1 : Int32)]) 1 rfl).mpr ?_
    exact (t_rZ (ls_head _ _ rfl)).mpr ⟨Or.inr rfl, rfl⟩
  | succ t ih =>
    intro m hm hm2 a b e c k I J h
    by_cases hc : 8 * m + 8 ≤ n
    · obtain ⟨w, hw, ew⟩ := lw_31 (xs (8 * m))
      obtain ⟨I', J', a', b', e', c', k', hR, b1, b2, g⟩ := lw_case (d := d) (a := a) (b := b) (e := e) (c := c) (k := k) h0 hX (lw_in_of hc hn) h w
      obtain ⟨I2, J2, c2, k2, n1, n2, g2⟩ := ih (m + 1) (by omega) (by omega) a' b' e' c' k' I' J' hR
      refine ⟨I2, J2, c2, k2, by omega, by omega, ?_⟩
      refine (t_pS ls_head (pc' := 31) (ls' := [some (.retAddr 0), some (.ref 0), some (.ref 166), some (.ref 187), some (.ref 188), some (.int (Int32.ofNat (8 * m))), a, b, e]) (st' := [.retAddr 0, .int (Int32.ofNat (8 * m))]) 2 rfl).mpr ?_
      refine (t_nX (ls_head _ _ rfl) rfl h0).mpr ?_
      refine (t_pS ls_head (pc' := 35) (ls' := [some (.retAddr 0), some (.ref 0), some (.ref 166), some (.ref 187), some (.ref 188), some (.int (Int32.ofNat (8 * m))), a, b, e]) (st' := [.int (Int32.ofNat n - (8 : Int32)), .int (Int32.ofNat (8 * m))]) 2 rfl).mpr ?_
      refine (t_igt (ls_head _ _ rfl)).mpr ?_
      rw [if_neg (by rw [i32_lt, is2 (oi_i (by omega)) (show (8 : Int32).toInt = 8 from rfl) (by omega) (by omega), oi_i (by omega)]; omega)]
      refine (t_pS ls_head (pc' := 41) (ls' := [some (.retAddr 0), some (.ref 0), some (.ref 166), some (.ref 187), some (.ref 188), some (.int (Int32.ofNat (8 * m))), a, b, e]) (st' := [.int (Int32.ofNat (8 * m)), .retAddr 0]) 2 rfl).mpr ?_
      refine (t_lX (ls_head _ _ rfl) rfl h0).mpr ⟨oi_in (by omega) (by omega), ?_⟩
      rw [oi_n (by omega)]
      refine (t_pS ls_head (pc' := 45) (ls' := [some (.retAddr 0), some (.ref 0), some (.ref 166), some (.ref 187), some (.ref 188), some (.int (Int32.ofNat (8 * m))), a, b, e]) (st' := [.int (xs (8 * m) &&& (31 : Int32))]) 2 rfl).mpr ?_
      refine (t_sw (ls_head _ _ rfl)).mpr ?_
      rw [ew]
      have e1 : (bif decide ((w : Int) < 0) then 1904 else lw_ts.getD ((w : Int) - 0).toNat 1904) = lw_ts.getD w 1904 := by
        rw [decide_eq_false (by omega), show ((w : Int) - 0).toNat = w by omega]
        rfl
      have e2 : Int32.ofNat (8 * m) + (8 : Int32) = Int32.ofNat (8 * (m + 1)) := oi_p (8 * m) 8
      have g3 := g _ (((t_pS ls_head (pc := 1904) (pc' := 28) (ls' := [some (.retAddr 0), some (.ref 0), some (.ref 166), some (.ref 187), some (.ref 188), some (.int (Int32.ofNat (8 * m) + (8 : Int32))), a', b', e']) (st' := []) 2 rfl)).mpr (by rw [e2]; exact g2))
      rw [← e1] at g3
      exact g3
    · refine ⟨I, J, c, k, by omega, by omega, ?_⟩
      refine (t_pS ls_head (pc' := 31) (ls' := [some (.retAddr 0), some (.ref 0), some (.ref 166), some (.ref 187), some (.ref 188), some (.int (Int32.ofNat (8 * m))), a, b, e]) (st' := [.retAddr 0, .int (Int32.ofNat (8 * m))]) 2 rfl).mpr ?_
      refine (t_nX (ls_head _ _ rfl) rfl h0).mpr ?_
      refine (t_pS ls_head (pc' := 35) (ls' := [some (.retAddr 0), some (.ref 0), some (.ref 166), some (.ref 187), some (.ref 188), some (.int (Int32.ofNat (8 * m))), a, b, e]) (st' := [.int (Int32.ofNat n - (8 : Int32)), .int (Int32.ofNat (8 * m))]) 2 rfl).mpr ?_
      refine (t_igt (ls_head _ _ rfl)).mpr ?_
      rw [if_pos (by rw [i32_lt, is2 (oi_i (by omega)) (show (8 : Int32).toInt = 8 from rfl) (by omega) (by omega), oi_i (by omega)]; omega)]
      refine (t_pS ls_head (pc' := 1911) (ls' := [some (.retAddr 0), some (.ref 0), some (.ref 166), some (.ref 187), some (.ref 188), some (.int (Int32.ofNat (8 * m))), a, b, e]) (st' := [.int (1 : Int32)]) 1 rfl).mpr ?_
      exact (t_rZ (ls_head _ _ rfl)).mpr ⟨Or.inr rfl, rfl⟩
