/-! .. with loops -/
def arc (t m b s i : Nat) : va_E := .inl (t, m, .inr (.inr (.inr (.inr (fun j => if j < i then some (b + s * j) else none)))))
theorem arc_0 (t m b s : Nat) : (.inl (t, m, .inr (.inr (.inr (.inr (fun _ => none))))) : va_E) = arc t m b s 0 := rfl
theorem arc_u (b s i : Nat) : va_up (fun j => if j < i then some (b + s * j) else none) i (some (b + s * i)) = (fun j => if j < i + 1 then some (b + s * j) else none) := by
  funext j
  unfold va_up
  by_cases h : j = i
  · rw [if_pos h, if_pos (by omega), h]
  · rw [if_neg h]
    show (if j < i then some (b + s * j) else none) = _
    by_cases h2 : j < i
    · rw [if_pos h2, if_pos (by omega)]
    · rw [if_neg h2, if_neg (by omega)]
theorem arc_e (t m b s : Nat) : arc t m b s m = st_ra t m b s := by
  unfold arc st_ra
  have e : (fun j => if j < m then some (b + s * j) else none) = (fun i => bif Nat.ble (i + 1) m then some (b + s * i) else none) := by
    funext j
    by_cases h : j < m
    · rw [if_pos h, Nat.ble_eq_true_of_le h]
      rfl
    · rw [if_neg h]
      cases hb : Nat.ble (j + 1) m with
      | true => exact absurd (Nat.le_of_ble_eq_true hb) (by omega)
      | false => rfl
  rw [e]
theorem arc_c {t m b s i n : Nat} (h : ∀ j, j < i → b + s * j < n) : pm_cE n (arc t m b s i) = true := by
  show ((List.range m).all fun j => match (if j < i then some (b + s * j) else none : Option Nat) with
    | some a => Nat.ble (a + 1) n
    | none => true) = true
  rw [List.all_eq_true]
  intro j _
  by_cases hj : j < i
  · rw [if_pos hj]
    exact Nat.ble_eq_true_of_le (h j hj)
  · rw [if_neg hj]
theorem od5_c {n : Nat} (hn : 11 ≤ n) : pm_cE n od5 = true := cE_mono hn (by decide +kernel)
set_option maxRecDepth 4000 in
theorem lp_Ca {X : pm_X} {d : Nat} : ∀ (t i : Nat), i + t = 65 → ∀ c k : Nat, Gx X (d + 2) (kc_Ca_init, []) (23, [some (.ref 12), some (.int (Int32.ofNat i))], [], hm (15 + 2 * i) (ov (ov G0 0 od5) 14 (arc 7 65 15 2 i)), c, k) (.inl none, hm 145 (ov G0 0 od5), c + 2 * t, k + 17 * t) := by
  intro t
  induction t with
  | zero =>
    intro i hi c k
    have hi : i = 65 := by omega
    subst hi
    refine (t_p (pc' := 26) (ls' := [some (.ref 12), some (.int (Int32.ofNat 65))]) (st' := [.int (64 : Int32), .int (Int32.ofNat 65)]) 2 rfl).mpr ?_
    refine (t_igt rfl).mpr ?_
    rw [if_pos (by decide)]
    refine (t_rV rfl).mpr ?_
    rw [arc_e]
    exact mk_fin (n := 145) (F := ov G0 0 od5) (a := 14) (by rfl)
  | succ t ih =>
    intro i hi c k
    have g1 : ∀ j, 14 < j → ov (ov G0 0 od5) 14 (arc 7 65 15 2 i) j = G0 j := fun j hj => by rw [ov_o _ _ (by omega), ov_o _ _ (by omega)]
    have a1 : ∀ n, 15 + 2 * i ≤ n → pm_cE n (arc 7 65 15 2 i) = true := fun n hn => arc_c (fun j hj => by omega)
    have r12 : ∀ n, 15 + 2 * i ≤ n → pm_cv n (.ref 12) = true := fun n hn => Nat.ble_eq_true_of_le (by omega)
    have r14 : ∀ n, 15 + 2 * i ≤ n → pm_cv n (.ref 14) = true := fun n hn => Nat.ble_eq_true_of_le (by omega)
    have c1 : hcl (15 + 2 * i) (ov (ov G0 0 od5) 14 (arc 7 65 15 2 i)) := cl_2 (by omega) (od5_c (by omega)) (a1 _ (by omega)) (fun j hj h0 h14 => ndn_le (by omega) (by omega) (by omega) (by omega) (by omega) (by omega) (by omega) (by omega) (by omega) (by omega) (by omega) (by omega))
    have hL0 : pm_cE (15 + 2 * i + 1) (.inr (6, pc_Dv 6)) = true := rfl
    have c2 : hcl (15 + 2 * i + 1) (ov (ov (ov G0 0 od5) 14 (arc 7 65 15 2 i)) (15 + 2 * i) (.inr (6, pc_Dv 6))) := cl_3 (by omega) (od5_c (by omega)) (a1 _ (by omega)) hL0 (fun j hj h0 h14 hL => ndn_le (by omega) (by omega) (by omega) (by omega) (by omega) (by omega) (by omega) (by omega) (by omega) (by omega) (by omega) (by omega))
    refine (t_p (pc' := 26) (ls' := [some (.ref 12), some (.int (Int32.ofNat i))]) (st' := [.int (64 : Int32), .int (Int32.ofNat i)]) 2 rfl).mpr ?_
    refine (t_igt rfl).mpr ?_
    rw [if_neg (by rw [i32_lt, oi_i (by omega)]; show ¬ ((64 : Int) < (i : Int)); omega)]
    refine (t_p (pc' := 30) (ls' := [some (.ref 12), some (.int (Int32.ofNat i))]) (st' := [.ref 12]) 1 rfl).mpr ?_
    refine (m_gf (ci := 5) (j := 2) (fs := [.ref 13, .int 0, .ref 14]) (x := .ref 14) rfl (by omega) (by rfl) rfl).mpr ?_
    refine (t_p (pc' := 34) (ls' := [some (.ref 12), some (.int (Int32.ofNat i))]) (st' := [.int (Int32.ofNat i), .ref 14]) 1 rfl).mpr ?_
    refine (m_no rfl (hcl_c c1 (by show (pm_cv _ (.ref 12) && true) = true; rw [r12 _ (by omega)]; rfl) (by show (true && (pm_cv _ (.ref 14) && true)) = true; rw [r14 _ (by omega)]; rfl))).mpr ?_
    refine (t_p (pc' := 38) (ls' := [some (.ref 12), some (.int (Int32.ofNat i))]) (st' := [.ref (15 + 2 * i), .ref (15 + 2 * i), .int (Int32.ofNat i), .ref 14]) 1 rfl).mpr ?_
    have rL : pm_cv (15 + 2 * i + 1) (.ref (15 + 2 * i)) = true := Nat.ble_eq_true_of_le (by omega)
    refine m_ci (fs := pc_Dv 6) rfl rfl ?_ (Nat.lt_succ_self _) (ov_s _ _ _) (mk_Le (Nat.lt_succ_self _) c2 ((g1 _ (by omega)).trans (G0_S (isS_i (by omega)))) ((g1 _ (by omega)).trans (G0_L (isL_i (by omega))))) ?_
    · show (false || pm_cl _ _ _) = true
      rw [Bool.false_or]
      refine hcl_c c2 ?_ ?_
      · show (pm_cv _ (.ref 12) && true) = true
        rw [r12 _ (by omega)]; rfl
      · show (pm_cv _ (.ref (15 + 2 * i)) && (true && (pm_cv _ (.ref 14) && true))) = true
        rw [r14 _ (by omega), rL]; rfl
    refine (m_as (a := 14) (t := 7) (m := 65) (g := fun j => if j < i then some (15 + 2 * j) else none) (fs := (pc_Dv 6).set 0 (.ref (15 + 2 * i + 1))) rfl (by omega) (by rfl) (Or.inr rfl) (by omega) ((g1 _ (by omega)).trans (G0_L (isL_i (by omega)))) (by omega) (by omega)).mpr ?_
    rw [ov_2, arc_u]
    refine (t_p (pc' := 23) (ls' := [some (.ref 12), some (.int (Int32.ofNat i + (1 : Int32)))]) (st' := []) 2 rfl).mpr ?_
    rw [oi_a]
    have := ih (i + 1) (by omega) (c + 1 + 1) (k + 8 + 9)
    rw [show c + 1 + 1 + 2 * t = c + 2 * (t + 1) by omega, show k + 8 + 9 + 17 * t = k + 17 * (t + 1) by omega, show 15 + 2 * (i + 1) = 15 + 2 * i + 1 + 1 by omega] at this
    exact this
theorem mk_Ca {X : pm_X} {d : Nat} : Ex X (d + 3) 5 [.ref 12] (hm 13 (ov (ov G0 0 od5) 12 (.inr (5, pc_Dv 5)))) (.inl none, hm 145 (ov G0 0 od5), 132, 1234) := by
  refine (Ex_iff (M := (kc_Ca_init, [])) (n := 2) rfl rfl).mpr ?_
  refine (t_p (pc' := 1) (ls' := [some (.ref 12), none]) (st' := [.ref 12]) 1 rfl).mpr ?_
  refine (m_ob rfl rfl).mpr ?_
  refine (t_p (pc' := 7) (ls' := [some (.ref 12), none]) (st' := [.int (64 : Int32), .ref 12]) 2 rfl).mpr ?_
  refine (m_ni (m := 64) rfl (Or.inl ⟨_, rfl⟩) (by decide +kernel) rfl (by omega) (by rfl)).mpr ?_
  refine (m_pv rfl (by omega) rfl rfl).mpr ?_
  refine (t_p (pc' := 15) (ls' := [some (.ref 12), none]) (st' := [.int (65 : Int32), .ref 12]) 2 rfl).mpr ?_
  refine (m_na (m := 65) rfl (Or.inr ⟨_, rfl⟩) (by decide +kernel) rfl (by omega)).mpr ?_
  rw [ov_c (ov G0 0 od5) (a := 12) (b := 14) _ _ (by omega)]
  refine (m_pv rfl (by omega) rfl rfl).mpr ?_
  rw [ov_id (f := ov (ov G0 0 od5) 14 (pm_arr 7 65)) (a := 12) (e := .inr (5, ((pc_Dv 5).set 0 (.ref 13)).set 2 (.ref 14))) (by rfl)]
  refine (t_p (pc' := 23) (ls' := [some (.ref 12), some (.int (Int32.ofNat 0))]) (st' := []) 2 rfl).mpr ?_
  exact lp_Ca 65 0 (by omega) 2 129
theorem lp_D {X : pm_X} {d : Nat} : ∀ (t i : Nat), i + t = 16 → ∀ c k : Nat, Gx X (d + 1) (kc_D_init, []) (92, [some (.ref 0), some (.int (Int32.ofNat i))], [], hm (150 + i) (ov G0 145 (arc 6 16 150 1 i)), c, k) (.inl none, hm 166 G0, c + t, k + 9 * t) := by
  intro t
  induction t with
  | zero =>
    intro i hi c k
    have hi : i = 16 := by omega
    subst hi
    refine (t_p (pc' := 95) (ls' := [some (.ref 0), some (.int (Int32.ofNat 16))]) (st' := [.int (16 : Int32), .int (Int32.ofNat 16)]) 2 rfl).mpr ?_
    refine (t_ige rfl).mpr ?_
    rw [if_neg (by decide)]
    refine (t_rV rfl).mpr ?_
    rw [arc_e]
    exact mk_fin (n := 166) (F := G0) (a := 145) (by rfl)
  | succ t ih =>
    intro i hi c k
    have g1 : ∀ j, j ≠ 145 → ov G0 145 (arc 6 16 150 1 i) j = G0 j := fun j hj => ov_o _ _ hj
    have c1 : hcl (150 + i) (ov G0 145 (arc 6 16 150 1 i)) := cl_1 (by omega) (arc_c (fun j hj => by omega)) (fun j hj h145 => ndn_b hj (by omega) (by omega) (by omega) (by omega) (by omega) (by omega) (by omega))
    refine (t_p (pc' := 95) (ls' := [some (.ref 0), some (.int (Int32.ofNat i))]) (st' := [.int (16 : Int32), .int (Int32.ofNat i)]) 2 rfl).mpr ?_
    refine (t_ige rfl).mpr ?_
    rw [if_pos (by rw [i32_lt, oi_i (by omega)]; show ((i : Int) < (16 : Int)); omega)]
    refine (t_p (pc' := 99) (ls' := [some (.ref 0), some (.int (Int32.ofNat i))]) (st' := [.ref 0]) 1 rfl).mpr ?_
    refine (m_gf (ci := 0) (j := 5) (fs := [.ref 1, .ref 8, .ref 9, .ref 10, .ref 12, .ref 145, .ref 146, .ref 148]) (x := .ref 145) rfl (by omega) (by rfl) rfl).mpr ?_
    refine (t_p (pc' := 103) (ls' := [some (.ref 0), some (.int (Int32.ofNat i))]) (st' := [.int (Int32.ofNat i), .ref 145]) 1 rfl).mpr ?_
    refine (m_no rfl (hcl_c c1 (by show (pm_cv _ (.ref 0) && true) = true; rw [show pm_cv (150 + i) (.ref 0) = true from Nat.ble_eq_true_of_le (by omega)]; rfl) (by show (true && (pm_cv _ (.ref 145) && true)) = true; rw [show pm_cv (150 + i) (.ref 145) = true from Nat.ble_eq_true_of_le (by omega)]; rfl))).mpr ?_
    rw [ov_id (f := ov G0 145 (arc 6 16 150 1 i)) (a := 150 + i) ((g1 _ (by omega)).trans (G0_S (isS_c (by omega))))]
    refine (t_p (pc' := 107) (ls' := [some (.ref 0), some (.int (Int32.ofNat i))]) (st' := [.ref (150 + i), .ref (150 + i), .int (Int32.ofNat i), .ref 145]) 1 rfl).mpr ?_
    refine m_ci (fs := pc_Dv 7) rfl rfl rfl (Nat.lt_succ_self _) ((g1 _ (by omega)).trans (G0_S (isS_c (by omega)))) mk_Sp ?_
    refine (m_as (a := 145) (t := 6) (m := 16) (g := fun j => if j < i then some (150 + 1 * j) else none) (fs := pc_Dv 7) rfl (by omega) (by rfl) (Or.inl rfl) (by omega) ((g1 _ (by omega)).trans (G0_S (isS_c (by omega)))) (by omega) (by omega)).mpr ?_
    have e1 : va_up (fun j => if j < i then some (150 + 1 * j) else none) i (some (150 + i)) = (fun j => if j < i + 1 then some (150 + 1 * j) else none) := by
      have := arc_u 150 1 i
      rw [Nat.one_mul] at this
      exact this
    rw [ov_2, e1]
    refine (t_p (pc' := 92) (ls' := [some (.ref 0), some (.int (Int32.ofNat i + (1 : Int32)))]) (st' := []) 2 rfl).mpr ?_
    rw [oi_a]
    have := ih (i + 1) (by omega) (c + 1) (k + 9)
    rw [show c + 1 + t = c + (t + 1) by omega, show k + 9 + 9 * t = k + 9 * (t + 1) by omega] at this
    exact this
