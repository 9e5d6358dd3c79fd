/-! the constructors -/
theorem ndn_b {i n : Nat} (hi : i < n) (hn : 145 ≤ n) (hn2 : n ≤ 189) (h0 : i = 0 → 149 ≤ n) (h145 : i = 145 → 166 ≤ n) (h146 : i = 146 → 148 ≤ n) (h148 : i = 148 → 150 ≤ n) (h166 : i = 166 → 187 ≤ n) : pm_cE n (G0 i) = true := ndn_le (by omega) h0 (by omega) (by omega) (by omega) (by omega) (by omega) h145 h146 h148 h166 (by omega)
section MC
variable {X : pm_X} {d : Nat} {M : pm_M} {pc : Nat} {ls : pm_V} {st : List Value} {c k : Nat} {r : pm_R} {n : Nat} {F : Nat → va_E} {v : Value}
theorem m_pv {w a ci j t : Nat} {fs : List Value} {x : Value} (hl : pm_look M.1 pc = some (.putfield w, 3, ([ci, j, t], v))) (ha : a < n) (ht : pm_fit t x = true) (hj : Nat.ble (j + 1) fs.length = true) : Gx X d M (pc, ls, x :: .ref a :: st, hm n (ov F a (.inr (ci, fs))), c, k) r ↔ Gx X d M (pc + 3, ls, st, hm n (ov F a (.inr (ci, fs.set j x))), c, k) r := by
  have := m_pf (X := X) (d := d) (ls := ls) (st := st) (c := c) (k := k) (r := r) (f := ov F a (.inr (ci, fs))) (fs := fs) hl ha (ov_s _ _ _) ht hj
  rw [ov_2] at this
  exact this
/-- an array that is as it will stay -/
theorem m_ni {i : Instr} {len t : Nat} {x : Int32} {m : Nat} (hl : pm_look M.1 pc = some (i, len, ([t], v))) (hi : (∃ y, i = .newarray y) ∨ ∃ y, i = .anewarray y) (hc : pm_cl (hm n F) ls st = true) (hx : x = Int32.ofNat m) (hm2 : m ≤ 100000) (hG : F n = pm_arr t m) : Gx X d M (pc, ls, .int x :: st, hm n F, c, k) r ↔ Gx X d M (pc + len, ls, .ref n :: st, hm (n + 1) F, c + 1, k + m) r := by
  have := m_na (X := X) (d := d) (c := c) (k := k) (r := r) hl hi hc hx hm2
  rw [ov_id hG] at this
  exact this
theorem mk_fin {a : Nat} {e : va_E} (h : F a = e) : ((.inl none, hm n F, c, k) : pm_R) = (.inl none, hm n (ov F a e), c, k) := by rw [ov_id h]
end MC
theorem mk_Sp {X : pm_X} {d a : Nat} {h : pm_H} : Ex X (d + 1) 7 [.ref a] h (.inl none, h, 0, 0) := by
  refine (Ex_iff (M := (kc_Sp_init, [])) (n := 1) rfl rfl).mpr ?_
  refine (t_p (pc' := 1) (ls' := [some (.ref a)]) (st' := [.ref a]) 1 rfl).mpr ?_
  refine (m_ob rfl rfl).mpr ?_
  exact (t_rV rfl).mpr rfl
theorem mk_Bu {X : pm_X} {d a : Nat} {h : pm_H} : Ex X (d + 1) 3 [.ref a] h (.inl none, h, 0, 0) := by
  refine (Ex_iff (M := (kc_Bu_init, [])) (n := 1) rfl rfl).mpr ?_
  refine (t_p (pc' := 1) (ls' := [some (.ref a)]) (st' := [.ref a]) 1 rfl).mpr ?_
  refine (m_ob rfl rfl).mpr ?_
  exact (t_rV rfl).mpr rfl
/-- the object SegmentDesk, so far -/
def od (l : List Value) : va_E := .inr (0, l)
def od1 : va_E := od [.null, .null, .null, .null, .null, .null, .null, .null]
def od2 : va_E := od [.ref 1, .null, .null, .null, .null, .null, .null, .null]
def od3 : va_E := od [.ref 1, .ref 8, .null, .null, .null, .null, .null, .null]
def od4 : va_E := od [.ref 1, .ref 8, .ref 9, .null, .null, .null, .null, .null]
def od5 : va_E := od [.ref 1, .ref 8, .ref 9, .ref 10, .null, .null, .null, .null]
def od6 : va_E := od [.ref 1, .ref 8, .ref 9, .ref 10, .ref 12, .null, .null, .null]
def od7 : va_E := od [.ref 1, .ref 8, .ref 9, .ref 10, .ref 12, .ref 145, .null, .null]
def od8 : va_E := od [.ref 1, .ref 8, .ref 9, .ref 10, .ref 12, .ref 145, .ref 146, .null]
theorem mm_e : hm 2 (ov (ov G0 0 od1) 1 (.inr (1, pc_Dv 1))) ++ (.inl (5, 4, .inr (.inr (.inr (.inr (fun i => bif Nat.ble (i + 1) 4 then some (2 + 1 + i) else none))))) :: List.replicate 4 (pm_arr 1 64)) = hm 7 (ov (ov G0 0 od1) 1 (.inr (1, pc_Dv 1))) := by
  have e : (fun i => bif Nat.ble (i + 1) 4 then some (2 + 1 + i) else none) = (fun i => bif Nat.ble (i + 1) 4 then some (3 + 1 * i) else none) := by
    funext i
    rw [Nat.one_mul]
  rw [e]
  rfl
theorem mk_Me {X : pm_X} {d : Nat} : Ex X (d + 1) 1 [.ref 1] (hm 2 (ov (ov G0 0 od1) 1 (.inr (1, pc_Dv 1)))) (.inl none, hm 8 (ov G0 0 od1), 6, 264) := by
  refine (Ex_iff (M := (kc_Me_init, [])) (n := 1) rfl rfl).mpr ?_
  refine (t_p (pc' := 1) (ls' := [some (.ref 1)]) (st' := [.ref 1]) 1 rfl).mpr ?_
  refine (m_ob rfl rfl).mpr ?_
  refine (t_p (pc' := 8) (ls' := [some (.ref 1)]) (st' := [.int (64 : Int32), .int (4 : Int32), .ref 1]) 3 rfl).mpr ?_
  refine (t_step (s' := (12, [some (.ref 1)], [.ref 2, .ref 1], hm 7 (ov (ov G0 0 od1) 1 (.inr (1, pc_Dv 1))), 5, 260)) rfl (Or.inr rfl) ?_).mpr ?_
  · rw [← mm_e]
    rfl
  refine (m_pv rfl (by omega) rfl rfl).mpr ?_
  refine (t_p (pc' := 17) (ls' := [some (.ref 1)]) (st' := [.int (4 : Int32), .ref 1]) 2 rfl).mpr ?_
  refine (m_ni (m := 4) rfl (Or.inl ⟨_, rfl⟩) (by decide +kernel) rfl (by omega) (by rfl)).mpr ?_
  refine (m_pv rfl (by omega) rfl rfl).mpr ?_
  refine (t_p (pc' := 24) (ls' := [some (.ref 1)]) (st' := [.int (1 : Int32), .ref 1]) 2 rfl).mpr ?_
  refine (m_pv rfl (by omega) rfl rfl).mpr ?_
  exact (t_rV rfl).mpr (mk_fin rfl)
theorem mk_Re {X : pm_X} {d : Nat} : Ex X (d + 1) 2 [.ref 8] (hm 9 (ov (ov G0 0 od2) 8 (.inr (2, pc_Dv 2)))) (.inl none, hm 9 (ov G0 0 od2), 0, 0) := by
  refine (Ex_iff (M := (kc_Re_init, [])) (n := 1) rfl rfl).mpr ?_
  refine (t_p (pc' := 1) (ls' := [some (.ref 8)]) (st' := [.ref 8]) 1 rfl).mpr ?_
  refine (m_ob rfl rfl).mpr ?_
  refine (t_p (pc' := 8) (ls' := [some (.ref 8)]) (st' := [.int (1000 : Int32), .ref 8]) 2 rfl).mpr ?_
  refine (m_pv rfl (by omega) rfl rfl).mpr ?_
  exact (t_rV rfl).mpr (mk_fin rfl)
theorem mk_Fr {X : pm_X} {d : Nat} : Ex X (d + 1) 4 [.ref 10] (hm 11 (ov (ov G0 0 od4) 10 (.inr (4, pc_Dv 4)))) (.inl none, hm 12 (ov G0 0 od4), 1, 259) := by
  refine (Ex_iff (M := (kc_Fr_init, [])) (n := 1) rfl rfl).mpr ?_
  refine (t_p (pc' := 1) (ls' := [some (.ref 10)]) (st' := [.ref 10]) 1 rfl).mpr ?_
  refine (m_ob rfl rfl).mpr ?_
  refine (t_p (pc' := 8) (ls' := [some (.ref 10)]) (st' := [.int (259 : Int32), .ref 10]) 2 rfl).mpr ?_
  refine (m_ni (m := 259) rfl (Or.inl ⟨_, rfl⟩) (by decide +kernel) rfl (by omega) (by rfl)).mpr ?_
  refine (m_pv rfl (by omega) rfl rfl).mpr ?_
  exact (t_rV rfl).mpr (mk_fin rfl)
theorem mk_Oc {X : pm_X} {d : Nat} {a : Nat} {F : Nat → va_E} (hc : pm_cl (hm (a + 1) (ov F a (.inr (8, pc_Dv 8)))) [some (.ref a)] [.ref a] = true) (h1 : F (a + 1) = pm_arr 2 1500) (h2 : F a = .inr (8, [.ref (a + 1), .int 0])) : Ex X (d + 1) 8 [.ref a] (hm (a + 1) (ov F a (.inr (8, pc_Dv 8)))) (.inl none, hm (a + 2) F, 1, 1500) := by
  refine (Ex_iff (M := (kc_Oc_init, [])) (n := 1) rfl rfl).mpr ?_
  refine (t_p (pc' := 1) (ls' := [some (.ref a)]) (st' := [.ref a]) 1 rfl).mpr ?_
  refine (m_ob rfl rfl).mpr ?_
  refine (t_p (pc' := 8) (ls' := [some (.ref a)]) (st' := [.int (1500 : Int32), .ref a]) 2 rfl).mpr ?_
  refine (m_ni (m := 1500) rfl (Or.inl ⟨_, rfl⟩) hc rfl (by omega) (by rw [ov_o _ _ (by omega)]; exact h1)).mpr ?_
  refine (m_pv rfl (by omega) rfl rfl).mpr ?_
  exact (t_rV rfl).mpr (mk_fin h2)
theorem mk_Le {X : pm_X} {d n a : Nat} {F : Nat → va_E} (ha : a < n) (hc : hcl n (ov F a (.inr (6, pc_Dv 6)))) (h1 : F n = .inr (7, pc_Dv 7)) (h2 : F a = .inr (6, (pc_Dv 6).set 0 (.ref n))) : Ex X (d + 2) 6 [.ref a] (hm n (ov F a (.inr (6, pc_Dv 6)))) (.inl none, hm (n + 1) F, 1, 9) := by
  have hr : pm_cv n (.ref a) = true := Nat.ble_eq_true_of_le ha
  refine (Ex_iff (M := (kc_Le_init, [])) (n := 1) rfl rfl).mpr ?_
  refine (t_p (pc' := 1) (ls' := [some (.ref a)]) (st' := [.ref a]) 1 rfl).mpr ?_
  refine (m_ob rfl rfl).mpr ?_
  refine (t_p (pc' := 5) (ls' := [some (.ref a)]) (st' := [.ref a]) 1 rfl).mpr ?_
  refine (m_no rfl (hcl_c hc (by show (pm_cv n (.ref a) && true) = true; rw [hr]; rfl) (by show (pm_cv n (.ref a) && true) = true; rw [hr]; rfl))).mpr ?_
  rw [ov_id (a := n) (f := ov F a (.inr (6, pc_Dv 6))) (by rw [ov_o _ _ (by omega)]; exact h1)]
  refine (t_p (pc' := 9) (ls' := [some (.ref a)]) (st' := [.ref n, .ref n, .ref a]) 1 rfl).mpr ?_
  refine m_ci (fs := pc_Dv 7) rfl rfl rfl (Nat.lt_succ_self n) (by rw [ov_o _ _ (by omega)]; exact h1) mk_Sp ?_
  refine (m_pv rfl (by omega) rfl rfl).mpr ?_
  exact (t_rV rfl).mpr (mk_fin h2)
