/-! WHAT IS MADE: heaps by a length and a function; rows for what makes cells -/
def hm (n : Nat) (f : Nat → va_E) : pm_H := (List.range n).map f
def ov (f : Nat → va_E) (a : Nat) (e : va_E) : Nat → va_E := fun i => if i = a then e else f i
theorem ov_s (f : Nat → va_E) (a : Nat) (e : va_E) : ov f a e a = e := if_pos rfl
theorem ov_o (f : Nat → va_E) {a i : Nat} (e : va_E) (h : i ≠ a) : ov f a e i = f i := if_neg h
theorem ov_id {f : Nat → va_E} {a : Nat} {e : va_E} (h : f a = e) : ov f a e = f := by
  funext i
  unfold ov
  by_cases hi : i = a
  · rw [if_pos hi, hi, h]
  · rw [if_neg hi]
theorem ov_2 (f : Nat → va_E) (a : Nat) (e e' : va_E) : ov (ov f a e) a e' = ov f a e' := by
  funext i
  unfold ov
  by_cases hi : i = a
  · rw [if_pos hi, if_pos hi]
  · rw [if_neg hi, if_neg hi, if_neg hi]
theorem ov_c (f : Nat → va_E) {a b : Nat} (e e' : va_E) (h : a ≠ b) : ov (ov f a e) b e' = ov (ov f b e') a e := by
  funext i
  unfold ov
  by_cases hi : i = a
  · rw [if_pos hi, if_pos hi, if_neg (by omega)]
  · rw [if_neg hi, if_neg hi]
theorem hm_len (n : Nat) (f : Nat → va_E) : (hm n f).length = n := by unfold hm; rw [List.length_map, List.length_range]
theorem hm_get {n a : Nat} (f : Nat → va_E) (h : a < n) : (hm n f)[a]? = some (f a) := by
  unfold hm
  rw [List.getElem?_map, List.getElem?_range h]
  rfl
theorem hm_set {n a : Nat} (f : Nat → va_E) (e : va_E) : (hm n f).set a e = hm n (ov f a e) := by
  apply List.ext_getElem?
  intro i
  rw [List.getElem?_set]
  by_cases hi : i < n
  · rw [hm_get f hi, hm_get _ hi, hm_len]
    by_cases e1 : a = i
    · subst e1
      rw [if_pos rfl, if_pos hi, ov_s]
    · rw [if_neg e1, ov_o f e (fun z => e1 z.symm)]
  · have h1 : (hm n f)[i]? = none := List.getElem?_eq_none (by rw [hm_len]; omega)
    have h2 : (hm n (ov f a e))[i]? = none := List.getElem?_eq_none (by rw [hm_len]; omega)
    rw [h1, h2, hm_len]
    by_cases e1 : a = i
    · rw [if_pos e1, if_neg (by omega)]
    · rw [if_neg e1]
theorem hm_app (n : Nat) (f : Nat → va_E) (e : va_E) : hm n f ++ [e] = hm (n + 1) (ov f n e) := by
  unfold hm
  rw [List.range_succ, List.map_append, List.map_singleton, ov_s]
  congr 1
  apply List.map_congr_left
  intro i hi
  rw [ov_o f e (by have := List.mem_range.mp hi; omega)]
theorem hm_cg {n : Nat} {f g : Nat → va_E} (h : ∀ i, i < n → f i = g i) : hm n f = hm n g := by
  unfold hm
  apply List.map_congr_left
  intro i hi
  exact h i (List.mem_range.mp hi)
/-! closed heaps -/
theorem cE_mono {e : va_E} {m n : Nat} (hmn : m ≤ n) (h : pm_cE m e = true) : pm_cE n e = true := by
  have hv : ∀ v : Value, pm_cv m v = true → pm_cv n v = true := by
    intro v hv
    cases v <;> try rfl
    rename_i a
    have : Nat.ble (a + 1) m = true := hv
    exact Nat.ble_eq_true_of_le (Nat.le_trans (Nat.le_of_ble_eq_true this) hmn)
  rcases e with ⟨t, k, x⟩ | ⟨ci, fs⟩
  · rcases x with x | x | x | x | f
    · rfl
    · rfl
    · rfl
    · rfl
    · have h : ((List.range k).all fun i => match f i with
        | some a => Nat.ble (a + 1) m
        | none => true) = true := h
      show ((List.range k).all fun i => match f i with
        | some a => Nat.ble (a + 1) n
        | none => true) = true
      rw [List.all_eq_true] at h ⊢
      intro i hi
      have := h i hi
      cases hf : f i with
      | none => rfl
      | some a =>
        rw [hf] at this
        exact Nat.ble_eq_true_of_le (Nat.le_trans (Nat.le_of_ble_eq_true this) hmn)
  · have h : fs.all (pm_cv m) = true := h
    show fs.all (pm_cv n) = true
    rw [List.all_eq_true] at h ⊢
    exact fun v hv' => hv v (h v hv')
def hcl (n : Nat) (f : Nat → va_E) : Prop := ∀ i, i < n → pm_cE n (f i) = true
theorem hcl_c {n : Nat} {f : Nat → va_E} {ls : pm_V} {st : List Value} (h : hcl n f) (h1 : (ls.all fun o => match o with
    | some v => pm_cv n v
    | none => true) = true) (h2 : st.all (pm_cv n) = true) : pm_cl (hm n f) ls st = true := by
  unfold pm_cl
  rw [hm_len, Bool.and_eq_true, Bool.and_eq_true]
  refine ⟨?_, h1, h2⟩
  unfold hm
  rw [List.all_map, List.all_eq_true]
  exact fun i hi => h i (List.mem_range.mp hi)
/-! rows -/
section MK
variable {X : pm_X} {d : Nat} {M : pm_M} {pc : Nat} {ls : pm_V} {st : List Value} {h : pm_H} {c k : Nat} {r : pm_R} {L : pm_L} {n : Nat} {f : Nat → va_E} {v : Value}
theorem m_ob {w a : Nat} (hl : pm_look M.1 pc = some (.invokespecial w, 3, ([0], v))) (hw : Nat.ble (pm_wt st) 8 = true) : Gx X d M (pc, ls, .ref a :: st, h, c, k) r ↔ Gx X d M (pc + 3, ls, st, h, c, k) r := by
  refine t_step hl (Or.inr rfl) ?_
  show (bif Nat.ble (pm_wt st) 8 then some ((pc + 3, ls, st, h, c, k) : pm_S) else none) = _
  rw [hw]
  rfl
theorem m_no {w ci : Nat} (hl : pm_look M.1 pc = some (.new w, 3, ([ci], v))) (hc : pm_cl (hm n f) ls st = true) : Gx X d M (pc, ls, st, hm n f, c, k) r ↔ Gx X d M (pc + 3, ls, .ref n :: st, hm (n + 1) (ov f n (.inr (ci, pc_Dv ci))), c + 1, k + (pc_Dv ci).length) r := by
  refine t_step hl (Or.inr rfl) ?_
  show (bif pm_cl (hm n f) ls st then some ((pc + 3, ls, .ref (hm n f).length :: st, hm n f ++ [.inr (ci, pc_Dv ci)], c + 1, k + (pc_Dv ci).length) : pm_S) else none) = _
  rw [hc, hm_len, hm_app]
  rfl
theorem m_na {i : Instr} {len t : Nat} {x : Int32} {m : Nat} (hl : pm_look M.1 pc = some (i, len, ([t], v))) (hi : (∃ y, i = .newarray y) ∨ ∃ y, i = .anewarray y) (hc : pm_cl (hm n f) ls st = true) (hx : x = Int32.ofNat m) (hm2 : m ≤ 100000) : Gx X d M (pc, ls, .int x :: st, hm n f, c, k) r ↔ Gx X d M (pc + len, ls, .ref n :: st, hm (n + 1) (ov f n (pm_arr t m)), c + 1, k + m) r := by
  have key : pm_newa pc len ls (hm n f) c k [t] (.int x :: st) = some (pc + len, ls, .ref n :: st, hm (n + 1) (ov f n (pm_arr t m)), c + 1, k + m) := by
    show (bif pm_cl (hm n f) ls st && (!(decide (x < 0)) && Nat.ble x.toNatClampNeg 100000) then some ((pc + len, ls, .ref (hm n f).length :: st, hm n f ++ [pm_arr t x.toNatClampNeg], c + 1, k + x.toNatClampNeg) : pm_S) else none) = _
    rw [hc, hx, oi_n (by omega), decide_eq_false (oi_ng (by omega)), Nat.ble_eq_true_of_le hm2, hm_len, hm_app]
    rfl
  rcases hi with ⟨y, rfl⟩ | ⟨y, rfl⟩
  · exact t_step hl (Or.inr rfl) key
  · exact t_step hl (Or.inr rfl) key
theorem m_pf {w a ci j t : Nat} {fs : List Value} {x : Value} (hl : pm_look M.1 pc = some (.putfield w, 3, ([ci, j, t], v))) (ha : a < n) (hf : f a = .inr (ci, fs)) (ht : pm_fit t x = true) (hj : Nat.ble (j + 1) fs.length = true) : Gx X d M (pc, ls, x :: .ref a :: st, hm n f, c, k) r ↔ Gx X d M (pc + 3, ls, st, hm n (ov f a (.inr (ci, fs.set j x))), c, k) r := by
  refine t_step hl (Or.inr rfl) ?_
  show pm_hp pc 3 ls st c k (pm_put (hm n f) a ci j t x) = _
  unfold pm_put
  rw [hm_get f ha, hf]
  show pm_hp pc 3 ls st c k (bif Nat.beq ci ci && (pm_fit t x && Nat.ble (j + 1) fs.length) then some ((hm n f).set a (.inr (ci, fs.set j x))) else none) = _
  rw [show Nat.beq ci ci = true from Nat.beq_refl ci, ht, hj, hm_set]
  rfl
theorem m_gf {w a ci j : Nat} {fs : List Value} {x : Value} (hl : pm_look M.1 pc = some (.getfield w, 3, ([ci, j], v))) (ha : a < n) (hf : f a = .inr (ci, fs)) (hx : fs[j]? = some x) : Gx X d M (pc, ls, .ref a :: st, hm n f, c, k) r ↔ Gx X d M (pc + 3, ls, x :: st, hm n f, c, k) r := by
  refine t_step hl (Or.inr rfl) ?_
  show pm_on pc 3 ls (hm n f) c k ((pm_fld (hm n f) a ci j).map (· :: st)) = _
  unfold pm_fld
  rw [hm_get f ha, hf]
  show pm_on pc 3 ls (hm n f) c k ((bif Nat.beq ci ci then fs[j]? else none).map (· :: st)) = _
  rw [show Nat.beq ci ci = true from Nat.beq_refl ci, hx]
  rfl
theorem m_isO {a ci : Nat} {fs : List Value} (ha : a < n) (hf : f a = .inr (ci, fs)) : pm_isO (hm n f) a ci = true := by
  unfold pm_isO
  rw [hm_get f ha, hf]
  exact Nat.beq_refl ci
theorem m_as {a y m t : Nat} {g : Nat → Option Nat} {fs : List Value} {i : Nat} (hl : pm_look M.1 pc = some (.aastore, 1, L)) (ha : a < n) (hf : f a = .inl (t, m, .inr (.inr (.inr (.inr g))))) (ht : t = 6 ∨ t = 7) (hy : y < n) (hfy : f y = .inr (pm_cmp t, fs)) (hi : i < m) (hm2 : m ≤ 1000) : Gx X d M (pc, ls, .ref y :: .int (Int32.ofNat i) :: .ref a :: st, hm n f, c, k) r ↔ Gx X d M (pc + 1, ls, st, hm n (ov f a (.inl (t, m, .inr (.inr (.inr (.inr (va_up g i (some y)))))))), c, k) r := by
  refine t_step hl (Or.inr rfl) ?_
  show pm_hp pc 1 ls st c k (pm_ast (hm n f) a 5 (Int32.ofNat i) (.ref y)) = _
  unfold pm_ast
  rw [hm_get f ha, hf]
  show pm_hp pc 1 ls st c k (bif pm_in (Int32.ofNat i) m then (bif (Nat.beq t 6 || Nat.beq t 7) && pm_isO (hm n f) y (pm_cmp t) then some ((hm n f).set a (.inl (t, m, .inr (.inr (.inr (.inr (va_up g (Int32.ofNat i).toNatClampNeg (some y)))))))) else none) else none) = _
  rw [oi_in hi (by omega), m_isO hy hfy, oi_n (by omega), hm_set]
  rcases ht with rfl | rfl <;> rfl
/-- a constructor's call -/
theorem m_ci {w m b kd ci c1 k1 : Nat} {fs : List Value} {h' : pm_H} (hl : pm_look M.1 pc = some (.invokespecial w, 3, ([m, 1, kd, ci + 1], v))) (hw : Nat.ble (pm_wt st) 8 = true) (hc : (Nat.beq kd 0 || pm_cl (hm n f) ls st) = true) (hb : b < n) (hf : f b = .inr (ci, fs)) (he : Ex X d m [.ref b] (hm n f) (.inl none, h', c1, k1)) (hg : Gx X d M (pc + 3, ls, st, h', c + c1, k + k1) r) : Gx X d M (pc, ls, .ref b :: st, hm n f, c, k) r := by
  refine (t_ca (st' := st) (a := [.ref b]) (m := m) hl rfl ?_).mpr ⟨_, he, hg⟩
  show (bif Nat.ble (pm_wt st) 8 && ((Nat.beq kd 0 || pm_cl (hm n f) ls st) && pm_isO (hm n f) b ci) then some (m, [Value.ref b], st) else none) = _
  rw [hw, hc, m_isO hb hf]
  rfl
end MK
