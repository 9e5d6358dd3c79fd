/-! what the two objects hold when they are new -/
def I0 : st_I := fun a => if a = 0 then fun k => (if k = 7 then 1 else 0) else if a = 1 then fun k => (if k = 2 then 1 else 0) else if a = 8 then fun k => (if k = 0 then 1000 else 0) else if a = 166 then fun k => (if k = 6 then 1 else if k = 8 then 1000 else 0) else fun _ => 0
def J0 : st_J := fun _ _ => 0
def G0 (i : Nat) : va_E := st_sh i (I0 i) (J0 i)
theorem I0_z {a : Nat} (h0 : a ≠ 0) (h1 : a ≠ 1) (h8 : a ≠ 8) (h166 : a ≠ 166) : I0 a = fun _ => 0 := by
  unfold I0
  rw [if_neg h0, if_neg h1, if_neg h8, if_neg h166]
theorem G0_S {a : Nat} (h : st_isS a = true) : G0 a = .inr (7, pc_Dv 7) := by
  have h2 : a ≠ 0 ∧ a ≠ 1 ∧ a ≠ 8 ∧ a ≠ 166 := by
    unfold st_isS at h
    simp only [Bool.or_eq_true, Bool.and_eq_true, Nat.ble_eq] at h
    omega
  unfold G0
  rw [st_sh_S h, I0_z h2.1 h2.2.1 h2.2.2.1 h2.2.2.2]
  rfl
theorem G0_L {a : Nat} (h : st_isL a = true) : G0 a = .inr (6, (pc_Dv 6).set 0 (.ref (a + 1))) := by
  have h2 : a ≠ 0 ∧ a ≠ 1 ∧ a ≠ 8 ∧ a ≠ 166 := by
    unfold st_isL at h
    simp only [Bool.and_eq_true, Nat.ble_eq] at h
    omega
  unfold G0
  rw [st_sh_L h, I0_z h2.1 h2.2.1 h2.2.2.1 h2.2.2.2]
  rfl
theorem isL_i {i : Nat} (h : i ≤ 64) : st_isL (15 + 2 * i) = true := by
  unfold st_isL
  simp only [Bool.and_eq_true, Nat.ble_eq, st_beq]
  omega
theorem isS_i {i : Nat} (h : i ≤ 64) : st_isS (15 + 2 * i + 1) = true := (st_isL_n (isL_i h)).2.2
theorem isS_c {i : Nat} (h : i < 16) : st_isS (150 + i) = true := by
  unfold st_isS
  simp only [Bool.or_eq_true, Bool.and_eq_true, Nat.ble_eq]
  omega
/-- how long a heap must be for a cell to be closed -/
def ndn (i : Nat) : Nat := if i = 0 then 149 else if i = 1 then 8 else if i = 2 then 7 else if i = 10 then 12 else if i = 12 then 15 else if i = 14 then 144 else if i = 145 then 166 else if i = 146 then 148 else if i = 148 then 150 else if i = 166 then 187 else if 15 ≤ i ∧ i ≤ 143 ∧ i % 2 = 1 then i + 2 else 0
theorem cl_all : ((List.range 189).all fun i => pm_cE (ndn i) (G0 i)) = true := by decide +kernel
theorem cl_G {i n : Nat} (hi : i < 189) (h : ndn i ≤ n) : pm_cE n (G0 i) = true := cE_mono h (List.all_eq_true.mp cl_all i (List.mem_range.mpr hi))
theorem ndn_le {i n : Nat} (h : i < 189) (h0 : i = 0 → 149 ≤ n) (h1 : i = 1 → 8 ≤ n) (h2 : i = 2 → 7 ≤ n) (h10 : i = 10 → 12 ≤ n) (h12 : i = 12 → 15 ≤ n) (h14 : i = 14 → 144 ≤ n) (h145 : i = 145 → 166 ≤ n) (h146 : i = 146 → 148 ≤ n) (h148 : i = 148 → 150 ≤ n) (h166 : i = 166 → 187 ≤ n) (hL : 15 ≤ i → i ≤ 143 → i % 2 = 1 → i + 2 ≤ n) : pm_cE n (G0 i) = true := by
  refine cl_G h ?_
  unfold ndn
  split
  · exact h0 (by assumption)
  split
  · exact h1 (by assumption)
  split
  · exact h2 (by assumption)
  split
  · exact h10 (by assumption)
  split
  · exact h12 (by assumption)
  split
  · exact h14 (by assumption)
  split
  · exact h145 (by assumption)
  split
  · exact h146 (by assumption)
  split
  · exact h148 (by assumption)
  split
  · exact h166 (by assumption)
  split
  · rename_i z
    exact hL z.1 z.2.1 z.2.2
  · exact Nat.zero_le _
/-- one cell of its own, or two -/
theorem cl_1 {n a : Nat} {e : va_E} (hn : n ≤ 189) (he : pm_cE n e = true) (hr : ∀ i, i < n → i ≠ a → pm_cE n (G0 i) = true) : hcl n (ov G0 a e) := by
  intro i hi
  by_cases h : i = a
  · rw [h, ov_s]; exact he
  · rw [ov_o _ _ h]; exact hr i hi h
theorem cl_2 {n a b : Nat} {e e' : va_E} (hn : n ≤ 189) (he : pm_cE n e = true) (he' : pm_cE n e' = true) (hr : ∀ i, i < n → i ≠ a → i ≠ b → pm_cE n (G0 i) = true) : hcl n (ov (ov G0 a e) b e') := by
  intro i hi
  by_cases h : i = b
  · rw [h, ov_s]; exact he'
  · rw [ov_o _ _ h]
    by_cases h2 : i = a
    · rw [h2, ov_s]; exact he
    · rw [ov_o _ _ h2]; exact hr i hi h2 h
theorem cl_3 {n a b g : Nat} {e e' e'' : va_E} (hn : n ≤ 189) (he : pm_cE n e = true) (he' : pm_cE n e' = true) (he'' : pm_cE n e'' = true) (hr : ∀ i, i < n → i ≠ a → i ≠ b → i ≠ g → pm_cE n (G0 i) = true) : hcl n (ov (ov (ov G0 a e) b e') g e'') := by
  intro i hi
  by_cases h : i = g
  · rw [h, ov_s]; exact he''
  · rw [ov_o _ _ h]
    by_cases h2 : i = b
    · rw [h2, ov_s]; exact he'
    · rw [ov_o _ _ h2]
      by_cases h3 : i = a
      · rw [h3, ov_s]; exact he
      · rw [ov_o _ _ h3]; exact hr i hi h3 h2 h
theorem cl_d {n : Nat} {f : Nat → va_E} (h : ((List.range n).all fun i => pm_cE n (f i)) = true) : hcl n f := fun i hi => List.all_eq_true.mp h i (List.mem_range.mpr hi)
