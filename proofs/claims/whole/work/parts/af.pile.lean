/-! the reference's pile, and what it writes aside -/
abbrev IT : Type := Nat × Nat × Nat × Nat
def PS (I : st_I) (B : List IT) : Prop := I 166 26 = Int32.ofNat B.length ∧ ∀ i, i < B.length → I 183 i = Int32.ofNat (B.getD i (0, 0, 0, 0)).1 ∧ I 184 i = Int32.ofNat (B.getD i (0, 0, 0, 0)).2.1 ∧ I 185 i = Int32.ofNat (B.getD i (0, 0, 0, 0)).2.2.1 ∧ I 186 i = Int32.ofNat (B.getD i (0, 0, 0, 0)).2.2.2
def psh (I : st_I) (a b c e : Int32) : st_I := st_w (st_w (st_w (st_w (st_w I 183 (I 166 26).toNatClampNeg a) 184 (I 166 26).toNatClampNeg b) 185 (I 166 26).toNatClampNeg c) 186 (I 166 26).toNatClampNeg e) 166 26 (I 166 26 + 1)
theorem gd_it (A : List IT) (x : IT) (j : Nat) : (A ++ [x]).getD j (0, 0, 0, 0) = if j < A.length then A.getD j (0, 0, 0, 0) else ([x] : List IT).getD (j - A.length) (0, 0, 0, 0) := by
  rw [List.getD_eq_getElem?_getD, List.getElem?_append]
  split <;> rw [List.getD_eq_getElem?_getD]
theorem PS_s {I : st_I} {B : List IT} {a b c e : Nat} (h : PS I B) (hl : B.length < 2 ^ 20) : PS (psh I (Int32.ofNat a) (Int32.ofNat b) (Int32.ofNat c) (Int32.ofNat e)) (B ++ [(a, b, c, e)]) := by
  have eN : (I 166 26).toNatClampNeg = B.length := by rw [h.1, oi_n (by omega)]
  have hl1 : (B ++ [(a, b, c, e)]).length = B.length + 1 := by rw [List.length_append]; rfl
  unfold psh
  rw [eN, h.1, oi_a]
  refine ⟨by rw [st_w_at, hl1], fun i hi => ?_⟩
  rw [hl1] at hi
  rw [gd_it]
  by_cases q : i = B.length
  · subst q
    rw [if_neg (Nat.lt_irrefl _), Nat.sub_self]
    refine ⟨?_, ?_, ?_, ?_⟩
    · rw [st_w_e, if_neg (by omega), st_w_e, if_neg (by omega), st_w_e, if_neg (by omega), st_w_e, if_neg (by omega), st_w_e, if_pos (by omega)]; rfl
    · rw [st_w_e, if_neg (by omega), st_w_e, if_neg (by omega), st_w_e, if_neg (by omega), st_w_e, if_pos (by omega)]; rfl
    · rw [st_w_e, if_neg (by omega), st_w_e, if_neg (by omega), st_w_e, if_pos (by omega)]; rfl
    · rw [st_w_e, if_neg (by omega), st_w_e, if_pos (by omega)]; rfl
  · rw [if_pos (by omega)]
    obtain ⟨h1, h2, h3, h4⟩ := h.2 i (by omega)
    refine ⟨?_, ?_, ?_, ?_⟩
    · rw [st_w_e, if_neg (by omega), st_w_e, if_neg (by omega), st_w_e, if_neg (by omega), st_w_e, if_neg (by omega), st_w_e, if_neg (by omega)]; exact h1
    · rw [st_w_e, if_neg (by omega), st_w_e, if_neg (by omega), st_w_e, if_neg (by omega), st_w_e, if_neg (by omega), st_w_e, if_neg (by omega)]; exact h2
    · rw [st_w_e, if_neg (by omega), st_w_e, if_neg (by omega), st_w_e, if_neg (by omega), st_w_e, if_neg (by omega), st_w_e, if_neg (by omega)]; exact h3
    · rw [st_w_e, if_neg (by omega), st_w_e, if_neg (by omega), st_w_e, if_neg (by omega), st_w_e, if_neg (by omega), st_w_e, if_neg (by omega)]; exact h4
def PF (I I' : st_I) : Prop := ∀ a f, ¬ (183 ≤ a ∧ a ≤ 186) → ¬ (a = 166 ∧ f = 26) → I' a f = I a f
theorem PF_s (I : st_I) (a b c e : Int32) : PF I (psh I a b c e) := fun x f h1 h2 => by
  unfold psh
  rw [st_w_e, if_neg (by omega), st_w_e, if_neg (by omega), st_w_e, if_neg (by omega), st_w_e, if_neg (by omega), st_w_e, if_neg (by omega)]
theorem PF_t {I I1 I2 : st_I} (h1 : PF I I1) (h2 : PF I1 I2) : PF I I2 := fun a f q1 q2 => (h2 a f q1 q2).trans (h1 a f q1 q2)
/-- the pointers to be copied, the last one first -/
def rin (sg dp a b : Nat) : Nat → Nat → List IT
  | 0, _ => []
  | m + 1, j => rin sg dp a b m (j + 1) ++ [(sg, a + j, b + j, dp)]
def rout (sg dp : Nat) (q : P7) : Nat → Nat → List IT
  | 0, _ => []
  | m + 1, e => rout sg dp q m (e + 1) ++ rin sg dp (q.2.1 + e * (q.2.2.1 + q.2.2.2.1) + q.2.2.1) (q.2.2.2.2.1 + e * (q.2.2.2.2.2.1 + q.2.2.2.2.2.2) + q.2.2.2.2.2.1) q.2.2.2.2.2.2 0
theorem rin_len (sg dp a b : Nat) : ∀ m j, (rin sg dp a b m j).length = m := by
  intro m
  induction m with
  | zero => intro j; rfl
  | succ m ih => intro j; show (rin sg dp a b m (j + 1) ++ [_]).length = _; rw [List.length_append, ih]; rfl
theorem rout_len (sg dp : Nat) (q : P7) : ∀ m e, (rout sg dp q m e).length = m * q.2.2.2.2.2.2 := by
  intro m
  induction m with
  | zero => intro e; show 0 = _; rw [Nat.zero_mul]
  | succ m ih => intro e; show (rout sg dp q m (e + 1) ++ rin _ _ _ _ _ _).length = _; rw [List.length_append, ih, rin_len, Nat.succ_mul]
def CW (J0 J : st_J) (F : Nat → Int64) : Prop := (∀ a, a ≠ 168 → J a = J0 a) ∧ ∀ i, i < 64 → J 168 i = F i
theorem CW_w {J0 J : st_J} {F : Nat → Int64} (h : CW J0 J F) (i : Nat) (x : Int64) : CW J0 (st_y J 168 i x) (fset F i x) := by
  refine ⟨fun a ha => by rw [st_y_o _ _ _ ha, h.1 a ha], fun k hk => ?_⟩
  rw [st_y_e]
  unfold fset
  by_cases c : k = i
  · rw [if_pos ⟨rfl, c⟩, if_pos c]
  · rw [if_neg (fun z => c z.2), if_neg c]
    exact h.2 k hk
theorem CW_c {J0 J : st_J} {F F' : Nat → Int64} (h : CW J0 J F) (hF : ∀ i, i < 64 → F i = F' i) : CW J0 J F' := ⟨h.1, fun i hi => (h.2 i hi).trans (hF i hi)⟩
theorem cpy_s (R F : Nat → Int64) (a b k : Nat) : fset (va_cpy R F a b k) (b + k) (R (a + k)) = va_cpy R F a b (k + 1) := by
  funext i
  unfold fset va_cpy
  by_cases c : i = b + k
  · rw [if_pos c, if_pos (by omega), c, show b + k - b = k by omega]
  · rw [if_neg c]
    by_cases c2 : b ≤ i ∧ i < b + k
    · rw [if_pos c2, if_pos (by omega)]
    · rw [if_neg c2, if_neg (by omega)]
theorem cpy_0 (R F : Nat → Int64) (a b : Nat) : va_cpy R F a b 0 = F := by
  funext i
  unfold va_cpy
  rw [if_neg (by omega)]
theorem nd_cg {g g' : Nat → Int64} {b : Nat} : ∀ n, (∀ k, k < b + n → g k = g' k) → nd g b n = nd g' b n := by
  intro n
  induction n with
  | zero => intro _; rfl
  | succ n ih =>
    intro h
    unfold nd
    rw [h (b + n) (by omega), ih (fun k hk => h k (by omega))]
def rwM (J : st_J) (s : Nat) : Nat → Int64 := fun k => J 167 (64 * s + k)
theorem hd_M_needs {X : pm_X} {d : Nat} {I : st_I} {J : st_J} {p1 p2 p3 : Int32} (r : pm_R) : ((pm_in p1 4) = true ∧ ((ndk p2 p3) ∧ r = (.inl (some (.int (Int32.ofNat (nd (rwM J (Int32.toNatClampNeg p1)) (Int32.toNatClampNeg p2) (Int32.toNatClampNeg p3))))), st_h I J, 0, 0))) → Ex X (d + 1) 234 [.ref 166, .int p1, .int p2, .int p3] (st_h I J) r := fun h => hc_M_needs r h
/-- what the reference leaves when it has written a thing itself -/
def WQ (B : List IT) (I : st_I) (J : st_J) (R F : Nat → Int64) (v : V8) (t n : Nat) (G : pm_R → Prop) : Prop :=
  (64 < n + lyn R v n → ∃ L, (∀ a, a ≠ 168 → L a = J a) ∧ G (.inl (some (.int (Int32.ofNat n))), st_h (st_w I 166 10 2) L, 0, 0)) ∧
  (¬ 64 < n + lyn R v n → ∃ I' L, PF I I' ∧ PS I' (B ++ rout v.2.2.1 v.2.1 (lyp R v n) (lyp R v n).1 0) ∧ CW J L (lyF R F v t n) ∧ G (.inl (some (.int (Int32.ofNat (n + lyn R v n)))), st_h I' L, 0, 0))
