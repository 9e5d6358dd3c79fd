/-! .. throws, tables, switches -/
def pm_thr (cc : ByteArray) (pc is ic wl : Nat) : Bool := (match decode cc (pc + 3) with
    | .ok (.dup, 1) => true
    | _ => false) && ((match decode cc (pc + 4) with
    | .ok (.ldc j, 2) => Nat.beq j is && Nat.beq wl 2
    | .ok (.ldc_w j, 3) => Nat.beq j is && Nat.beq wl 3
    | _ => false) && ((match decode cc (pc + 4 + wl) with
    | .ok (.invokespecial j, 3) => Nat.beq j ic
    | _ => false) && (match decode cc (pc + 4 + wl + 3) with
    | .ok (.athrow, 1) => true
    | _ => false)))
def pm_oz (ws : List Cond) : Bool := ws.all fun w => (tables_1.any (fun x => decide (x = w)) && pm_kp w) || pm_four.any (fun x => decide (x = w))
theorem pk_oz {ws : List Cond} (h : pm_oz ws = true) : ∀ w ∈ ws, w ∈ pm_Ts ∨ w ∈ pm_four := by
  intro w hw
  have h := List.all_eq_true.mp h w hw
  rw [Bool.or_eq_true, Bool.and_eq_true] at h
  rcases h with ⟨h1, h2⟩ | h1
  · obtain ⟨x, hx, e⟩ := List.any_eq_true.mp h1
    cases of_decide_eq_true e
    exact Or.inl (List.mem_filter.mpr ⟨List.mem_append_right _ hx, h2⟩)
  · obtain ⟨x, hx, e⟩ := List.any_eq_true.mp h1
    cases of_decide_eq_true e
    exact Or.inr hx
theorem pk_x {s0 : State} {cc : ByteArray} {pc k e is ic wl : Nat} {text : String} (hS : pm_Str s0) (hm : (is, text) ∈ pc_strs) (ht : pm_thr cc pc is ic wl = true) (h1 : Cond.classLink "SegmentDesk" k (pm_EX e) ∈ pm_Ts) (h2 : Cond.initialized (pm_EX e) ∈ pm_Ts) (h3 : Bundle.fit (pm_EX e) = true) (h4 : ∀ w ∈ Bundle.ownAtoms "SegmentDesk" ic (pm_EX e) pm_nm, w ∈ pm_Ts ∨ w ∈ pm_four) : pm_lkX s0 "SegmentDesk" pm_Ts cc pc k e := by
  obtain ⟨sa, hr⟩ := hS _ hm
  unfold pm_thr at ht
  rw [Bool.and_eq_true, Bool.and_eq_true, Bool.and_eq_true] at ht
  obtain ⟨t1, t2, t3, t4⟩ := ht
  refine ⟨is, ic, wl, text, sa, ?_, ?_, ?_, ?_, hr, h1, h2, h3, h4⟩
  · split at t1
    · assumption
    · cases t1
  · split at t2
    · rename_i j e
      rw [Bool.and_eq_true] at t2
      rw [Nat.eq_of_beq_eq_true t2.1] at e
      exact Or.inl ⟨e, Nat.eq_of_beq_eq_true t2.2⟩
    · rename_i j e
      rw [Bool.and_eq_true] at t2
      rw [Nat.eq_of_beq_eq_true t2.1] at e
      exact Or.inr ⟨e, Nat.eq_of_beq_eq_true t2.2⟩
    · cases t2
  · split at t3
    · rename_i j e
      rw [Nat.eq_of_beq_eq_true t3] at e
      exact e
    · cases t3
  · split at t4
    · assumption
    · cases t4
def pm_lkHr (own : String) (Ts : List Cond) (cc : ByteArray) (nL : Nat) (q : Nat × Nat × Nat × Nat × Nat) (w : Nat × Nat × Nat × Nat) : Prop := w.1 = q.1 ∧ w.2.1 = q.2.1 ∧ w.2.2.2 ≠ 0 ∧ (1 ≤ q.2.2.2.1 ∧ q.2.2.2.1 ≤ 5) ∧ q.2.2.2.2 < nL ∧ Cond.classLink own w.2.2.2 (pm_EX q.2.2.2.1) ∈ Ts ∧ Cond.castable (pm_EX q.2.2.2.1) (pm_EX q.2.2.2.1) ∈ Ts ∧
    ((decode cc w.2.2.1 = .ok (.astore q.2.2.2.2, 2) ∧ q.2.2.1 = w.2.2.1 + 2) ∨ ∃ n : Fin 4, (n : Nat) = q.2.2.2.2 ∧ decode cc w.2.2.1 = .ok (.astore_n n, 1) ∧ q.2.2.1 = w.2.2.1 + 1)
theorem pk_h0 {own : String} {Ts : List Cond} {cc : ByteArray} {nL : Nat} : pm_lkH own Ts cc nL [] [] := ⟨rfl, fun j f t hp x lo h => by cases h⟩
theorem pk_hs {own : String} {Ts : List Cond} {cc : ByteArray} {nL : Nat} {q : Nat × Nat × Nat × Nat × Nat} {w : Nat × Nat × Nat × Nat} {tab : List (Nat × Nat × Nat × Nat × Nat)} {hh : List (Nat × Nat × Nat × Nat)} (h1 : pm_lkHr own Ts cc nL q w) (h2 : pm_lkH own Ts cc nL tab hh) : pm_lkH own Ts cc nL (q :: tab) (w :: hh) := by
  refine ⟨by rw [List.length_cons, List.length_cons, h2.1], fun j f t hp x lo h => ?_⟩
  cases j with
  | zero =>
    cases h
    obtain ⟨a, b, c, d⟩ := w
    obtain ⟨e1, e2, h3⟩ := h1
    dsimp only at e1 e2 h3
    subst e1 e2
    exact ⟨c, d, rfl, h3⟩
  | succ j => exact h2.2 j f t hp x lo h
def pm_tk (pc : Nat) (d : Nat) (offs : Array Int) (ts : List Nat) : Bool := (List.range ts.length).all fun j => match offs[j]? with
  | some off => decide ((pc : Int) + off = ((ts.getD j d : Nat) : Int))
  | none => false
theorem pk_t {pc d : Nat} {offs : Array Int} {ts : List Nat} (h : pm_tk pc d offs ts = true) : ∀ j : Nat, j < ts.length → ∃ off, offs[j]? = some off ∧ (pc : Int) + off = ((ts.getD j d : Nat) : Int) := by
  intro j hj
  have h := List.all_eq_true.mp h j (List.mem_range.mpr hj)
  split at h
  · rename_i off e
    exact ⟨off, e, of_decide_eq_true h⟩
  · cases h
def pm_nov : Value → Bool
  | .int _ => true
  | .long _ => true
  | .double _ => true
  | .null => true
  | _ => false
theorem pk_v (l : List Value) (h : l.all pm_nov = true) : ∀ v, v ∈ l → ∀ ad tk : Nat → Nat, pm_v ad tk v = v := by
  intro v hv ad tk
  have h := List.all_eq_true.mp h v hv
  cases v <;> first | rfl | cases h
theorem pk_d (N : Nat) (ty : Nat → FieldType) (l : List Value) (h : (List.range N).all (fun j => decide (defaultValue (ty j) = vp_V l j)) = true) : ∀ j, j < N → defaultValue (ty j) = vp_V l j := fun j hj => of_decide_eq_true (List.all_eq_true.mp h j (List.mem_range.mpr hj))
theorem oa_1 : ∀ w ∈ Bundle.ownAtoms "SegmentDesk" 196 (pm_EX 1) pm_nm, w ∈ pm_Ts ∨ w ∈ pm_four := pk_oz (by decide +kernel)
theorem oa_2 : ∀ w ∈ Bundle.ownAtoms "SegmentDesk" 326 (pm_EX 2) pm_nm, w ∈ pm_Ts ∨ w ∈ pm_four := pk_oz (by decide +kernel)
theorem oa_3 : ∀ w ∈ Bundle.ownAtoms "SegmentDesk" 331 (pm_EX 3) pm_nm, w ∈ pm_Ts ∨ w ∈ pm_four := pk_oz (by decide +kernel)
theorem oa_4 : ∀ w ∈ Bundle.ownAtoms "SegmentDesk" 321 (pm_EX 4) pm_nm, w ∈ pm_Ts ∨ w ∈ pm_four := pk_oz (by decide +kernel)
theorem oa_5 : ∀ w ∈ Bundle.ownAtoms "SegmentDesk" 336 (pm_EX 5) pm_nm, w ∈ pm_Ts ∨ w ∈ pm_four := pk_oz (by decide +kernel)
theorem w_281 : (Jvm.Cond.classLink "SegmentDeskLaw" (13 : Nat) "java/lang/IllegalArgumentException") ∈ pm_Ts := pm_inT 281 (by decide +kernel) (by decide +kernel)
theorem w_409 : (Jvm.Cond.classLink "SegmentDeskLaw" (31 : Nat) "java/lang/IllegalStateException") ∈ pm_Ts := pm_inT 409 (by decide +kernel) (by decide +kernel)
theorem w_531 : (Jvm.Cond.classLink "SegmentDeskLaw" (37 : Nat) "java/lang/UnsupportedOperationException") ∈ pm_Ts := pm_inT 531 (by decide +kernel) (by decide +kernel)
theorem w_624 : (Jvm.Cond.classLink "SegmentDeskLaw" (50 : Nat) "java/lang/ArithmeticException") ∈ pm_Ts := pm_inT 624 (by decide +kernel) (by decide +kernel)
theorem w_703 : (Jvm.Cond.classLink "SegmentDeskLaw" (66 : Nat) "java/lang/IndexOutOfBoundsException") ∈ pm_Ts := pm_inT 703 (by decide +kernel) (by decide +kernel)
theorem ln_D_9 : pm_lkN "SegmentDesk" pm_Ts pc_cl pc_Dv 9 1 := ⟨_, FT_1, 4, fy_1, rfl, fi_1, ft_1, w_33, w_34, w_2, pk_d 4 fy_1 _ (by decide +kernel), rfl, pk_v _ rfl⟩
theorem ln_D_16 : pm_lkN "SegmentDesk" pm_Ts pc_cl pc_Dv 16 2 := ⟨_, FT_2, 4, fy_2, rfl, fi_2, ft_2, w_71, w_72, w_3, pk_d 4 fy_2 _ (by decide +kernel), rfl, pk_v _ rfl⟩
theorem ln_D_23 : pm_lkN "SegmentDesk" pm_Ts pc_cl pc_Dv 23 3 := ⟨_, FT_3, 2, fy_3, rfl, fi_3, ft_3, w_91, w_92, w_4, pk_d 2 fy_3 _ (by decide +kernel), rfl, pk_v _ rfl⟩
theorem ln_D_30 : pm_lkN "SegmentDesk" pm_Ts pc_cl pc_Dv 30 4 := ⟨_, FT_4, 3, fy_4, rfl, fi_4, ft_4, w_106, w_107, w_5, pk_d 3 fy_4 _ (by decide +kernel), rfl, pk_v _ rfl⟩
theorem ln_D_37 : pm_lkN "SegmentDesk" pm_Ts pc_cl pc_Dv 37 5 := ⟨_, FT_5, 3, fy_5, rfl, fi_5, ft_5, w_122, w_123, w_6, pk_d 3 fy_5 _ (by decide +kernel), rfl, pk_v _ rfl⟩
theorem ln_D_50 : pm_lkN "SegmentDesk" pm_Ts pc_cl pc_Dv 50 8 := ⟨_, FT_8, 2, fy_8, rfl, fi_8, ft_8, w_230, w_231, w_9, pk_d 2 fy_8 _ (by decide +kernel), rfl, pk_v _ rfl⟩
theorem ln_D_44 : pm_lkN "SegmentDesk" pm_Ts pc_cl pc_Dv 44 7 := ⟨_, FT_7, 9, fy_7, rfl, fi_7, ft_7, w_228, w_136, w_8, pk_d 9 fy_7 _ (by decide +kernel), rfl, pk_v _ rfl⟩
theorem ln_Ca_15 : pm_lkN "SegmentDesk$Canon" pm_Ts pc_cl pc_Dv 15 6 := ⟨_, FT_6, 8, fy_6, rfl, fi_6, ft_6, w_128, w_130, w_7, pk_d 8 fy_6 _ (by decide +kernel), rfl, pk_v _ rfl⟩
theorem ln_Le_7 : pm_lkN "SegmentDesk$Level" pm_Ts pc_cl pc_Dv 7 7 := ⟨_, FT_7, 9, fy_7, rfl, fi_7, ft_7, w_135, w_136, w_8, pk_d 9 fy_7 _ (by decide +kernel), rfl, pk_v _ rfl⟩
