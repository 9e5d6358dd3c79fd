/-! the law's start: what the Statement gives of it -/
theorem ws_lS {s0 U : State} {a a' : Array Value} {C n d : String} (h : (Cond.laysStatic C n d).before a s0 = true) (hW : s0.WarmedH U.vm) (ho : ∀ q : Nat, q < s0.heap.size → U.heap[q]? = s0.heap[q]?) : (Cond.laysStatic C n d).before a' U = true := by
  obtain ⟨c, k, i, f, b, cell, hc, hi, hst, ha, hcell, hs, hcls, hlt, hty⟩ := Cond.laysStatic_spec h
  obtain ⟨k', hi', hek⟩ := State.fieldFound?_setVm hW.alike hi
  have hf : U.fieldFound? C n d = some (c, k', i, f) := hi'
  have hcell' : U.heap[b]? = some cell := by
    rw [ho b (Array.getElem?_eq_some_iff.mp hcell).1]
    exact hcell
  exact Cond.laysStatic_of (s := U) (by rw [hW.alike.findClass]; exact hc) hf hst (by rw [hek]; exact ha) hcell' hs hcls hlt (by rw [hek]; exact hty)
theorem ws_iR {s0 U : State} {a a' : Array Value} {C n d : String} (h : (Cond.laysStatic C n d).before a s0 = true) (hr : (Cond.isRef (.static C n d)).before a s0 = true) (hW : s0.WarmedH U.vm) (ho : ∀ q : Nat, q < s0.heap.size → U.heap[q]? = s0.heap[q]?) : (Cond.isRef (.static C n d)).before a' U = true := by
  obtain ⟨c, k, i, f, b, cell, hc, hi, hst, ha, hcell, hs, hcls, hlt, hty⟩ := Cond.laysStatic_spec h
  obtain ⟨k', hi', hek⟩ := State.fieldFound?_setVm hW.alike hi
  have hf : U.fieldFound? C n d = some (c, k', i, f) := hi'
  have ha' : k'.statics = some b := by rw [hek]; exact ha
  have hcell' : U.heap[b]? = some cell := by
    rw [ho b (Array.getElem?_eq_some_iff.mp hcell).1]
    exact hcell
  cases hv : (Term.static C n d).eval a s0 none [] s0 with
  | none => simp [Cond.before, Cond.holds, Cond.value, hv] at hr
  | some v =>
    obtain ⟨-, b2, cell2, ha2, hcell2, -, hslot⟩ := Term.static_spec hi hv
    cases ha.symm.trans ha2
    cases hcell.symm.trans hcell2
    have he : (Term.static C n d).eval a' U none [] U = some v := by
      simp [Term.eval, State.fieldNamed?, hf, hst, ha', hcell', hs, hslot]
    simp only [Cond.before, Cond.holds, Cond.value, hv] at hr
    simp only [Cond.before, Cond.holds, Cond.value, he]
    cases v with
    | null => rfl
    | ref t => rfl
    | _ => simp at hr
/-- the tables' own words, by their places -/
theorem ws_t {w : Cond} (i : Nat) (h : tables_1[i]? = some w) : w ∈ lw_tbl := List.mem_append_right _ (List.mem_of_getElem? h)
theorem ws_four {s0 : State} {a : Array Value} (hts : ∀ w ∈ lw_tbl, w.before a s0 = true) (hfl : ∀ c ∈ flatC (Jvm.Cond.and given_1 narrow_1), c.before a s0 = true) : ∀ w ∈ pm_four, ∀ (U : State) (a' : Array Value), s0.WarmedH U.vm → (∀ q : Nat, q < s0.heap.size → U.heap[q]? = s0.heap[q]?) → w.before a' U = true := by
  have l1 : (Cond.laysStatic "java/lang/Throwable" "UNASSIGNED_STACK" "[Ljava/lang/StackTraceElement;").before a s0 = true := hts _ (ws_t 316 (by decide +kernel))
  have l2 : (Cond.laysStatic "java/lang/Throwable" "SUPPRESSED_SENTINEL" "Ljava/util/List;").before a s0 = true := hts _ (ws_t 318 (by decide +kernel))
  have r1 : (Cond.isRef (.static "java/lang/Throwable" "UNASSIGNED_STACK" "[Ljava/lang/StackTraceElement;")).before a s0 = true := hfl _ (by decide +kernel)
  have r2 : (Cond.isRef (.static "java/lang/Throwable" "SUPPRESSED_SENTINEL" "Ljava/util/List;")).before a s0 = true := hfl _ (by decide +kernel)
  intro w hw U a' hW ho
  have hw : w ∈ [Cond.isRef (.static Bundle.tN "UNASSIGNED_STACK" Bundle.steD), .isRef (.static Bundle.tN "SUPPRESSED_SENTINEL" Bundle.listD), .laysStatic Bundle.tN "UNASSIGNED_STACK" Bundle.steD, .laysStatic Bundle.tN "SUPPRESSED_SENTINEL" Bundle.listD] := hw
  rcases List.mem_cons.mp hw with rfl | hw
  · exact ws_iR l1 r1 hW ho
  rcases List.mem_cons.mp hw with rfl | hw
  · exact ws_iR l2 r2 hW ho
  rcases List.mem_cons.mp hw with rfl | hw
  · exact ws_lS l1 hW ho
  rcases List.mem_cons.mp hw with rfl | hw
  · exact ws_lS l2 hW ho
  cases hw
theorem ws_ncw : ∀ e, e < 5 → ∀ x, x < 5 → e ≠ x → Cond.not (.castable (pm_EX (e + 1)) (pm_EX (x + 1))) ∈ flatC (Jvm.Cond.and given_1 narrow_1) := by decide +kernel
theorem ws_nc {s0 : State} {a : Array Value} (hfl : ∀ c ∈ flatC (Jvm.Cond.and given_1 narrow_1), c.before a s0 = true) : ∀ e x : Nat, 1 ≤ e ∧ e ≤ 5 → 1 ≤ x ∧ x ≤ 5 → e ≠ x → va_Nc (pm_EX e) (pm_EX x) s0 := by
  intro e x he hx hne
  obtain ⟨e, rfl⟩ : ∃ e', e = e' + 1 := ⟨e - 1, by omega⟩
  obtain ⟨x, rfl⟩ : ∃ x', x = x' + 1 := ⟨x - 1, by omega⟩
  exact va_Nc.of (hfl _ (ws_ncw e (by omega) x (by omega) (by omega)))
/-- the constants' texts -/
theorem ws_Str {s0 : State} {a : Array Value} (hts : ∀ w ∈ lw_tbl, w.before a s0 = true) (hfl : ∀ c ∈ flatC (Jvm.Cond.and given_1 narrow_1), c.before a s0 = true) : pm_Str s0 := by
  have key : ∀ (k : Nat) (tx : String), (Cond.stringRef "SegmentDesk" k tx).before a s0 = true → (Cond.exactly (.string "SegmentDesk" k) "java/lang/String").before a s0 = true → ∃ sa, vk_R "SegmentDesk" k tx sa s0 := by
    intro k tx h1 h2
    obtain ⟨b, -, -, -, hb, -⟩ := Cond.exactly_spec h2
    exact ⟨b, vk_R.of h1 hb⟩
  intro x hx
  have hx : x ∈ [(194, "no such thing to look at"), (307, "no such thing to count"), (315, "out of range"), (319, "the cursor stands at something else"), (324, "malformed"), (329, "no room"), (334, "no finite number")] := hx
  rcases List.mem_cons.mp hx with rfl | hx
  · exact key 194 _ (hts _ (ws_t 692 (by decide +kernel))) (hfl _ (by decide +kernel))
  rcases List.mem_cons.mp hx with rfl | hx
  · exact key 307 _ (hts _ (ws_t 1040 (by decide +kernel))) (hfl _ (by decide +kernel))
  rcases List.mem_cons.mp hx with rfl | hx
  · exact key 315 _ (hts _ (ws_t 332 (by decide +kernel))) (hfl _ (by decide +kernel))
  rcases List.mem_cons.mp hx with rfl | hx
  · exact key 319 _ (hts _ (ws_t 552 (by decide +kernel))) (hfl _ (by decide +kernel))
  rcases List.mem_cons.mp hx with rfl | hx
  · exact key 324 _ (hts _ (ws_t 429 (by decide +kernel))) (hfl _ (by decide +kernel))
  rcases List.mem_cons.mp hx with rfl | hx
  · exact key 329 _ (hts _ (ws_t 779 (by decide +kernel))) (hfl _ (by decide +kernel))
  rcases List.mem_cons.mp hx with rfl | hx
  · exact key 334 _ (hts _ (ws_t 653 (by decide +kernel))) (hfl _ (by decide +kernel))
  cases hx
/-- the two given arrays -/
def ws_X (n : Nat) (xs : Nat → Int32) : pm_X := fun t => match t with
  | 0 => (n, xs)
  | _ => (8, eb)
def ws_tk (b te : Nat) : Nat → Nat := fun t => match t with
  | 0 => b
  | _ => te
theorem ws_ebw : ∀ j, j < 8 → Cond.eq (.elem (.static "SegmentDesk" "ELEMENT_BITS" "[I") (.int (Int32.ofNat j))) (.int (eb j)) ∈ flatC (Jvm.Cond.and given_1 narrow_1) := by decide +kernel
theorem ws_eb {s0 : State} {a : Array Value} (hts : ∀ w ∈ lw_tbl, w.before a s0 = true) (hfl : ∀ c ∈ flatC (Jvm.Cond.and given_1 narrow_1), c.before a s0 = true) :
    ∃ te : Nat, va_T .int te 8 (fun j => .int (eb j)) (fun q => s0.heap.size ≤ q) s0 s0.heap ∧ va_Z "SegmentDesk" "ELEMENT_BITS" "[I" (.ref te) (fun q => s0.heap.size ≤ q) s0 s0.heap := by
  have harr : (Cond.arrayOf (.static "SegmentDesk" "ELEMENT_BITS" "[I") .int).before a s0 = true := hfl _ (by decide +kernel)
  have hlen : (Cond.eq (.length (.static "SegmentDesk" "ELEMENT_BITS" "[I")) (.int (Int32.ofNat 8))).before a s0 = true := hfl _ (by decide +kernel)
  obtain ⟨te, h1, h2⟩ := va_Tof (N := 8) (f := fun j => .int (eb j)) (A := fun q => s0.heap.size ≤ q) (by decide) harr (va_eqt hlen) (fun j hj => va_eqt (hfl _ (ws_ebw j hj))) (fun q hq hn => absurd hq (Nat.not_lt.mpr hn))
  exact ⟨te, h2, va_Zref (hts _ (ws_t 520 (by decide +kernel))) (hts _ (ws_t 1 (by decide +kernel))) h1 (fun q hq hn => absurd hq (Nat.not_lt.mpr hn))⟩
theorem ws_TK {s0 : State} {b te L : Nat} {xs : Nat → Int32} (hX : va_X b L xs s0 s0.heap) (hbl : b < s0.heap.size) (hT : va_T .int te 8 (fun j => .int (eb j)) (fun q => s0.heap.size ≤ q) s0 s0.heap) : pm_TK (ws_X L xs) (ws_tk b te) (fun q => s0.heap.size ≤ q) s0 := by
  intro t ht
  match t, ht with
  | 0, _ =>
    obtain ⟨scr, h1, h2, h3, h4, h5⟩ := hX
    exact ⟨scr, h1, h2, h3, Nat.le_of_eq h4.symm, by rw [h4]; rfl, h5, Nat.not_le.mpr hbl⟩
  | 1, _ => exact hT
  | k + 2, h => exact absurd h (by omega)
/-- the classes of objects and arrays -/
theorem ws_kn {s0 : State} {a : Array Value} (hts : ∀ w ∈ pm_Ts, w.before a s0 = true) : ∃ D : va_G, ∀ (c : Nat) (q : vw_C), pc_cl[c]? = some q → u_Kn s0 q.1 q.2.1 q.2.2 (D.1 c) (D.2 c) := by
  have key : ∀ c : Nat, ∃ (cC : ClassId) (iS : Nat → Nat), ∀ q : vw_C, pc_cl[c]? = some q → u_Kn s0 q.1 q.2.1 q.2.2 cC iS := by
    intro c
    match c with
    | 0 => obtain ⟨cC, iS, h⟩ := u_known hts fi_0 (hts _ w_26); exact ⟨cC, iS, fun q hq => by cases hq; exact h⟩
    | 1 => obtain ⟨cC, iS, h⟩ := u_known hts fi_1 (hts _ w_34); exact ⟨cC, iS, fun q hq => by cases hq; exact h⟩
    | 2 => obtain ⟨cC, iS, h⟩ := u_known hts fi_2 (hts _ w_72); exact ⟨cC, iS, fun q hq => by cases hq; exact h⟩
    | 3 => obtain ⟨cC, iS, h⟩ := u_known hts fi_3 (hts _ w_92); exact ⟨cC, iS, fun q hq => by cases hq; exact h⟩
    | 4 => obtain ⟨cC, iS, h⟩ := u_known hts fi_4 (hts _ w_107); exact ⟨cC, iS, fun q hq => by cases hq; exact h⟩
    | 5 => obtain ⟨cC, iS, h⟩ := u_known hts fi_5 (hts _ w_123); exact ⟨cC, iS, fun q hq => by cases hq; exact h⟩
    | 6 => obtain ⟨cC, iS, h⟩ := u_known hts fi_6 (hts _ w_130); exact ⟨cC, iS, fun q hq => by cases hq; exact h⟩
    | 7 => obtain ⟨cC, iS, h⟩ := u_known hts fi_7 (hts _ w_136); exact ⟨cC, iS, fun q hq => by cases hq; exact h⟩
    | 8 => obtain ⟨cC, iS, h⟩ := u_known hts fi_8 (hts _ w_231); exact ⟨cC, iS, fun q hq => by cases hq; exact h⟩
    | 9 => obtain ⟨cC, iS, h⟩ := u_known hts fi_9 (hts _ w_1042); exact ⟨cC, iS, fun q hq => by cases hq; exact h⟩
    | c + 10 => exact ⟨0, fun _ => 0, fun q hq => by simp [pc_cl] at hq⟩
  exact ⟨(fun c => (key c).choose, fun c => (key c).choose_spec.choose), fun c q hq => (key c).choose_spec.choose_spec q hq⟩
theorem ws_at {s0 : State} {c : ClassId} {k : Class} {comp : ClassId} {ty : FieldType} (h1 : s0.vm.classes[c]? = some k) (h2 : k.kind = .array comp ty) : ArrOfT s0 c ty := fun n z => ⟨fun k h => (by cases h), k, h1, comp, h2⟩
theorem ws_ac {s0 : State} {a : Array Value} (hts : ∀ w ∈ pm_Ts, w.before a s0 = true) : ∃ aC : Nat → Nat, ∀ (t : Nat) (ty : FieldType), pm_tyl[t]? = some ty → ArrOfT s0 (aC t) ty ∧ va_RA s0 (aC t) ty := by
  have key : ∀ t : Nat, ∃ cA : Nat, ∀ ty : FieldType, pm_tyl[t]? = some ty → ArrOfT s0 cA ty ∧ va_RA s0 cA ty := by
    intro t
    match t with
    | 0 => obtain ⟨c, k, comp, h1, h2, h3⟩ := Cond.arrayClass_spec (hts _ w_70); exact ⟨c, fun ty h => by cases h; exact ⟨ws_at h2 h3, h1⟩⟩
    | 1 => obtain ⟨c, k, comp, h1, h2, h3⟩ := Cond.arrayClass_spec (hts _ w_69); exact ⟨c, fun ty h => by cases h; exact ⟨ws_at h2 h3, h1⟩⟩
    | 2 => obtain ⟨c, k, comp, h1, h2, h3⟩ := Cond.arrayClass_spec (hts _ w_247); exact ⟨c, fun ty h => by cases h; exact ⟨ws_at h2 h3, h1⟩⟩
    | 3 => obtain ⟨c, k, comp, h1, h2, h3⟩ := Cond.arrayClass_spec (hts _ w_70); exact ⟨c, fun ty h => by cases h; exact ⟨ws_at h2 h3, h1⟩⟩
    | 4 => obtain ⟨c, k, comp, h1, h2, h3⟩ := Cond.arrayClass_spec (hts _ w_1410); exact ⟨c, fun ty h => by cases h; exact ⟨ws_at h2 h3, h1⟩⟩
    | 5 => obtain ⟨comp, c, k, h1, h2, h3, h4, h5⟩ := arrayOverA_spec (hts _ w_40); exact ⟨c, fun ty h => by cases h; exact ⟨ws_at h3 h4, h5⟩⟩
    | 6 => obtain ⟨comp, c, k, h1, h2, h3, h4, h5⟩ := Cond.arrayOver_spec (hts _ w_229); exact ⟨c, fun ty h => by cases h; exact ⟨ws_at h3 h4, k, comp, h3, h4, h1, h5⟩⟩
    | 7 => obtain ⟨comp, c, k, h1, h2, h3, h4, h5⟩ := Cond.arrayOver_spec (hts _ w_129); exact ⟨c, fun ty h => by cases h; exact ⟨ws_at h3 h4, k, comp, h3, h4, h1, h5⟩⟩
    | t + 8 => exact ⟨0, fun ty h => by simp [pm_tyl] at h⟩
  exact ⟨fun t => (key t).choose, fun t ty h => (key t).choose_spec ty h⟩
theorem ws_K {s0 : State} {a : Array Value} (hts : ∀ w ∈ pm_Ts, w.before a s0 = true) : ∃ (D : va_G) (aC : Nat → Nat), va_K D pc_cl (pm_tys aC) s0 := by
  obtain ⟨D, h1⟩ := ws_kn hts
  obtain ⟨aC, h2⟩ := ws_ac hts
  refine ⟨D, aC, h1, fun k q hq => ?_⟩
  unfold pm_tys at hq
  rw [List.getElem?_mapIdx] at hq
  cases hy : pm_tyl[k]? with
  | none => rw [hy] at hq; cases hq
  | some ty => rw [hy] at hq; cases hq; exact h2 k ty hy
theorem ws_Base {l : Launch} {s0 : State} {a : Array Value} {b te L : Nat} {xs : Nat → Int32} (hl : l.stackTraces = false) (hts : ∀ w ∈ lw_tbl, w.before a s0 = true) (hfl : ∀ c ∈ flatC (Jvm.Cond.and given_1 narrow_1), c.before a s0 = true) (hX : va_X b L xs s0 s0.heap) (hbl : b < s0.heap.size) (hT : va_T .int te 8 (fun j => .int (eb j)) (fun q => s0.heap.size ≤ q) s0 s0.heap) (hZ : va_Z "SegmentDesk" "ELEMENT_BITS" "[I" (.ref te) (fun q => s0.heap.size ≤ q) s0 s0.heap) :
    pm_Base l s0 pc_cl (ws_tk b te) pm_Ts (ws_X L xs) :=
  ⟨hl, fun w hw => (List.mem_filter.mp hw).2, ⟨_, _, rfl⟩, ⟨_, _, rfl⟩, ws_TK hX hbl hT, hZ, ws_four hts hfl, ws_nc hfl, by decide +kernel⟩
