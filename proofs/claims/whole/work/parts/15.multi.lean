/-! new long[n][m] -/
/-- the slots of the outer array, its first i rows made behind the address b -/
def pm_rw (b i : Nat) : Nat → Value := fun j => va_rf (if j < i then some (b + 1 + j) else none)
theorem pm_rw_none (b : Nat) : pm_rw b 0 = fun _ => .null := funext fun j => by simp [pm_rw, va_rf]
theorem pm_rw_next (b i : Nat) : updV (pm_rw b i) i (.ref (b + 1 + i)) = pm_rw b (i + 1) := by
  funext j
  by_cases q : j = i
  · subst q
    simp [updV, pm_rw, va_rf]
  · have h : j < i + 1 ↔ j < i := ⟨fun h => by omega, fun h => by omega⟩
    simp [updV, pm_rw, q, h]
/-- a row -/
def pm_lg (cB M : Nat) : Cell := arrV cB M (fun _ => .long 0)
/-- the state behind the first i rows -/
def pm_grid (S : State) (cA cB N M : Nat) : Nat → State
  | 0 => S.pushCell (arrV cA N (pm_rw S.heap.size 0))
  | i + 1 => ((pm_grid S cA cB N M i).pushCell (pm_lg cB M)).setCell S.heap.size (arrV cA N (pm_rw S.heap.size (i + 1)))
theorem pm_arrV_size (cA N : Nat) (f : Nat → Value) : (arrV cA N f).slots.size = N := by simp [arrV]
theorem pm_grid_at (S : State) (cA cB N M : Nat) : ∀ i : Nat, (pm_grid S cA cB N M i).vm = S.vm ∧ (pm_grid S cA cB N M i).heap.size = S.heap.size + 1 + i ∧ (pm_grid S cA cB N M i).slotsUsed = S.slotsUsed + N + i * M ∧
    (pm_grid S cA cB N M i).heap[S.heap.size]? = some (arrV cA N (pm_rw S.heap.size i)) ∧ (∀ a : Nat, a < S.heap.size → (pm_grid S cA cB N M i).heap[a]? = S.heap[a]?) ∧
    ∀ j : Nat, j < i → (pm_grid S cA cB N M i).heap[S.heap.size + 1 + j]? = some (pm_lg cB M) := by
  intro i
  induction i with
  | zero =>
    refine ⟨rfl, by simp [pm_grid], by simp [pm_grid, pm_arrV_size], by simp [pm_grid], fun a ha => State.heap_pushCell_of_lt _ _ ha, fun j hj => absurd hj (Nat.not_lt_zero j)⟩
  | succ i ih =>
    obtain ⟨h1, h2, h3, h4, h5, h6⟩ := ih
    have hp : ∀ a : Nat, a < S.heap.size + 1 + i → ((pm_grid S cA cB N M i).pushCell (pm_lg cB M)).heap[a]? = (pm_grid S cA cB N M i).heap[a]? := fun a ha => State.heap_pushCell_of_lt _ _ (by rw [h2]; exact ha)
    have hn : ((pm_grid S cA cB N M i).pushCell (pm_lg cB M)).heap[S.heap.size + 1 + i]? = some (pm_lg cB M) := by rw [← h2]; exact State.heap_pushCell_size _ _
    have ho : ∀ a : Nat, a ≠ S.heap.size → (pm_grid S cA cB N M (i + 1)).heap[a]? = ((pm_grid S cA cB N M i).pushCell (pm_lg cB M)).heap[a]? := fun a ha => State.heap_setCell_other (Ne.symm ha)
    refine ⟨by simp [pm_grid, h1], ?_, ?_, ?_, fun a ha => ?_, fun j hj => ?_⟩
    · simp [pm_grid, State.setCell, h2]
      omega
    · simp [pm_grid, h3, pm_lg, pm_arrV_size, Nat.succ_mul]
      omega
    · exact State.heap_setCell_self ((hp _ (by omega)).trans h4)
    · rw [ho a (Nat.ne_of_lt ha), hp a (by omega), h5 a ha]
    · rw [ho _ (by omega)]
      by_cases q : j = i
      · rw [q]; exact hn
      · rw [hp _ (by omega), h6 j (by omega)]
theorem pm_grid_top (S : State) (f : JFrame) (cA cB N M : Nat) (i : Nat) : pm_grid (S.setTop f) cA cB N M i = (pm_grid S cA cB N M i).setTop f := by
  induction i with
  | zero => rfl
  | succ i ih => simp only [pm_grid, ih, State.heap_setTop, State.pushCell_setTop, State.setCell_setTop]
section PMG
variable {E : CtlPost} {e : Env} {d : Bool} {acts : List Action} {S : State} {cA cB cJ : ClassId} {kA kB : Class} {n k : Int32}
/-- one row is made -/
theorem pm_make_row (hB : S.vm.classes[cB]? = some kB) (hB2 : kB.kind = .array cJ .long) (hk : ¬ k < 0) (hl : ¬ k.toNatClampNeg > e.platform.arrayLengthLimit) (hb : ¬ k.toNatClampNeg * 8 > e.platform.maxHeapBytes)
    (hc : S.heap.size < e.platform.maxCells) (hs : S.slotsUsed + k.toNatClampNeg ≤ e.platform.maxSlots) {Q : Addr → Pre} (hq : ∀ acts', Q S.heap.size d acts' (S.pushCell (pm_lg cB k.toNatClampNeg))) :
    wp (multianewarray.make cB [k]) Q E e d acts S := by
  rw [multianewarray.make]
  simp only [wp_bind', W.ite, hk, if_false, wp_pure', W.theClass, hB, hB2, Option.some.injEq, exists_eq_left']
  refine W.newArray_of hB hB2 hl hb hc hs rfl (fun acts' => ?_)
  have h := hq acts'
  unfold pm_lg at h
  rw [← arrV_new] at h
  exact h
/-- the array and all its rows are made -/
theorem pm_make_grid (hA : S.vm.classes[cA]? = some kA) (hA2 : kA.kind = .array cB (.array .long)) (hB : S.vm.classes[cB]? = some kB) (hB2 : kB.kind = .array cJ .long) (hn : ¬ n < 0) (hk : ¬ k < 0)
    (hl1 : ¬ n.toNatClampNeg > e.platform.arrayLengthLimit) (hb1 : ¬ n.toNatClampNeg * 4 > e.platform.maxHeapBytes) (hl2 : ¬ k.toNatClampNeg > e.platform.arrayLengthLimit) (hb2 : ¬ k.toNatClampNeg * 8 > e.platform.maxHeapBytes)
    (hc : S.heap.size + (1 + n.toNatClampNeg) ≤ e.platform.maxCells) (hs : S.slotsUsed + (n.toNatClampNeg + n.toNatClampNeg * k.toNatClampNeg) ≤ e.platform.maxSlots) {Q : Addr → Pre}
    (hq : ∀ d' acts', Q S.heap.size d' acts' (pm_grid S cA cB n.toNatClampNeg k.toNatClampNeg n.toNatClampNeg)) : wp (multianewarray.make cA [n, k]) Q E e d acts S := by
  have hf : ([k].find? (· < 0)) = none := by simp [hk]
  generalize hN : n.toNatClampNeg = N at hl1 hb1 hc hs hq
  generalize hM : k.toNatClampNeg = M at hl2 hb2 hs hq
  rw [multianewarray.make]
  simp only [wp_bind', W.ite, hn, if_false, wp_pure', W.theClass, hA, hA2, Option.some.injEq, exists_eq_left']
  rw [hN]
  refine W.newArray_of hA hA2 hl1 hb1 (by omega) (by omega) rfl (fun acts1 => ?_)
  simp only [hf]
  rw [ite_self, wp_bind', Std.Legacy.Range.forIn_eq_forIn_range']
  have hr : ([:N] : Std.Legacy.Range).size = N := by simp [Std.Legacy.Range.size]
  rw [hr]
  refine wp_forIn_inv (fun l S' => ∃ i, i + l.length = N ∧ l = List.range' i l.length ∧ S' = pm_grid S cA cB N M i) _ _ ⟨0, by simp, by simp, ?_⟩ ?_ ?_
  · show S.pushCell _ = S.pushCell _
    rw [arrV_new, pm_rw_none]
  · rintro x l S' d' acts' Q' ⟨i, hi, hl, rfl⟩ hnext
    rw [List.length_cons] at hi hl
    rw [List.range'_succ] at hl
    obtain ⟨rfl, hl⟩ := List.cons.inj hl
    obtain ⟨g1, g2, g3, g4, g5, g6⟩ := pm_grid_at S cA cB N M x
    have hm : x * M + M ≤ N * M := by
      have := Nat.mul_le_mul_right M (show x + 1 ≤ N by omega)
      rwa [Nat.succ_mul] at this
    simp only [wp_bind']
    refine pm_make_row (by rw [g1]; exact hB) hB2 hk (by rw [hM]; exact hl2) (by rw [hM]; exact hb2) (by rw [g2]; omega) (by rw [g3, hM]; omega) (fun acts2 => ?_)
    simp only [wp_bind', W.writeLoc, wp_pure']
    refine ⟨arrV cA N (pm_rw S.heap.size x), ?_, by simp [arrV], by rw [pm_arrV_size]; omega, ?_, hnext _ _ _ ⟨x + 1, by omega, hl, ?_⟩⟩
    · exact (State.heap_pushCell_of_lt _ _ (show S.heap.size < (pm_grid S cA cB N M x).heap.size by rw [g2]; omega)).trans g4
    · show State.fitsSlot _ cA .none x _ = true
      simp [State.fitsSlot, State.slotType?, g1, hA, hA2]
      rfl
    · rw [arrV_store, g2, pm_rw_next, hM]
      rfl
  · rintro S' d' acts' ⟨i, hi, -, rfl⟩
    cases (show i = N from hi)
    simp only [wp_pure']
    exact hq _ _
end PMG
/-- the word of an array over long[] -/
theorem pm_overA {args : Array Value} {s : State} {t : FieldType} (h : (Cond.arrayOver (.array t)).before args s = true) :
    ∃ cB cA kA, s.vm.findClass (FieldType.array t).toString = some cB ∧ s.vm.findClass ("[" ++ (FieldType.array t).toString) = some cA ∧ s.vm.classes[cA]? = some kA ∧ kA.kind = .array cB (.array t) := by
  have h : (Cond.arrayOver (.array t)).holds args s none s [] = true := h
  simp only [Cond.holds, Cond.value, beq_iff_eq] at h
  cases hB : s.vm.findClass (FieldType.array t).toString with
  | none => rw [hB] at h; simp at h
  | some cB =>
    simp only [hB, Option.bind_some, Option.bind_eq_some_iff, Option.map_eq_some_iff] at h
    obtain ⟨cA, hi, kA, hkA, hb⟩ := h
    obtain ⟨_, hp, _⟩ := Array.findIdx?_eq_some_iff_getElem.mp hi
    rw [(Array.getElem?_eq_some_iff.mp hkA).2] at hp
    refine ⟨cB, cA, kA, rfl, ?_⟩
    cases hkind : kA.kind with
    | array c9 t9 =>
      rw [hkind] at hb hp
      simp at hb hp
      exact ⟨hb.2, hkA, by rw [hp, hb.1]⟩
    | _ => rw [hkind] at hb; simp at hb
section PMF
variable {p : Program} {l : Launch} {e : Env} {R : Room} {s : State} {m : MethodId} {args : Array Value} {below : List Frame} {meth : Method} {c : Code} {T : State} {locs : List Loc} {ce sl : Nat}
theorem pm_grid_stand (X : Stand p l e R s m args below meth c T locs ce sl) (cA cB N M : Nat) (i : Nat) : Stand p l e R s m args below meth c (pm_grid T cA cB N M i) locs (ce + 1 + i) (sl + N + i * M) := by
  induction i with
  | zero =>
    have h := X.pushed (arrV cA N (pm_rw T.heap.size 0))
    rw [pm_arrV_size] at h
    simpa [pm_grid] using h
  | succ i ih =>
    obtain ⟨-, g2, -, g4, -, -⟩ := pm_grid_at T cA cB N M i
    have h := (ih.pushed (pm_lg cB M)).stored (a := T.heap.size) ((State.heap_pushCell_of_lt _ _ (show T.heap.size < (pm_grid T cA cB N M i).heap.size by rw [g2]; omega)).trans g4) i (.ref (T.heap.size + 1 + i))
    rw [arrV_store, pm_rw_next] at h
    have h2 := h.dropFresh (fun x hx => by rw [List.mem_singleton.mp hx]; exact X.heapGrown)
    have e1 : sl + N + (i + 1) * M = sl + N + i * M + (pm_lg cB M).slots.size := by
      unfold pm_lg
      rw [pm_arrV_size, Nat.succ_mul, Nat.add_assoc (sl + N)]
    rw [e1]
    exact h2
/-- the instruction -/
theorem pm_multi (X : Stand p l e R s m args below meth c T locs ce sl) (hx : p.tables.exec = Jvm.exec) {own : String} {index : Nat} (hown : s.vm.findClass own = some m.cls) (hlink : (Cond.classLink own index "[[J").before args s = true)
    (hover : (Cond.arrayOver (.array .long)).before args s = true) (harr : (Cond.arrayClass .long).before args s = true) {g : JFrame} (hg : g.method = m) (hd : decode c.code g.pc = .ok (.multianewarray index 2, 4)) {n k : Int32} {r : List Value}
    (hst : g.stack = .int k :: .int n :: r) (hn : ¬ n < 0) (hk : ¬ k < 0) (hN : n.toNatClampNeg ≤ 100000) (hM : k.toNatClampNeg ≤ 100000)
    (hc : ce + (1 + n.toNatClampNeg) ≤ R.cells) (hs : sl + (n.toNatClampNeg + n.toNatClampNeg * k.toNatClampNeg) ≤ R.slots) :
    ∃ (V : Vm) (cA cB : ClassId), s.WarmedH V ∧ s.vm.findClass "[[J" = some cA ∧ s.vm.findClass "[J" = some cB ∧
      ∀ t, Steps p.tables e below ((pm_grid (T.setVm V) cA cB n.toNatClampNeg k.toNatClampNeg n.toNatClampNeg).setTop { g with pc := g.pc + 4, stack := .ref T.heap.size :: r }) t → Steps p.tables e below (T.setTop g) t := by
  subst hg
  have hpl : e.platform.magicAccessors = ({} : Platform).magicAccessors := by rw [X.admits.platform]
  obtain ⟨cB, cA, kA, fB, fA, hkA, hA2⟩ := pm_overA hover
  obtain ⟨cB', kB, cJ, fB', hkB, hB2⟩ := Cond.arrayClass_spec harr
  rw [Option.some.inj (fB'.symm.trans fB)] at hkB
  obtain ⟨c0, f0, hcl⟩ := Cond.classLink_spec hown hlink e.platform hpl
  rw [Option.some.inj (f0.symm.trans fA)] at hcl
  obtain ⟨hgv, hW, -⟩ := State.classEntry (e := e) X.warmed hcl
  have hsz : (T.vm.noted g.method.cls index (.cls cA)).classes.size ≤ T.vm.classes.size := by no_record
  generalize T.vm.noted g.method.cls index (.cls cA) = V at hgv hW hsz
  obtain ⟨kA1, hA1, eA⟩ := hW.alike.2.2 _ _ hkA
  obtain ⟨kB1, hB1, eB⟩ := hW.alike.2.2 _ _ hkB
  obtain ⟨r1, r2⟩ := X.roomAbove hc hs
  have X1 := pm_grid_stand (X.noted hW) cA cB n.toNatClampNeg k.toNatClampNeg n.toNatClampNeg
  refine ⟨V, cA, cB, hW, fA, fB, fun t ht => ?_⟩
  jvm_step X.here [hx, hd]
  simp only [multianewarray.sem, wp_bind', W.resolveClassAt_links (State.method?_setTop g X.here.top) hgv hsz]
  rw [W.popN, if_neg (by decide)]
  refine ⟨g, State.topJava?_setTop' (s := T.setVm V) g X.here.top, [.int n, .int k], r, rfl, hst, ?_⟩
  simp only [List.mapM_cons, List.mapM_nil, wp_bind', wp_pure']
  refine pm_make_grid (S := ((T.setTop g).setVm V).setTop { g with stack := r }) (cA := cA) (kA := kA1) (kB := kB1) (cB := cB) (cJ := cJ) hA1 (by rw [eA]; exact hA2) hB1 (by rw [eB]; exact hB2) hn hk (by rw [Launch.admits_arrayLengthLimit X.admits]; omega) (by rw [Launch.admits_maxHeapBytes X.admits]; omega) (by rw [Launch.admits_arrayLengthLimit X.admits]; omega) (by rw [Launch.admits_maxHeapBytes X.admits]; omega) r1 r2 (fun d' acts' => ?_)
  have e1 : ((T.setTop g).setVm V).setTop { g with stack := r } = (T.setVm V).setTop { g with stack := r } := by
    show ((T.setVm V).setTop g).setTop _ = _
    rw [State.setTop_setTop]
  rw [e1, pm_grid_top]
  simp only [wp_bind', W.mark, W.pushRef, State.topJava?_setTop' _ X1.here.top, Option.some.injEq, exists_eq_left', State.setTop_setTop, State.heap_setTop]
  intro acts
  simp [jvm, X1.here.top]
  exact ht
end PMF
section PMM
variable {p : Program} {l : Launch} {e : Env} {R : Room} {s : State} {m : MethodId} {args : Array Value} {below : List Frame} {meth : Method} {c : Code} {Q : State → Prop} {cc : ByteArray} {pc nL ce sl : Nat} {ad tk aC : Nat → Nat} {ls : pm_V} {r : List Value} {h : pm_H} {D : va_G} {cl : List vw_C} {A : Nat → Prop} {Ts : List Cond} {own : String}
/-- the rows of a new array of arrays -/
def pm_rows (h : pm_H) (N K : Nat) : pm_H := .inl (5, N, .inr (.inr (.inr (.inr (fun i => bif Nat.ble (i + 1) N then some (h.length + 1 + i) else none))))) :: List.replicate N (pm_arr 1 K)
theorem pm_ok_newm (hx : p.tables.exec = Jvm.exec) (hb : c.code = cc) (hts : ∀ w ∈ Ts, w.before args s = true) (hown : s.vm.findClass own = some m.cls) (hK : va_K D cl (pm_tys aC) s) (hA : ∀ q, s.heap.size ≤ q → A q) {index : Nat} {n k : Int32} (hlk : Cond.classLink own index "[[J" ∈ Ts ∧ Cond.arrayOver (.array .long) ∈ Ts ∧ Cond.arrayClass .long ∈ Ts) (hc : pm_cl h ls r = true) (hn : ¬ n < 0) (hk : ¬ k < 0) (hN : n.toNatClampNeg ≤ 100000) (hM : k.toNatClampNeg ≤ 100000) (hR : ce + (1 + n.toNatClampNeg) ≤ R.cells ∧ sl + (n.toNatClampNeg + n.toNatClampNeg * k.toNatClampNeg) ≤ R.slots) (hd : decode cc pc = .ok (.multianewarray index 2, 4))
    (kk : ∀ ad' : Nat → Nat, (∀ v, v < h.length → ad' v = ad v) → pm_Pt p l e R s m args below meth c D cl A tk aC Q nL ad' (pc + 4, ls, .ref h.length :: r, h ++ pm_rows h n.toNatClampNeg k.toNatClampNeg, ce + 1 + n.toNatClampNeg, sl + n.toNatClampNeg + n.toNatClampNeg * k.toNatClampNeg)) : pm_Pt p l e R s m args below meth c D cl A tk aC Q nL ad (pc, ls, .int k :: .int n :: r, h, ce, sl) := by
  intro H locs lr hl hP hD hS
  obtain ⟨c1, c2, c3⟩ := pm_cl_s hc
  generalize hNe : n.toNatClampNeg = N at hN hR kk
  generalize hMe : k.toNatClampNeg = M at hM hR kk
  intro T hT Xs
  obtain ⟨V, cA, cB, hW, fA, fC, step⟩ := pm_multi Xs hx hown (hts _ hlk.1) (hts _ hlk.2.1) (hts _ hlk.2.2) (g := F0 m pc lr (.int k :: .int n :: r.map (pm_v ad tk))) rfl (by rw [hb]; exact hd) rfl hn hk (by rw [hNe]; exact hN) (by rw [hMe]; exact hM) (by rw [hNe]; exact hR.1) (by rw [hNe, hMe]; exact hR.2)
  cases Option.some.inj (fA.symm.trans (hK.2 5 _ (pm_tys_at rfl)).2)
  cases Option.some.inj (fC.symm.trans (hK.2 1 _ (pm_tys_at rfl)).2)
  rw [hNe, hMe] at step
  have X' := pm_grid_stand (Xs.noted hW) (aC 5) (aC 1) N M N
  have hTh : (T.setVm V).heap = H := hT
  obtain ⟨-, f1, -, f2, hold, hrow⟩ := pm_grid_at (T.setVm V) (aC 5) (aC 1) N M N
  generalize pm_grid (T.setVm V) (aC 5) (aC 1) N M N = F at X' step f1 f2 hold hrow
  rw [hTh] at f1 f2 hold hrow
  unfold pm_rw at f2
  obtain ⟨ad', hade⟩ : ∃ f : Nat → Nat, f = fun v => if v < h.length then ad v else H.size + (v - h.length) := ⟨_, rfl⟩
  have hag : ∀ v, v < h.length → ad' v = ad v := fun v hv => by rw [hade]; exact if_pos hv
  have hnew : ∀ j : Nat, ad' (h.length + j) = H.size + j := fun j => by
    rw [hade]
    show (if h.length + j < h.length then ad (h.length + j) else H.size + (h.length + j - h.length)) = _
    rw [if_neg (by omega), Nat.add_sub_cancel_left]
  have hP0 : va_P D cl (pm_w ad' tk aC h) F.heap := pm_P_ext hag c1 (hP.kept (fun k9 x hx => hold x.1 ((hP k9 x hx).lt)))
  have hcell : ∀ (j : Nat) (x : va_E), (pm_rows h N M)[j]? = some x → va_at D cl (H.size + j, pm_e ad' tk aC x) F.heap := by
    intro j x hj
    cases j with
    | zero =>
      cases hj
      show F.heap[H.size]? = some (vp_cell (aC 5) (N, .inr (.inr (.inr (.inr (fun i => (bif Nat.ble (i + 1) N then some (h.length + 1 + i) else none).map ad'))))))
      rw [f2, vp_cell_q]
      refine congrArg some (congrArg (arrV (aC 5) N) (funext fun i => ?_))
      by_cases q : i < N
      · rw [if_pos q, Nat.ble_eq_true_of_le q]
        show va_rf (some (H.size + 1 + i)) = va_rf (some (ad' (h.length + 1 + i)))
        have := hnew (1 + i)
        rw [← Nat.add_assoc] at this
        rw [this, Nat.add_assoc]
      · have hb9 : Nat.ble (i + 1) N = false := by
          cases hb9 : Nat.ble (i + 1) N with
          | false => rfl
          | true => exact absurd (Nat.le_of_ble_eq_true hb9) q
        rw [if_neg q, hb9]
        rfl
    | succ j =>
      have hj : (List.replicate N (pm_arr 1 M))[j]? = some x := hj
      have hlt : j < N := by
        have := (List.getElem?_eq_some_iff.mp hj).1
        rwa [List.length_replicate] at this
      rw [List.getElem?_replicate_of_lt hlt] at hj
      cases hj
      have := hrow j hlt
      rw [Nat.add_assoc, Nat.add_comm 1 j] at this
      exact this
  have hwa : ∀ (k9 : Nat) (q : Nat × va_E), (pm_w ad' tk aC (h ++ pm_rows h N M))[k9]? = some q → (k9 < h.length ∧ (pm_w ad' tk aC h)[k9]? = some q) ∨ ∃ j x, k9 = h.length + j ∧ (pm_rows h N M)[j]? = some x ∧ q = (H.size + j, pm_e ad' tk aC x) := by
    intro k9 q hq
    rw [pm_w_get] at hq
    by_cases hlt : k9 < h.length
    · rw [List.getElem?_append_left hlt] at hq
      exact Or.inl ⟨hlt, by rw [pm_w_get]; exact hq⟩
    · rw [List.getElem?_append_right (by omega)] at hq
      cases hx9 : (pm_rows h N M)[k9 - h.length]? with
      | none => rw [hx9] at hq; cases hq
      | some x =>
        rw [hx9] at hq
        cases hq
        have e9 : k9 = h.length + (k9 - h.length) := by omega
        refine Or.inr ⟨k9 - h.length, x, e9, hx9, ?_⟩
        rw [← hnew, ← e9]
  have w1 : va_P D cl (pm_w ad' tk aC (h ++ pm_rows h N M)) F.heap := by
    intro k9 q hq
    rcases hwa k9 q hq with ⟨-, h1⟩ | ⟨j, x, -, h2, rfl⟩
    · exact hP0 k9 q h1
    · exact hcell j x h2
  have hold2 : ∀ (k9 : Nat) (q : Nat × va_E), (pm_w ad' tk aC h)[k9]? = some q → ∃ q0, (pm_w ad tk aC h)[k9]? = some q0 ∧ q0.1 = q.1 := by
    intro k9 q hq
    rw [pm_w_get] at hq ⊢
    cases hx9 : h[k9]? with
    | none => rw [hx9] at hq; cases hq
    | some x =>
      rw [hx9] at hq
      cases hq
      exact ⟨_, rfl, (hag k9 (List.getElem?_eq_some_iff.mp hx9).1).symm⟩
  have w2 : va_D A (pm_w ad' tk aC (h ++ pm_rows h N M)) := by
    refine ⟨fun i j x y hi hj e9 => ?_, fun k9 q hq => ?_⟩
    · rcases hwa i x hi with ⟨-, h1⟩ | ⟨j1, x1, e1, -, rfl⟩
      · obtain ⟨x0, g1, g2⟩ := hold2 i x h1
        rcases hwa j y hj with ⟨-, h3⟩ | ⟨j2, x2, e2, -, rfl⟩
        · obtain ⟨y0, g3, g4⟩ := hold2 j y h3
          exact hD.1 i j x0 y0 g1 g3 (by rw [g2, g4]; exact e9)
        · have := (hP i x0 g1).lt
          rw [g2, e9] at this
          dsimp only at this
          omega
      · rcases hwa j y hj with ⟨-, h3⟩ | ⟨j2, x2, e2, -, rfl⟩
        · obtain ⟨y0, g3, g4⟩ := hold2 j y h3
          have := (hP j y0 g3).lt
          rw [g4, ← e9] at this
          dsimp only at this
          omega
        · dsimp only at e9
          omega
    · rcases hwa k9 q hq with ⟨-, h1⟩ | ⟨j, x, -, -, rfl⟩
      · obtain ⟨q0, g1, g2⟩ := hold2 k9 q h1
        rw [← g2]
        exact hD.2 k9 q0 g1
      · exact hA _ (Nat.le_trans hS.1 (Nat.le_add_right _ _))
  have w3 : va_S A s.heap F.heap locs := ⟨Nat.le_trans hS.1 (by rw [f1]; omega), fun q h1 h2 => by rw [hold q (Nat.lt_of_lt_of_le h1 hS.1)]; exact hS.2.1 q h1 h2, hS.2.2⟩
  have k2 := kk ad' hag F.heap locs lr (hl.ext hag c2) w1 w2 w3
  have e1 : (Value.ref h.length :: r).map (pm_v ad' tk) = .ref H.size :: r.map (pm_v ad tk) := by
    rw [List.map_cons, pm_st_ext hag c3]
    congr 1
    show Value.ref (ad' h.length) = .ref H.size
    have := hnew 0
    rw [Nat.add_zero, Nat.add_zero] at this
    rw [this]
  have k3 : W p l e R s m args below meth c F.heap locs (ce + 1 + N) (sl + N + N * M) Q (F0 m (pc + 4) lr ((Value.ref h.length :: r).map (pm_v ad' tk))) := k2
  rw [e1] at k3
  obtain ⟨t, a1, b1⟩ := k3 F rfl X'
  refine ⟨t, ?_, b1⟩
  subst hT
  exact step t a1
end PMM
