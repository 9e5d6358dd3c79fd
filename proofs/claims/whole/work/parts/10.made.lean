/-! .. seventh piece: what is made. A new cell gets the next place of the pure heap; where it lies is added to ad. -/
theorem pm_D_same {A : Nat → Prop} {ws ws' : va_W} (h : ∀ k : Nat, (ws'[k]?).map (·.1) = (ws[k]?).map (·.1)) (hD : va_D A ws) : va_D A ws' := by
  have at' : ∀ (k : Nat) (q' : Nat × va_E), ws'[k]? = some q' → ∃ q, ws[k]? = some q ∧ q.1 = q'.1 := by
    intro k q' hk
    have h1 := h k
    rw [hk] at h1
    cases hq : ws[k]? with
    | none => rw [hq] at h1; cases h1
    | some q => rw [hq] at h1; exact ⟨q, rfl, (Option.some.inj h1).symm⟩
  refine ⟨fun i j p q hi hj e => ?_, fun k q hk => ?_⟩
  · obtain ⟨p1, a1, a2⟩ := at' i p hi
    obtain ⟨q1, b1, b2⟩ := at' j q hj
    exact hD.1 i j p1 q1 a1 b1 (by rw [a2, b2]; exact e)
  · obtain ⟨q1, b1, b2⟩ := at' k q hk
    rw [← b2]
    exact hD.2 k q1 b1
theorem pm_v_ext {ad ad' tk : Nat → Nat} {n : Nat} (hag : ∀ v, v < n → ad' v = ad v) {v : Value} (h : pm_cv n v = true) : pm_v ad' tk v = pm_v ad tk v := by
  cases v <;> try rfl
  rename_i a
  show Value.ref (ad' a) = Value.ref (ad a)
  rw [hag a (Nat.le_of_ble_eq_true h)]
theorem pm_st_ext {ad ad' tk : Nat → Nat} {n : Nat} (hag : ∀ v, v < n → ad' v = ad v) {st : List Value} (h : st.all (pm_cv n) = true) : st.map (pm_v ad' tk) = st.map (pm_v ad tk) :=
  List.map_congr_left fun v hv => pm_v_ext hag (List.all_eq_true.mp h v hv)
theorem pm_LH.ext {ad ad' tk : Nat → Nat} {n nL : Nat} {lr : Array Slot} {ls : pm_V} (hag : ∀ v, v < n → ad' v = ad v) (h : (ls.all fun o => match o with
    | some v => pm_cv n v
    | none => true) = true) (hl : pm_LH ad tk lr nL ls) : pm_LH ad' tk lr nL ls := by
  refine ⟨hl.1, hl.2.1, hl.2.2.1, fun k v hk => ?_⟩
  have h1 := List.all_eq_true.mp h (some v) (List.mem_of_getElem? hk)
  rw [pm_v_ext hag h1]
  exact hl.2.2.2 k v hk
theorem pm_at_ext {D : va_G} {cl : List vw_C} {ad ad' tk aC : Nat → Nat} {n a : Nat} {x : va_E} {H : Heap} (hag : ∀ v, v < n → ad' v = ad v) (hc : pm_cE n x = true) (h : va_at D cl (a, pm_e ad tk aC x) H) : va_at D cl (a, pm_e ad' tk aC x) H := by
  match x, hc, h with
  | .inl (t, m, .inl f), _, h => exact h
  | .inl (t, m, .inr (.inl f)), _, h => exact h
  | .inl (t, m, .inr (.inr (.inl f))), _, h => exact h
  | .inl (t, m, .inr (.inr (.inr (.inl f)))), _, h => exact h
  | .inl (t, m, .inr (.inr (.inr (.inr f)))), hc, h =>
    have h : H[a]? = some (arrV (aC t) m (fun j => va_rf ((f j).map ad))) := h
    show H[a]? = some (arrV (aC t) m (fun j => va_rf ((f j).map ad')))
    rw [h]
    congr 1
    unfold arrV
    congr 1
    congr 1
    funext j
    have h1 := List.all_eq_true.mp hc j.val (List.mem_range.mpr j.isLt)
    show va_rf ((f j.val).map ad) = va_rf ((f j.val).map ad')
    cases hj : f j.val with
    | none => rfl
    | some b =>
      rw [hj] at h1
      show va_rf (some (ad b)) = va_rf (some (ad' b))
      rw [hag b (Nat.le_of_ble_eq_true h1)]
  | .inr (ci, fs), hc, h =>
    have e : fs.map (pm_v ad' tk) = fs.map (pm_v ad tk) := pm_st_ext hag hc
    show va_at D cl (a, .inr (ci, fs.map (pm_v ad' tk))) H
    rw [e]
    exact h
theorem pm_P_ext {D : va_G} {cl : List vw_C} {ad ad' tk aC : Nat → Nat} {h : pm_H} {H : Heap} (hag : ∀ v, v < h.length → ad' v = ad v) (hc : h.all (pm_cE h.length) = true) (hP : va_P D cl (pm_w ad tk aC h) H) : va_P D cl (pm_w ad' tk aC h) H := by
  intro k q hk
  rw [pm_w_get] at hk
  cases hx : h[k]? with
  | none => rw [hx] at hk; cases hk
  | some x =>
    rw [hx] at hk
    cases hk
    have hlt := (List.getElem?_eq_some_iff.mp hx).1
    rw [hag k hlt]
    exact pm_at_ext hag (List.all_eq_true.mp hc x (List.mem_of_getElem? hx)) (hP k _ (pm_w_at hx))
theorem pm_w_app (ad tk aC : Nat → Nat) (h : pm_H) (x : va_E) : pm_w ad tk aC (h ++ [x]) = pm_w ad tk aC h ++ [(ad h.length, pm_e ad tk aC x)] := by
  unfold pm_w
  rw [List.mapIdx_append]
  simp
theorem pm_w_len (ad tk aC : Nat → Nat) (h : pm_H) : (pm_w ad tk aC h).length = h.length := by
  unfold pm_w
  exact List.length_mapIdx
/-- the world with one more cell, at q -/
theorem pm_grow {D : va_G} {cl : List vw_C} {ad tk aC : Nat → Nat} {h : pm_H} {H1 : Heap} {q : Nat} {x x' : va_E} {A : Nat → Prop} (hc : h.all (pm_cE h.length) = true)
    (hx : pm_e (fun v => if v = h.length then q else ad v) tk aC x = x') (hP : va_P D cl (pm_w ad tk aC h ++ [(q, x')]) H1) (hD : va_D A (pm_w ad tk aC h ++ [(q, x')])) :
    va_P D cl (pm_w (fun v => if v = h.length then q else ad v) tk aC (h ++ [x])) H1 ∧ va_D A (pm_w (fun v => if v = h.length then q else ad v) tk aC (h ++ [x])) := by
  have hag : ∀ v, v < h.length → (fun v => if v = h.length then q else ad v) v = ad v := fun v hv => if_neg (by omega)
  have hP0 : va_P D cl (pm_w ad tk aC h) H1 := fun k z hk => hP k z (by rw [List.getElem?_append_left (List.getElem?_eq_some_iff.mp hk).1]; exact hk)
  have hP1 : va_P D cl [(q, x')] H1 := fun k z hk => hP ((pm_w ad tk aC h).length + k) z (by rw [List.getElem?_append_right (Nat.le_add_right _ _), Nat.add_sub_cancel_left]; exact hk)
  have e : pm_w (fun v => if v = h.length then q else ad v) tk aC (h ++ [x]) = pm_w (fun v => if v = h.length then q else ad v) tk aC h ++ [(q, x')] := by
    rw [pm_w_app, hx]
    congr 3
    exact if_pos rfl
  refine ⟨by rw [e]; exact va_P.app (pm_P_ext hag hc hP0) hP1, pm_D_same (fun k => ?_) hD⟩
  rw [e]
  by_cases hk : k < h.length
  · rw [List.getElem?_append_left (by rw [pm_w_len]; exact hk), List.getElem?_append_left (by rw [pm_w_len]; exact hk), pm_w_get, pm_w_get]
    cases h[k]? with
    | none => rfl
    | some y =>
      show some ((fun v => if v = h.length then q else ad v) k) = some (ad k)
      rw [hag k hk]
  · rw [List.getElem?_append_right (by rw [pm_w_len]; omega), List.getElem?_append_right (by rw [pm_w_len]; omega), pm_w_len, pm_w_len]
section PMN
variable {p : Program} {l : Launch} {e : Env} {R : Room} {s : State} {m : MethodId} {args : Array Value} {below : List Frame} {meth : Method} {c : Code} {Q : State → Prop} {cc : ByteArray} {pc nL ce sl : Nat} {ad tk aC : Nat → Nat} {ls : pm_V} {r : List Value} {h : pm_H} {D : va_G} {cl : List vw_C} {A : Nat → Prop} {Ts : List Cond} {own : String}
/-- an object's link: its class, the values that its fields begin with -/
def pm_lkN (own : String) (Ts : List Cond) (cl : List vw_C) (Dv : Nat → List Value) (index ci : Nat) : Prop :=
  ∃ (C : String) (T : u_T) (N : Nat) (ty0 : Nat → FieldType), cl[ci]? = some (C, T, N) ∧ (∀ w ∈ u_ws C T N, w ∈ Ts) ∧ (∀ k, k < N → parseFieldDescriptor (T k).2.2.1 = some (ty0 k)) ∧ Cond.classLink own index C ∈ Ts ∧ Cond.instantiable C N ∈ Ts ∧ Cond.initialized C ∈ Ts ∧ (∀ j, j < N → defaultValue (ty0 j) = vp_V (Dv ci) j) ∧ (Dv ci).length = N ∧ (∀ v ∈ Dv ci, ∀ ad tk : Nat → Nat, pm_v ad tk v = v)
theorem pm_cl_s {h : pm_H} {ls : pm_V} {st : List Value} (hc : pm_cl h ls st = true) : h.all (pm_cE h.length) = true ∧ (ls.all fun o => match o with
    | some v => pm_cv h.length v
    | none => true) = true ∧ st.all (pm_cv h.length) = true := by
  unfold pm_cl at hc
  rw [Bool.and_eq_true, Bool.and_eq_true] at hc
  exact hc
theorem pm_ok_new (hx : p.tables.exec = Jvm.exec) (hb : c.code = cc) (hts : ∀ w ∈ Ts, w.before args s = true) (hown : s.vm.findClass own = some m.cls) (hK : va_K D cl (pm_tys aC) s) (hA : ∀ q, s.heap.size ≤ q → A q) {Dv : Nat → List Value} {index ci : Nat} (hlk : pm_lkN own Ts cl Dv index ci) (hc : pm_cl h ls r = true) (hR : ce + 1 ≤ R.cells ∧ sl + (Dv ci).length ≤ R.slots) (hd : decode cc pc = .ok (.new index, 3))
    (kk : ∀ ad' : Nat → Nat, (∀ v, v < h.length → ad' v = ad v) → pm_Pt p l e R s m args below meth c D cl A tk aC Q nL ad' (pc + 3, ls, .ref h.length :: r, h ++ [.inr (ci, Dv ci)], ce + 1, sl + (Dv ci).length)) : pm_Pt p l e R s m args below meth c D cl A tk aC Q nL ad (pc, ls, r, h, ce, sl) := by
  intro H locs lr hl hP hD hS
  obtain ⟨C, T, N, ty0, g1, g2, g3, g4, g5, g6, g7, g8, g9⟩ := hlk
  obtain ⟨c1, c2, c3⟩ := pm_cl_s hc
  refine va_new (fs := Dv ci) hx hb hts g2 ty0 g3 hown (hts _ g4) (hts _ g5) (hts _ g6) hK hP hD hS hA g1 g7 hR.1 (by rw [← g8]; exact hR.2) hd fun q H1 q1 q2 q3 => ?_
  have hag : ∀ v, v < h.length → (fun v => if v = h.length then q else ad v) v = ad v := fun v hv => if_neg (by omega)
  have hxe : pm_e (fun v => if v = h.length then q else ad v) tk aC (.inr (ci, Dv ci)) = .inr (ci, Dv ci) := by
    show Sum.inr (ci, (Dv ci).map (pm_v (fun v => if v = h.length then q else ad v) tk)) = Sum.inr (ci, Dv ci)
    rw [List.map_congr_left (g := id) fun v hv => g9 v hv _ _, List.map_id]
  obtain ⟨w1, w2⟩ := pm_grow (x := .inr (ci, Dv ci)) c1 hxe q1 q2
  have k2 := kk (fun v => if v = h.length then q else ad v) hag H1 locs lr (hl.ext hag c2) w1 w2 q3
  have e1 : (Value.ref h.length :: r).map (pm_v (fun v => if v = h.length then q else ad v) tk) = .ref q :: r.map (pm_v ad tk) := by
    rw [List.map_cons, pm_st_ext hag c3]
    congr 1
    show Value.ref (if h.length = h.length then q else ad h.length) = .ref q
    rw [if_pos rfl]
  have k3 : W p l e R s m args below meth c H1 locs (ce + 1) (sl + (Dv ci).length) Q (F0 m (pc + 3) lr ((Value.ref h.length :: r).map (pm_v (fun v => if v = h.length then q else ad v) tk))) := k2
  rw [e1, g8] at k3
  exact k3
/-- two classes of arrays of one type are one -/
theorem pm_aC_eq {D : va_G} {cl : List vw_C} {aC : Nat → Nat} {s : State} {t : Nat} {ty : FieldType} {cA : ClassId} (ht : pm_tyl[t]? = some ty) (hK : va_K D cl (pm_tys aC) s) (hK2 : va_K D cl (pm_tys aC ++ [(cA, ty)]) s) : cA = aC t := by
  have h1 := (hK.2 t _ (pm_tys_at ht)).2
  have h2 := (hK2.2 (pm_tys aC).length (cA, ty) (by rw [List.getElem?_append_right (Nat.le_refl _), Nat.sub_self]; rfl)).2
  have key : ∀ (a b : ClassId), va_RA s a ty → va_RA s b ty → a = b := by
    intro a b q1 q2
    cases ty with
    | object C =>
      obtain ⟨_, _, -, -, -, e1⟩ := q1
      obtain ⟨_, _, -, -, -, e2⟩ := q2
      exact Option.some.inj (e1.symm.trans e2)
    | _ => exact Option.some.inj (Eq.trans (Eq.symm q1) q2)
  exact key _ _ h2 h1
/-- what a new array's cell looks like, whatever its class -/
theorem pm_arr_e {t n : Nat} {ty : FieldType} (ht : pm_tyl[t]? = some ty) : ∃ a0 : vp_A, (∀ ad tk aC : Nat → Nat, pm_e ad tk aC (pm_arr t n) = .inl (aC t, a0)) ∧ (∀ cA : ClassId, vp_cell cA a0 = arrV cA n (fun _ => defaultValue ty)) ∧ (5 ≤ t → a0 = (n, .inr (.inr (.inr (.inr (fun _ => none)))))) := by
  match t, ht with
  | 0, ht => cases ht; exact ⟨_, fun _ _ _ => rfl, fun _ => rfl, fun h => absurd h (by decide)⟩
  | 1, ht => cases ht; exact ⟨_, fun _ _ _ => rfl, fun _ => rfl, fun h => absurd h (by decide)⟩
  | 2, ht => cases ht; exact ⟨_, fun _ _ _ => rfl, fun _ => rfl, fun h => absurd h (by decide)⟩
  | 3, ht => cases ht; exact ⟨_, fun _ _ _ => rfl, fun _ => rfl, fun h => absurd h (by decide)⟩
  | 4, ht => cases ht; exact ⟨_, fun _ _ _ => rfl, fun _ => rfl, fun h => absurd h (by decide)⟩
  | 5, ht => cases ht; exact ⟨_, fun _ _ _ => rfl, fun _ => rfl, fun _ => rfl⟩
  | 6, ht => cases ht; exact ⟨_, fun _ _ _ => rfl, fun _ => rfl, fun _ => rfl⟩
  | 7, ht => cases ht; exact ⟨_, fun _ _ _ => rfl, fun _ => rfl, fun _ => rfl⟩
  | k + 8, ht => simp [pm_tyl] at ht
/-- an array's link -/
def pm_lkA (own : String) (Ts : List Cond) (i : Instr) (t : Nat) : Prop := match i with
  | .newarray at_ => pm_tyl[t]? = some (newarray.typeOf at_) ∧ Cond.arrayClass (newarray.typeOf at_) ∈ Ts ∧ componentBytes (newarray.typeOf at_) ≤ 8
  | .anewarray k => ∃ C, 5 ≤ t ∧ pm_tyl[t]? = some (.object C) ∧ Cond.classLink own k C ∈ Ts ∧ Cond.arrayOver (.object C) ∈ Ts
  | _ => False
theorem pm_ok_newa (hx : p.tables.exec = Jvm.exec) (hb : c.code = cc) (hts : ∀ w ∈ Ts, w.before args s = true) (hown : s.vm.findClass own = some m.cls) (hK : va_K D cl (pm_tys aC) s) (hA : ∀ q, s.heap.size ≤ q → A q) {i : Instr} {t : Nat} {n : Int32} (hlk : pm_lkA own Ts i t) (hc : pm_cl h ls r = true) (hn : ¬ n < 0) (hN : n.toNatClampNeg ≤ 100000) (hR : ce + 1 ≤ R.cells ∧ sl + n.toNatClampNeg ≤ R.slots) (hd : decode cc pc = .ok (i, pm_ilen i))
    (kk : ∀ ad' : Nat → Nat, (∀ v, v < h.length → ad' v = ad v) → pm_Pt p l e R s m args below meth c D cl A tk aC Q nL ad' (pc + pm_ilen i, ls, .ref h.length :: r, h ++ [pm_arr t n.toNatClampNeg], ce + 1, sl + n.toNatClampNeg)) : pm_Pt p l e R s m args below meth c D cl A tk aC Q nL ad (pc, ls, .int n :: r, h, ce, sl) := by
  intro H locs lr hl hP hD hS
  obtain ⟨c1, c2, c3⟩ := pm_cl_s hc
  have fin : ∀ (q : Nat) (H1 : Heap) (a0 : vp_A), (∀ ad tk aC : Nat → Nat, pm_e ad tk aC (pm_arr t n.toNatClampNeg) = .inl (aC t, a0)) → va_P D cl (pm_w ad tk aC h ++ [(q, .inl (aC t, a0))]) H1 → va_D A (pm_w ad tk aC h ++ [(q, .inl (aC t, a0))]) → va_S A s.heap H1 locs →
      W p l e R s m args below meth c H1 locs (ce + 1) (sl + n.toNatClampNeg) Q (F0 m (pc + pm_ilen i) lr (.ref q :: r.map (pm_v ad tk))) := by
    intro q H1 a0 ha q1 q2 q3
    have hag : ∀ v, v < h.length → (fun v => if v = h.length then q else ad v) v = ad v := fun v hv => if_neg (by omega)
    obtain ⟨w1, w2⟩ := pm_grow (x := pm_arr t n.toNatClampNeg) c1 (ha _ tk aC) q1 q2
    have k2 := kk (fun v => if v = h.length then q else ad v) hag H1 locs lr (hl.ext hag c2) w1 w2 q3
    have e1 : (Value.ref h.length :: r).map (pm_v (fun v => if v = h.length then q else ad v) tk) = .ref q :: r.map (pm_v ad tk) := by
      rw [List.map_cons, pm_st_ext hag c3]
      congr 1
      show Value.ref (if h.length = h.length then q else ad h.length) = .ref q
      rw [if_pos rfl]
    have k3 : W p l e R s m args below meth c H1 locs (ce + 1) (sl + n.toNatClampNeg) Q (F0 m (pc + pm_ilen i) lr ((Value.ref h.length :: r).map (pm_v (fun v => if v = h.length then q else ad v) tk))) := k2
    rw [e1] at k3
    exact k3
  unfold pm_lkA at hlk
  split at hlk
  · rename_i at_
    obtain ⟨g1, g2, g3⟩ := hlk
    obtain ⟨a0, e1, e2, -⟩ := pm_arr_e (n := n.toNatClampNeg) g1
    refine va_newa hx hb (hts _ g2) rfl hK hP hD hS hA (a0 := a0) e2 hn rfl ?_ hR.1 hR.2 hd fun q cA H1 q0 q1 q2 q3 => ?_
    · exact Nat.le_trans (Nat.mul_le_mul hN g3) (by decide)
    · have e3 := pm_aC_eq g1 hK q0
      subst e3
      exact fin q H1 a0 e1 q1 q2 q3
  · obtain ⟨C, g0, g1, g2, g3⟩ := hlk
    obtain ⟨a0, e1, -, e2⟩ := pm_arr_e (n := n.toNatClampNeg) g1
    have e2 := e2 g0
    subst e2
    refine va_newq hx hb hown (hts _ g2) (va_AO.of (hts _ g3)) hK hP hD hS hA hn rfl ?_ hR.1 hR.2 hd fun q cA H1 q0 q1 q2 q3 => ?_
    · exact Nat.le_trans (Nat.mul_le_mul hN (Nat.le_refl 4)) (by decide)
    · have e3 := pm_aC_eq g1 hK q0
      subst e3
      exact fin q H1 _ e1 q1 q2 q3
  · exact hlk.elim
end PMN
