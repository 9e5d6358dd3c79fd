/-! .. sixth piece: given arrays, constants, what the machine knows by itself, switches. -/
theorem pm_wt_sum : ∀ st : List Value, (st.map fun v => v.category).sum = pm_wt st
  | [] => rfl
  | v :: r => by
    show ((v :: r).map fun v => v.category).sum = v.category + pm_wt r
    rw [List.map_cons, List.sum_cons, pm_wt_sum r]
theorem pm_wt_v (ad tk : Nat → Nat) (st : List Value) : ((st.map (pm_v ad tk)).map fun v => v.category).sum = pm_wt st := by
  rw [← pm_wt_sum, List.map_map]
  congr 1
  exact List.map_congr_left fun v _ => pm_v_cat ad tk v
/-- the given arrays lie where tk says, outside of A -/
def pm_TK (X : pm_X) (tk : Nat → Nat) (A : Nat → Prop) (s : State) : Prop := ∀ t : Nat, t ≤ 1 → va_T .int (tk t) (X t).1 (fun j => .int ((X t).2 j)) A s s.heap
/-- a constant's link -/
def pm_lkC (own : String) (Ts : List Cond) (i : Instr) (v : Value) : Prop := match i, v with
  | .ldc k, .int x => Cond.constant own k x ∈ Ts
  | .ldc_w k, .int x => Cond.constant own k x ∈ Ts
  | .ldc2_w k, .long x => Cond.constantLong own k x ∈ Ts
  | .ldc2_w k, .double x => Cond.constantDouble own k x ∈ Ts
  | .getstatic k, .retAddr 1 => Cond.fieldLink own k "SegmentDesk" "ELEMENT_BITS" "[I" ∈ Ts ∨ ∃ host, Cond.fieldLinkNest own k "SegmentDesk" "ELEMENT_BITS" "[I" host ∈ Ts
  | _, _ => False
section PMX
variable {p : Program} {l : Launch} {e : Env} {R : Room} {s : State} {m : MethodId} {args : Array Value} {below : List Frame} {meth : Method} {c : Code} {Q : State → Prop} {cc : ByteArray} {pc nL ce sl : Nat} {ad tk aC : Nat → Nat} {ls : pm_V} {r : List Value} {h : pm_H} {D : va_G} {cl : List vw_C} {A : Nat → Prop} {Ts : List Cond} {own : String} {X : pm_X}
theorem pm_ok_xld (hx : p.tables.exec = Jvm.exec) (hb : c.code = cc) (hT : pm_TK X tk A s) {t : Nat} {i : Int32} {v : Value} (hv : pm_xld X t i = some v) (hd : decode cc pc = .ok (.iaload, 1))
    (kk : pm_Pt p l e R s m args below meth c D cl A tk aC Q nL ad (pc + 1, ls, v :: r, h, ce, sl)) : pm_Pt p l e R s m args below meth c D cl A tk aC Q nL ad (pc, ls, .int i :: .retAddr t :: r, h, ce, sl) := by
  intro H locs lr hl hP hD hS
  have k2 := kk H locs lr hl hP hD hS
  obtain ⟨h1, rfl⟩ := pm_cnd hv
  rw [Bool.and_eq_true] at h1
  exact va_ti hx hb (hT t (Nat.le_of_ble_eq_true h1.1)) hS (pm_in_s h1.2) rfl hd k2
theorem pm_ok_xlen (hx : p.tables.exec = Jvm.exec) (hb : c.code = cc) (hT : pm_TK X tk A s) {t : Nat} (ht : t ≤ 1) (hd : decode cc pc = .ok (.arraylength, 1))
    (kk : pm_Pt p l e R s m args below meth c D cl A tk aC Q nL ad (pc + 1, ls, .int (Int32.ofNat (X t).1) :: r, h, ce, sl)) : pm_Pt p l e R s m args below meth c D cl A tk aC Q nL ad (pc, ls, .retAddr t :: r, h, ce, sl) := by
  intro H locs lr hl hP hD hS
  exact va_tlen hx hb (hT t ht) hS rfl hd (kk H locs lr hl hP hD hS)
theorem pm_ok_alen (hx : p.tables.exec = Jvm.exec) (hb : c.code = cc) (hK : va_K D cl (pm_tys aC) s) {a n : Nat} (hn : pm_len h a = some n) (hd : decode cc pc = .ok (.arraylength, 1))
    (kk : pm_Pt p l e R s m args below meth c D cl A tk aC Q nL ad (pc + 1, ls, .int (Int32.ofNat n) :: r, h, ce, sl)) : pm_Pt p l e R s m args below meth c D cl A tk aC Q nL ad (pc, ls, .ref a :: r, h, ce, sl) := by
  intro H locs lr hl hP hD hS
  have k2 := kk H locs lr hl hP hD hS
  unfold pm_len at hn
  split at hn
  · rename_i t n' x hg
    obtain ⟨h1, rfl⟩ := pm_cnd hn
    have h1 := Nat.le_of_ble_eq_true h1
    obtain ⟨ty, hty⟩ : ∃ ty, pm_tyl[t]? = some ty := ⟨_, List.getElem?_eq_getElem (show t < pm_tyl.length from Nat.lt_succ_of_le h1)⟩
    have key : ∃ x' : vp_A, pm_e ad tk aC (.inl (t, n', x)) = .inl (aC t, x') ∧ x'.1 = n' := by
      match x with
      | .inl f => exact ⟨_, rfl, rfl⟩
      | .inr (.inl f) => exact ⟨_, rfl, rfl⟩
      | .inr (.inr (.inl f)) => exact ⟨_, rfl, rfl⟩
      | .inr (.inr (.inr (.inl f))) => exact ⟨_, rfl, rfl⟩
      | .inr (.inr (.inr (.inr f))) => exact ⟨_, rfl, rfl⟩
    obtain ⟨x', e1, e2⟩ := key
    have hw := pm_w_at (ad := ad) (tk := tk) (aC := aC) hg
    rw [e1] at hw
    exact va_alen hx hb hK hP a t hw (pm_tys_at hty) (by rw [e2]) hd k2
  · cases hn
theorem pm_ok_const (hx : p.tables.exec = Jvm.exec) (hb : c.code = cc) (hts : ∀ w ∈ Ts, w.before args s = true) (hown : s.vm.findClass own = some m.cls) (hZ : va_Z "SegmentDesk" "ELEMENT_BITS" "[I" (.ref (tk 1)) A s s.heap) {i : Instr} {v : Value} (hlk : pm_lkC own Ts i v) (hd : decode cc pc = .ok (i, pm_ilen i))
    (kk : pm_Pt p l e R s m args below meth c D cl A tk aC Q nL ad (pc + pm_ilen i, ls, v :: r, h, ce, sl)) : pm_Pt p l e R s m args below meth c D cl A tk aC Q nL ad (pc, ls, r, h, ce, sl) := by
  intro H locs lr hl hP hD hS
  have k2 := kk H locs lr hl hP hD hS
  unfold pm_lkC at hlk
  split at hlk
  · exact lv_ldc hx hb hown (hts _ hlk) hd k2
  · exact lv_ldcw hx hb hown (hts _ hlk) hd k2
  · exact lv_ldc2 hx hb hown (hts _ hlk) hd k2
  · exact lv_ldc2d hx hb hown (hts _ hlk) hd k2
  · rcases hlk with hw | ⟨host, hw⟩
    · exact va_gets hx hb hZ hS hown (hts _ hw) (fun _ h9 => h9) hd k2
    · exact va_getsN hx hb hZ hS hown (hts _ hw) (fun _ h9 => h9) hd k2
  · exact hlk.elim
theorem pm_ok_obj (hx : p.tables.exec = Jvm.exec) (hb : c.code = cc) (hml : c.maxLocals = nL) (hts : ∀ w ∈ Ts, w.before args s = true) (hown : s.vm.findClass own = some m.cls) {index a : Nat} (hlk : Cond.methodLink own index objectInit ∈ Ts ∧ Cond.instanceMethod objectInit ∈ Ts ∧ Cond.code objectInit ⟨#[0xb1]⟩ 1 none ∈ Ts) (hR : 1 ≤ R.frames ∧ 20 ≤ R.locals) (hw : pm_wt r ≤ 8) (hd : decode cc pc = .ok (.invokespecial index, 3))
    (kk : pm_Pt p l e R s m args below meth c D cl A tk aC Q nL ad (pc + 3, ls, r, h, ce, sl)) : pm_Pt p l e R s m args below meth c D cl A tk aC Q nL ad (pc, ls, .ref a :: r, h, ce, sl) := by
  intro H locs lr hl hP hD hS
  have k2 := kk H locs lr hl hP hD hS
  refine W.objInit hx hb hown (hts _ hlk.1) (hts _ hlk.2.1) (hts _ hlk.2.2) rfl (by rw [hml]; exact hl.1) (rest := r.map (pm_v ad tk)) rfl hd hR.1 ?_ k2
  have h0 : 2 * (F0 m pc lr (((Value.ref a :: r).map (pm_v ad tk)))).monitorRoom + ((r.map (pm_v ad tk)).map fun v => v.category).sum ≤ 8 := lv_room (by rw [pm_wt_v]; exact hw)
  show 2 * (F0 m pc lr (((Value.ref a :: r).map (pm_v ad tk)))).monitorRoom + ((r.map (pm_v ad tk)).map fun v => v.category).sum + 12 ≤ R.locals
  omega
theorem pm_cpy_s {h h' : pm_H} {a0 a : Nat} {sp dp n : Int32} (hv : pm_cpy h a0 sp a dp n = some h') : ∃ (n0 n1 : Nat) (f g : Nat → Int64), h[a0]? = some (.inl (1, n0, .inr (.inl f))) ∧ h[a]? = some (.inl (1, n1, .inr (.inl g))) ∧ ¬ sp < 0 ∧ ¬ dp < 0 ∧ ¬ n < 0 ∧ sp.toNatClampNeg + n.toNatClampNeg ≤ n0 ∧ dp.toNatClampNeg + n.toNatClampNeg ≤ n1 ∧ h' = h.set a (.inl (1, n1, .inr (.inl (va_cpy f g sp.toNatClampNeg dp.toNatClampNeg n.toNatClampNeg)))) := by
  unfold pm_cpy at hv
  split at hv
  · rename_i n0 f n1 g h1 h2
    obtain ⟨h3, h4⟩ := pm_cnd hv
    simp only [Bool.and_eq_true, Bool.not_eq_true', decide_eq_false_iff_not] at h3
    exact ⟨n0, n1, f, g, h1, h2, h3.1, h3.2.1, h3.2.2.1, Nat.le_of_ble_eq_true h3.2.2.2.1, Nat.le_of_ble_eq_true h3.2.2.2.2, h4.symm⟩
  · cases hv
theorem pm_ok_cpy (hx : p.tables.exec = Jvm.exec) (hb : c.code = cc) (hml : c.maxLocals = nL) (hts : ∀ w ∈ Ts, w.before args s = true) (hown : s.vm.findClass own = some m.cls) (hK : va_K D cl (pm_tys aC) s) {index a a0 : Nat} {sp dp n : Int32} {h' : pm_H} (hlk : Cond.methodLink own index arraycopyName ∈ Ts ∧ Cond.native arraycopyName ∈ Ts ∧ Cond.static arraycopyName ∈ Ts ∧ Cond.initialized "java/lang/System" ∈ Ts) (hR : 1 ≤ R.frames ∧ 8 + (nativeFrameWords "java/lang/System" "arraycopy" 5 + 11) ≤ R.locals) (hw : pm_wt r ≤ 8) (hv : pm_cpy h a0 sp a dp n = some h') (hd : decode cc pc = .ok (.invokestatic index, 3))
    (kk : pm_Pt p l e R s m args below meth c D cl A tk aC Q nL ad (pc + 3, ls, r, h', ce, sl)) : pm_Pt p l e R s m args below meth c D cl A tk aC Q nL ad (pc, ls, .int n :: .int dp :: .ref a :: .int sp :: .ref a0 :: r, h, ce, sl) := by
  intro H locs lr hl hP hD hS
  obtain ⟨n0, n1, f, g, h1, h2, h3, h4, h5, h6, h7, rfl⟩ := pm_cpy_s hv
  have hsum := pm_wt_v ad tk r
  exact va_copyl hx hb (by rw [hml]; exact hl.1.symm) hown (hts _ hlk.1) (hts _ hlk.2.1) (hts _ hlk.2.2.1) (hts _ hlk.2.2.2) hK hP hD hS a0 a 1 1 (pm_w_at h1) (pm_w_at h2) (pm_tys_at rfl) (pm_tys_at rfl) rfl h3 h4 h5 h6 h7 (fun _ _ => rfl) hR.1 (by omega) hd
    fun H1 locs1 q1 q2 q3 => kk H1 locs1 lr hl (by rw [pm_w_set]; exact q1) (by rw [pm_w_set]; exact q2) q3
/-- a switch's link: the targets, by the offsets -/
def pm_lkT (pc : Nat) (i : Instr) (L : List Nat) : Prop := match i, L with
  | .tableswitch df lo hi offs, d :: ts => (pc : Int) + df = (d : Int) ∧ (hi - lo + 1).toNat = ts.length ∧ lo ≤ hi ∧ ∀ j : Nat, j < ts.length → ∃ off, offs[j]? = some off ∧ (pc : Int) + off = ((ts.getD j d : Nat) : Int)
  | _, _ => False
theorem pm_ok_tab (hx : p.tables.exec = Jvm.exec) (hb : c.code = cc) {df lo hi : Int} {offs : Array Int} {len d : Nat} {ts : List Nat} {x : Int32} (hlk : pm_lkT pc (.tableswitch df lo hi offs) (d :: ts)) (hd : decode cc pc = .ok (.tableswitch df lo hi offs, len))
    (kk : pm_Pt p l e R s m args below meth c D cl A tk aC Q nL ad (bif decide (x.toInt < lo) then d else ts.getD (x.toInt - lo).toNat d, ls, r, h, ce, sl)) : pm_Pt p l e R s m args below meth c D cl A tk aC Q nL ad (pc, ls, .int x :: r, h, ce, sl) := by
  intro H locs lr hl hP hD hS
  have k2 := kk H locs lr hl hP hD hS
  obtain ⟨h1, h2, h3, h4⟩ := hlk
  by_cases q : x.toInt < lo
  · rw [decide_eq_true q] at k2
    exact lv_tableOut hx hb hd (Or.inl q) h1 k2
  · rw [decide_eq_false q] at k2
    by_cases q2 : hi < x.toInt
    · have e1 : ts.getD (x.toInt - lo).toNat d = d := by
        rw [List.getD_eq_getElem?_getD, List.getElem?_eq_none (by omega)]
        rfl
      have k3 : W p l e R s m args below meth c H locs ce sl Q (F0 m (ts.getD (x.toInt - lo).toNat d) lr (r.map (pm_v ad tk))) := k2
      rw [e1] at k3
      exact lv_tableOut hx hb hd (Or.inr q2) h1 k3
    · obtain ⟨off, h5, h6⟩ := h4 (x.toInt - lo).toNat (by omega)
      exact lv_tableIn hx hb hd q q2 h5 h6 k2
end PMX
