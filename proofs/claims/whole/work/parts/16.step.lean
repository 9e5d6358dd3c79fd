/-! .. the steps together: a step of the pure machine is a piece of a walk of the real one -/
/-- an instruction's link, but for calls and throws -/
def pm_lk (own mname : String) (Ts : List Cond) (cl : List vw_C) (Dv : Nat → List Value) (pc : Nat) (i : Instr) (L : pm_L) : Prop := match i with
  | .getfield k => ∃ ci f, L.1 = [ci, f] ∧ pm_lkF own Ts cl k ci f
  | .putfield k => ∃ ci f t, L.1 = [ci, f, t] ∧ pm_lkP own mname Ts cl k ci f t
  | .goto off => ∃ t : Nat, L.1 = [t] ∧ (pc : Int) + off = (t : Int)
  | .ifCond _ off => ∃ t : Nat, L.1 = [t] ∧ (pc : Int) + off = (t : Int)
  | .if_icmp _ off => ∃ t : Nat, L.1 = [t] ∧ (pc : Int) + off = (t : Int)
  | .tableswitch df lo hi offs => ∃ d ts, L.1 = d :: ts ∧ pm_lkT pc (.tableswitch df lo hi offs) (d :: ts)
  | .ldc k => pm_lkC own Ts (.ldc k) L.2
  | .ldc_w k => pm_lkC own Ts (.ldc_w k) L.2
  | .ldc2_w k => pm_lkC own Ts (.ldc2_w k) L.2
  | .getstatic k => pm_lkC own Ts (.getstatic k) L.2
  | .new k => L.1.length = 3 ∨ ∃ ci, L.1 = [ci] ∧ pm_lkN own Ts cl Dv k ci
  | .newarray a => ∃ t, L.1 = [t] ∧ pm_lkA own Ts (.newarray a) t
  | .anewarray k => ∃ t, L.1 = [t] ∧ pm_lkA own Ts (.anewarray k) t
  | .multianewarray k d => d = 2 ∧ L.1 = [5, 1] ∧ Cond.classLink own k "[[J" ∈ Ts ∧ Cond.arrayOver (.array .long) ∈ Ts ∧ Cond.arrayClass .long ∈ Ts
  | .invokestatic k => L.1.length = 4 ∨ (L.1 = [4] ∧ Cond.methodLink own k arraycopyName ∈ Ts ∧ Cond.native arraycopyName ∈ Ts ∧ Cond.static arraycopyName ∈ Ts ∧ Cond.initialized "java/lang/System" ∈ Ts)
  | .invokespecial k => L.1.length = 4 ∨ (L.1 = [0] ∧ Cond.methodLink own k objectInit ∈ Ts ∧ Cond.instanceMethod objectInit ∈ Ts ∧ Cond.code objectInit ⟨#[0xb1]⟩ 1 none ∈ Ts)
  | _ => True
def pm_isT : Instr → Bool
  | .tableswitch _ _ _ _ => true
  | _ => false
theorem pm_jmp1_s {cd : Jvm.ClassFile.Cond} {pc len t : Nat} {ls : pm_V} {st : List Value} {h : pm_H} {c k : Nat} {x' : pm_S} (hx : pm_jmp1 cd pc len ls h c k [t] st = some x') : ∃ x r, st = .int x :: r ∧ x' = (bif pm_b1 cd x then t else pc + len, ls, r, h, c, k) := by
  unfold pm_jmp1 at hx
  split at hx
  · rename_i e; cases e; cases hx; exact ⟨_, _, rfl, rfl⟩
  · cases hx
theorem pm_jmp2_s {cd : Jvm.ClassFile.Cond} {pc len t : Nat} {ls : pm_V} {st : List Value} {h : pm_H} {c k : Nat} {x' : pm_S} (hx : pm_jmp2 cd pc len ls h c k [t] st = some x') : ∃ x y r, st = .int y :: .int x :: r ∧ x' = (bif pm_b2 cd x y then t else pc + len, ls, r, h, c, k) := by
  unfold pm_jmp2 at hx
  split at hx
  · rename_i e; cases e; cases hx; exact ⟨_, _, _, rfl, rfl⟩
  · cases hx
theorem pm_tab_s {lo : Int} {d : Nat} {ts : List Nat} {ls : pm_V} {st : List Value} {h : pm_H} {c k : Nat} {x' : pm_S} (hx : pm_tab lo ls h c k (d :: ts) st = some x') : ∃ x r, st = .int x :: r ∧ x' = (bif decide (x.toInt < lo) then d else ts.getD (x.toInt - lo).toNat d, ls, r, h, c, k) := by
  unfold pm_tab at hx
  split at hx
  · rename_i e; cases e; cases hx; exact ⟨_, _, rfl, rfl⟩
  · cases hx
theorem pm_getf_s {pc len ci f : Nat} {ls : pm_V} {st : List Value} {h : pm_H} {c k : Nat} {x' : pm_S} (hx : pm_getf pc len ls h c k [ci, f] st = some x') : ∃ a r v, st = .ref a :: r ∧ pm_fld h a ci f = some v ∧ x' = (pc + len, ls, v :: r, h, c, k) := by
  unfold pm_getf at hx
  split at hx
  · rename_i e
    cases e
    unfold pm_on at hx
    obtain ⟨st', ho, rfl⟩ := Option.map_eq_some_iff.mp hx
    obtain ⟨v, hv, rfl⟩ := Option.map_eq_some_iff.mp ho
    exact ⟨_, _, v, rfl, hv, rfl⟩
  · cases hx
theorem pm_putf_s {pc len ci f t : Nat} {ls : pm_V} {st : List Value} {h : pm_H} {c k : Nat} {x' : pm_S} (hx : pm_putf pc len ls h c k [ci, f, t] st = some x') : ∃ a r v h', st = v :: .ref a :: r ∧ pm_put h a ci f t v = some h' ∧ x' = (pc + len, ls, r, h', c, k) := by
  unfold pm_putf at hx
  split at hx
  · rename_i e
    cases e
    unfold pm_hp at hx
    obtain ⟨h', ho, rfl⟩ := Option.map_eq_some_iff.mp hx
    exact ⟨_, _, _, h', rfl, ho, rfl⟩
  · cases hx
theorem pm_newo_s {D : Nat → List Value} {pc len ci : Nat} {ls : pm_V} {st : List Value} {h : pm_H} {c k : Nat} {x' : pm_S} (hx : pm_newo D pc len ls st h c k [ci] = some x') : pm_cl h ls st = true ∧ x' = (pc + len, ls, .ref h.length :: st, h ++ [.inr (ci, D ci)], c + 1, k + (D ci).length) := by
  have hx : (bif pm_cl h ls st then some ((pc + len, ls, .ref h.length :: st, h ++ [.inr (ci, D ci)], c + 1, k + (D ci).length) : pm_S) else none) = some x' := hx
  obtain ⟨h1, rfl⟩ := pm_cnd hx
  exact ⟨h1, rfl⟩
theorem pm_newa_s {pc len t : Nat} {ls : pm_V} {st : List Value} {h : pm_H} {c k : Nat} {x' : pm_S} (hx : pm_newa pc len ls h c k [t] st = some x') : ∃ n r, st = .int n :: r ∧ pm_cl h ls r = true ∧ ¬ n < 0 ∧ n.toNatClampNeg ≤ 100000 ∧ x' = (pc + len, ls, .ref h.length :: r, h ++ [pm_arr t n.toNatClampNeg], c + 1, k + n.toNatClampNeg) := by
  unfold pm_newa at hx
  split at hx
  · rename_i e
    cases e
    obtain ⟨h1, rfl⟩ := pm_cnd hx
    simp only [Bool.and_eq_true, Bool.not_eq_true', decide_eq_false_iff_not] at h1
    exact ⟨_, _, rfl, h1.1, h1.2.1, Nat.le_of_ble_eq_true h1.2.2, rfl⟩
  · cases hx
theorem pm_newm_s {pc len : Nat} {ls : pm_V} {st : List Value} {h : pm_H} {c k : Nat} {x' : pm_S} (hx : pm_newm pc len ls h c k [5, 1] st = some x') : ∃ n m r, st = .int m :: .int n :: r ∧ pm_cl h ls r = true ∧ ¬ n < 0 ∧ ¬ m < 0 ∧ n.toNatClampNeg ≤ 100000 ∧ m.toNatClampNeg ≤ 100000 ∧ x' = (pc + len, ls, .ref h.length :: r, h ++ pm_rows h n.toNatClampNeg m.toNatClampNeg, c + 1 + n.toNatClampNeg, k + n.toNatClampNeg + n.toNatClampNeg * m.toNatClampNeg) := by
  unfold pm_newm at hx
  split at hx
  · rename_i e
    cases e
    obtain ⟨h1, rfl⟩ := pm_cnd hx
    simp only [Bool.and_eq_true, Bool.not_eq_true', decide_eq_false_iff_not] at h1
    obtain ⟨⟨h1, h2, h3⟩, h4, h5⟩ := h1
    exact ⟨_, _, _, rfl, h1, h2, h4, Nat.le_of_ble_eq_true h3, Nat.le_of_ble_eq_true h5, rfl⟩
  · cases hx
theorem pm_prim0_s {pc len : Nat} {ls : pm_V} {st : List Value} {h : pm_H} {c k : Nat} {x' : pm_S} (hx : pm_prim pc len ls h c k [0] st = some x') : ∃ a r, st = .ref a :: r ∧ pm_wt r ≤ 8 ∧ x' = (pc + len, ls, r, h, c, k) := by
  unfold pm_prim at hx
  split at hx
  · obtain ⟨h1, rfl⟩ := pm_cnd hx; exact ⟨_, _, rfl, Nat.le_of_ble_eq_true h1, rfl⟩
  · rename_i e; cases e
  · cases hx
theorem pm_prim4_s {pc len : Nat} {ls : pm_V} {st : List Value} {h : pm_H} {c k : Nat} {x' : pm_S} (hx : pm_prim pc len ls h c k [4] st = some x') : ∃ n dp a sp a0 r h', st = .int n :: .int dp :: .ref a :: .int sp :: .ref a0 :: r ∧ pm_wt r ≤ 8 ∧ pm_cpy h a0 sp a dp n = some h' ∧ x' = (pc + len, ls, r, h', c, k) := by
  unfold pm_prim at hx
  split at hx
  · rename_i e; cases e
  · obtain ⟨h1, h2⟩ := pm_cnd2 hx
    unfold pm_hp at h2
    obtain ⟨h', ho, rfl⟩ := Option.map_eq_some_iff.mp h2
    exact ⟨_, _, _, _, _, _, h', rfl, Nat.le_of_ble_eq_true h1, ho, rfl⟩
  · cases hx
theorem pm_prim_n {pc len : Nat} {ls : pm_V} {st : List Value} {h : pm_H} {c k : Nat} {L : List Nat} {x' : pm_S} (hL : L.length = 4) (hx : pm_prim pc len ls h c k L st = some x') : False := by
  unfold pm_prim at hx
  split at hx
  · cases hL
  · cases hL
  · cases hx
theorem pm_isT_k {i : Instr} {L : pm_L} (q : pm_isT i = true) : pm_kind i L = 1 := by
  cases i with
  | tableswitch df lo hi offs => rfl
  | _ => cases q
section PMZ
variable {p : Program} {l : Launch} {e : Env} {R : Room} {s : State} {m : MethodId} {args : Array Value} {below : List Frame} {meth : Method} {c : Code} {Q : State → Prop} {cc : ByteArray} {nL : Nat} {ad tk aC : Nat → Nat} {D : va_G} {cl : List vw_C} {A : Nat → Prop} {Ts : List Cond} {own mname : String} {X : pm_X} {Dv : Nat → List Value}
/-- what a walk of a method knows all along -/
def pm_Cx (p : Program) (R : Room) (s : State) (m : MethodId) (args : Array Value) (meth : Method) (c : Code) (cc : ByteArray) (nL : Nat) (tk aC : Nat → Nat) (D : va_G) (cl : List vw_C) (A : Nat → Prop) (Ts : List Cond) (own mname : String) (X : pm_X) : Prop :=
  p.tables.exec = Jvm.exec ∧ c.code = cc ∧ c.maxLocals = nL ∧ s.vm.findClass own = some m.cls ∧ (∀ w ∈ Ts, w.before args s = true) ∧ va_K D cl (pm_tys aC) s ∧ (∀ q, s.heap.size ≤ q → A q) ∧ meth.name = mname ∧ pm_TK X tk A s ∧ va_Z "SegmentDesk" "ELEMENT_BITS" "[I" (.ref (tk 1)) A s s.heap ∧
  (∃ T7 N7, cl[7]? = some ("SegmentDesk$Spot", T7, N7)) ∧ (∃ T6 N6, cl[6]? = some ("SegmentDesk$Level", T6, N6)) ∧ 10 ≤ R.frames ∧ 8 + (nativeFrameWords "java/lang/System" "arraycopy" 5 + 11) + 100 ≤ R.locals
set_option maxHeartbeats 8000000 in
theorem pm_ok_step (C : pm_Cx p R s m args meth c cc nL tk aC D cl A Ts own mname X) {i : Instr} {len : Nat} {L : pm_L} {x x' : pm_S} (hk : pm_kind i L = 0 ∨ pm_kind i L = 1) (hs : pm_step X Dv i len L x = some x') (hd : decode cc x.1 = .ok (i, len)) (hlen : pm_isT i = true ∨ len = pm_ilen i) (hlk : pm_lk own mname Ts cl Dv x.1 i L) (hRc : x'.2.2.2.2.1 ≤ R.cells ∧ x'.2.2.2.2.2 ≤ R.slots)
    (kk : ∀ ad' : Nat → Nat, (∀ v, v < x.2.2.2.1.length → ad' v = ad v) → (pm_isN i L = false → ad' = ad) → pm_Pt p l e R s m args below meth c D cl A tk aC Q nL ad' x') : pm_Pt p l e R s m args below meth c D cl A tk aC Q nL ad x := by
  obtain ⟨hx, hb, hml, hown, hts, hK, hA, hmn, hT, hZ, ⟨T7, N7, hc7⟩, ⟨T6, N6, hc6⟩, hRf, hRl⟩ := C
  obtain ⟨pc, ls, st, h, ce, sl⟩ := x
  dsimp only at hd hlk kk
  have k0 := kk ad (fun _ _ => rfl) (fun _ => rfl)
  unfold pm_step at hs
  rcases hk with hk0 | hk1
  · rw [hk0] at hs
    have hs : pm_on pc len ls h ce sl (pm_op i st) = some x' := hs
    unfold pm_on at hs
    cases ho : pm_op i st with
    | none => rw [ho] at hs; cases hs
    | some st' =>
      rw [ho] at hs
      cases hs
      have hl9 : len = pm_ilen i := by
        rcases hlen with q | q
        · have := pm_isT_k (L := L) q
          rw [this] at hk0
          cases hk0
        · exact q
      subst hl9
      intro H locs lr hl hP hD hS
      exact pm_ok_op hx hb ho hd (k0 H locs lr hl hP hD hS)
  · rw [hk1] at hs
    have hs : pm_mem X Dv i len L pc ls st h ce sl = some x' := hs
    cases i with
    | iload n =>
      have hl9 := hlen.resolve_left (fun q => by cases q)
      subst hl9
      have hs : pm_on pc _ ls h ce sl _ = some x' := hs
      unfold pm_on at hs
      obtain ⟨st', ho, rfl⟩ := Option.map_eq_some_iff.mp hs
      intro H locs lr hl hP hD hS
      exact pm_ok_iload hx hb ho hd (fun lr hl => k0 H locs lr hl hP hD hS) lr hl
    | iload_n n =>
      have hl9 := hlen.resolve_left (fun q => by cases q)
      subst hl9
      have hs : pm_on pc _ ls h ce sl _ = some x' := hs
      unfold pm_on at hs
      obtain ⟨st', ho, rfl⟩ := Option.map_eq_some_iff.mp hs
      intro H locs lr hl hP hD hS
      exact pm_ok_iload_n hx hb ho hd (fun lr hl => k0 H locs lr hl hP hD hS) lr hl
    | lload n =>
      have hl9 := hlen.resolve_left (fun q => by cases q)
      subst hl9
      have hs : pm_on pc _ ls h ce sl _ = some x' := hs
      unfold pm_on at hs
      obtain ⟨st', ho, rfl⟩ := Option.map_eq_some_iff.mp hs
      intro H locs lr hl hP hD hS
      exact pm_ok_lload hx hb ho hd (fun lr hl => k0 H locs lr hl hP hD hS) lr hl
    | lload_n n =>
      have hl9 := hlen.resolve_left (fun q => by cases q)
      subst hl9
      have hs : pm_on pc _ ls h ce sl _ = some x' := hs
      unfold pm_on at hs
      obtain ⟨st', ho, rfl⟩ := Option.map_eq_some_iff.mp hs
      intro H locs lr hl hP hD hS
      exact pm_ok_lload_n hx hb ho hd (fun lr hl => k0 H locs lr hl hP hD hS) lr hl
    | dload n =>
      have hl9 := hlen.resolve_left (fun q => by cases q)
      subst hl9
      have hs : pm_on pc _ ls h ce sl _ = some x' := hs
      unfold pm_on at hs
      obtain ⟨st', ho, rfl⟩ := Option.map_eq_some_iff.mp hs
      intro H locs lr hl hP hD hS
      exact pm_ok_dload hx hb ho hd (fun lr hl => k0 H locs lr hl hP hD hS) lr hl
    | dload_n n =>
      have hl9 := hlen.resolve_left (fun q => by cases q)
      subst hl9
      have hs : pm_on pc _ ls h ce sl _ = some x' := hs
      unfold pm_on at hs
      obtain ⟨st', ho, rfl⟩ := Option.map_eq_some_iff.mp hs
      intro H locs lr hl hP hD hS
      exact pm_ok_dload_n hx hb ho hd (fun lr hl => k0 H locs lr hl hP hD hS) lr hl
    | aload n =>
      have hl9 := hlen.resolve_left (fun q => by cases q)
      subst hl9
      have hs : pm_on pc _ ls h ce sl _ = some x' := hs
      unfold pm_on at hs
      obtain ⟨st', ho, rfl⟩ := Option.map_eq_some_iff.mp hs
      intro H locs lr hl hP hD hS
      exact pm_ok_aload hx hb ho hd (fun lr hl => k0 H locs lr hl hP hD hS) lr hl
    | aload_n n =>
      have hl9 := hlen.resolve_left (fun q => by cases q)
      subst hl9
      have hs : pm_on pc _ ls h ce sl _ = some x' := hs
      unfold pm_on at hs
      obtain ⟨st', ho, rfl⟩ := Option.map_eq_some_iff.mp hs
      intro H locs lr hl hP hD hS
      exact pm_ok_aload_n hx hb ho hd (fun lr hl => k0 H locs lr hl hP hD hS) lr hl
    | istore n =>
      have hl9 := hlen.resolve_left (fun q => by cases q)
      subst hl9
      have hs : pm_sto pc _ h ce sl _ = some x' := hs
      unfold pm_sto at hs
      obtain ⟨q, ho, rfl⟩ := Option.map_eq_some_iff.mp hs
      intro H locs lr hl hP hD hS
      exact pm_ok_istore hx hb ho hd (fun lr hl => k0 H locs lr hl hP hD hS) lr hl
    | istore_n n =>
      have hl9 := hlen.resolve_left (fun q => by cases q)
      subst hl9
      have hs : pm_sto pc _ h ce sl _ = some x' := hs
      unfold pm_sto at hs
      obtain ⟨q, ho, rfl⟩ := Option.map_eq_some_iff.mp hs
      intro H locs lr hl hP hD hS
      exact pm_ok_istore_n hx hb ho hd (fun lr hl => k0 H locs lr hl hP hD hS) lr hl
    | astore n =>
      have hl9 := hlen.resolve_left (fun q => by cases q)
      subst hl9
      have hs : pm_sto pc _ h ce sl _ = some x' := hs
      unfold pm_sto at hs
      obtain ⟨q, ho, rfl⟩ := Option.map_eq_some_iff.mp hs
      intro H locs lr hl hP hD hS
      exact pm_ok_astore hx hb ho hd (fun lr hl => k0 H locs lr hl hP hD hS) lr hl
    | astore_n n =>
      have hl9 := hlen.resolve_left (fun q => by cases q)
      subst hl9
      have hs : pm_sto pc _ h ce sl _ = some x' := hs
      unfold pm_sto at hs
      obtain ⟨q, ho, rfl⟩ := Option.map_eq_some_iff.mp hs
      intro H locs lr hl hP hD hS
      exact pm_ok_astore_n hx hb ho hd (fun lr hl => k0 H locs lr hl hP hD hS) lr hl
    | lstore n =>
      have hl9 := hlen.resolve_left (fun q => by cases q)
      subst hl9
      have hs : pm_sto pc _ h ce sl _ = some x' := hs
      unfold pm_sto at hs
      obtain ⟨q, ho, rfl⟩ := Option.map_eq_some_iff.mp hs
      intro H locs lr hl hP hD hS
      exact pm_ok_lstore hx hb ho hd (fun lr hl => k0 H locs lr hl hP hD hS) lr hl
    | lstore_n n =>
      have hl9 := hlen.resolve_left (fun q => by cases q)
      subst hl9
      have hs : pm_sto pc _ h ce sl _ = some x' := hs
      unfold pm_sto at hs
      obtain ⟨q, ho, rfl⟩ := Option.map_eq_some_iff.mp hs
      intro H locs lr hl hP hD hS
      exact pm_ok_lstore_n hx hb ho hd (fun lr hl => k0 H locs lr hl hP hD hS) lr hl
    | dstore n =>
      have hl9 := hlen.resolve_left (fun q => by cases q)
      subst hl9
      have hs : pm_sto pc _ h ce sl _ = some x' := hs
      unfold pm_sto at hs
      obtain ⟨q, ho, rfl⟩ := Option.map_eq_some_iff.mp hs
      intro H locs lr hl hP hD hS
      exact pm_ok_dstore hx hb ho hd (fun lr hl => k0 H locs lr hl hP hD hS) lr hl
    | dstore_n n =>
      have hl9 := hlen.resolve_left (fun q => by cases q)
      subst hl9
      have hs : pm_sto pc _ h ce sl _ = some x' := hs
      unfold pm_sto at hs
      obtain ⟨q, ho, rfl⟩ := Option.map_eq_some_iff.mp hs
      intro H locs lr hl hP hD hS
      exact pm_ok_dstore_n hx hb ho hd (fun lr hl => k0 H locs lr hl hP hD hS) lr hl
    | iinc n d =>
      have hl9 := hlen.resolve_left (fun q => by cases q)
      subst hl9
      have hs : ((pm_inc ls n d).map fun l => (pc + _, l, st, h, ce, sl)) = some x' := hs
      obtain ⟨l', ho, rfl⟩ := Option.map_eq_some_iff.mp hs
      intro H locs lr hl hP hD hS
      exact pm_ok_iinc hx hb ho hd (fun lr hl => k0 H locs lr hl hP hD hS) lr hl
    | goto off =>
      have hl9 := hlen.resolve_left (fun q => by cases q)
      subst hl9
      obtain ⟨t, hL, ht⟩ := hlk
      have hs : pm_go1 ls st h ce sl L.1 = some x' := hs
      rw [hL] at hs
      cases hs
      intro H locs lr hl hP hD hS
      exact pm_ok_goto hx hb hd ht (fun lr hl => k0 H locs lr hl hP hD hS) lr hl
    | ifCond cd off =>
      have hl9 := hlen.resolve_left (fun q => by cases q)
      subst hl9
      obtain ⟨t, hL, ht⟩ := hlk
      have hs : pm_jmp1 cd pc _ ls h ce sl L.1 st = some x' := hs
      rw [hL] at hs
      obtain ⟨x9, r, rfl, rfl⟩ := pm_jmp1_s hs
      intro H locs lr hl hP hD hS
      exact pm_ok_if hx hb hd ht (fun lr hl => k0 H locs lr hl hP hD hS) lr hl
    | if_icmp cd off =>
      have hl9 := hlen.resolve_left (fun q => by cases q)
      subst hl9
      obtain ⟨t, hL, ht⟩ := hlk
      have hs : pm_jmp2 cd pc _ ls h ce sl L.1 st = some x' := hs
      rw [hL] at hs
      obtain ⟨x9, y9, r, rfl, rfl⟩ := pm_jmp2_s hs
      intro H locs lr hl hP hD hS
      exact pm_ok_icmp hx hb hd ht (fun lr hl => k0 H locs lr hl hP hD hS) lr hl
    | tableswitch df lo hi offs =>
      obtain ⟨d, ts, hL, ht⟩ := hlk
      have hs : pm_tab lo ls h ce sl L.1 st = some x' := hs
      rw [hL] at hs
      obtain ⟨x9, r, rfl, rfl⟩ := pm_tab_s hs
      exact pm_ok_tab hx hb ht hd k0
    | ldc n =>
      have hl9 := hlen.resolve_left (fun q => by cases q)
      subst hl9
      cases hs
      exact pm_ok_const hx hb hts hown hZ hlk hd k0
    | ldc_w n =>
      have hl9 := hlen.resolve_left (fun q => by cases q)
      subst hl9
      cases hs
      exact pm_ok_const hx hb hts hown hZ hlk hd k0
    | ldc2_w n =>
      have hl9 := hlen.resolve_left (fun q => by cases q)
      subst hl9
      cases hs
      exact pm_ok_const hx hb hts hown hZ hlk hd k0
    | getstatic n =>
      have hl9 := hlen.resolve_left (fun q => by cases q)
      subst hl9
      cases hs
      exact pm_ok_const hx hb hts hown hZ hlk hd k0
    | getfield n =>
      have hl9 := hlen.resolve_left (fun q => by cases q)
      subst hl9
      obtain ⟨ci, f, hL, hq⟩ := hlk
      have hs : pm_getf pc _ ls h ce sl L.1 st = some x' := hs
      rw [hL] at hs
      obtain ⟨a, r, v, rfl, hv, rfl⟩ := pm_getf_s hs
      exact pm_ok_getf hx hb hts hown hK hq hv hd k0
    | putfield n =>
      have hl9 := hlen.resolve_left (fun q => by cases q)
      subst hl9
      obtain ⟨ci, f, t, hL, hq⟩ := hlk
      have hs : pm_putf pc _ ls h ce sl L.1 st = some x' := hs
      rw [hL] at hs
      obtain ⟨a, r, v, h', rfl, ho, rfl⟩ := pm_putf_s hs
      exact pm_ok_putf hx hb hts hown hK hmn hq ho hd k0
    | iaload =>
      have hl9 := hlen.resolve_left (fun q => by cases q)
      subst hl9
      have hs : pm_aldS X 0 pc _ ls h ce sl st = some x' := hs
      unfold pm_aldS at hs
      split at hs
      · rename_i i9 a r
        unfold pm_on at hs
        obtain ⟨st', ho, rfl⟩ := Option.map_eq_some_iff.mp hs
        obtain ⟨v, hv, rfl⟩ := Option.map_eq_some_iff.mp ho
        exact pm_ok_ald (ig := .iaload) hx hb hK (by decide) hv hd k0
      · rename_i i9 a r
        obtain ⟨h1, h2⟩ := pm_cnd2 hs
        unfold pm_on at h2
        obtain ⟨st', ho, rfl⟩ := Option.map_eq_some_iff.mp h2
        obtain ⟨v, hv, rfl⟩ := Option.map_eq_some_iff.mp ho
        exact pm_ok_xld hx hb hT hv hd k0
      · cases hs
    | laload =>
      have hl9 := hlen.resolve_left (fun q => by cases q)
      subst hl9
      have hs : pm_aldS X 1 pc _ ls h ce sl st = some x' := hs
      unfold pm_aldS at hs
      split at hs
      · rename_i i9 a r
        unfold pm_on at hs
        obtain ⟨st', ho, rfl⟩ := Option.map_eq_some_iff.mp hs
        obtain ⟨v, hv, rfl⟩ := Option.map_eq_some_iff.mp ho
        exact pm_ok_ald (ig := .laload) hx hb hK (by decide) hv hd k0
      · rename_i i9 a r
        obtain ⟨h1, h2⟩ := pm_cnd2 hs
        cases h1
      · cases hs
    | baload =>
      have hl9 := hlen.resolve_left (fun q => by cases q)
      subst hl9
      have hs : pm_aldS X 2 pc _ ls h ce sl st = some x' := hs
      unfold pm_aldS at hs
      split at hs
      · rename_i i9 a r
        unfold pm_on at hs
        obtain ⟨st', ho, rfl⟩ := Option.map_eq_some_iff.mp hs
        obtain ⟨v, hv, rfl⟩ := Option.map_eq_some_iff.mp ho
        exact pm_ok_ald (ig := .baload) hx hb hK (by decide) hv hd k0
      · rename_i i9 a r
        obtain ⟨h1, h2⟩ := pm_cnd2 hs
        cases h1
      · cases hs
    | daload =>
      have hl9 := hlen.resolve_left (fun q => by cases q)
      subst hl9
      have hs : pm_aldS X 4 pc _ ls h ce sl st = some x' := hs
      unfold pm_aldS at hs
      split at hs
      · rename_i i9 a r
        unfold pm_on at hs
        obtain ⟨st', ho, rfl⟩ := Option.map_eq_some_iff.mp hs
        obtain ⟨v, hv, rfl⟩ := Option.map_eq_some_iff.mp ho
        exact pm_ok_ald (ig := .daload) hx hb hK (by decide) hv hd k0
      · rename_i i9 a r
        obtain ⟨h1, h2⟩ := pm_cnd2 hs
        cases h1
      · cases hs
    | aaload =>
      have hl9 := hlen.resolve_left (fun q => by cases q)
      subst hl9
      have hs : pm_aldS X 5 pc _ ls h ce sl st = some x' := hs
      unfold pm_aldS at hs
      split at hs
      · rename_i i9 a r
        unfold pm_on at hs
        obtain ⟨st', ho, rfl⟩ := Option.map_eq_some_iff.mp hs
        obtain ⟨v, hv, rfl⟩ := Option.map_eq_some_iff.mp ho
        exact pm_ok_ald (ig := .aaload) hx hb hK (by decide) hv hd k0
      · rename_i i9 a r
        obtain ⟨h1, h2⟩ := pm_cnd2 hs
        cases h1
      · cases hs
    | iastore =>
      have hl9 := hlen.resolve_left (fun q => by cases q)
      subst hl9
      have hs : pm_astS 0 pc _ ls h ce sl st = some x' := hs
      unfold pm_astS at hs
      split at hs
      · rename_i v i9 a r
        unfold pm_hp at hs
        obtain ⟨h', ho, rfl⟩ := Option.map_eq_some_iff.mp hs
        exact pm_ok_ast (ig := .iastore) hx hb hK hc7 hc6 (by decide) ho hd k0
      · cases hs
    | lastore =>
      have hl9 := hlen.resolve_left (fun q => by cases q)
      subst hl9
      have hs : pm_astS 1 pc _ ls h ce sl st = some x' := hs
      unfold pm_astS at hs
      split at hs
      · rename_i v i9 a r
        unfold pm_hp at hs
        obtain ⟨h', ho, rfl⟩ := Option.map_eq_some_iff.mp hs
        exact pm_ok_ast (ig := .lastore) hx hb hK hc7 hc6 (by decide) ho hd k0
      · cases hs
    | bastore =>
      have hl9 := hlen.resolve_left (fun q => by cases q)
      subst hl9
      have hs : pm_astS 2 pc _ ls h ce sl st = some x' := hs
      unfold pm_astS at hs
      split at hs
      · rename_i v i9 a r
        unfold pm_hp at hs
        obtain ⟨h', ho, rfl⟩ := Option.map_eq_some_iff.mp hs
        exact pm_ok_ast (ig := .bastore) hx hb hK hc7 hc6 (by decide) ho hd k0
      · cases hs
    | dastore =>
      have hl9 := hlen.resolve_left (fun q => by cases q)
      subst hl9
      have hs : pm_astS 4 pc _ ls h ce sl st = some x' := hs
      unfold pm_astS at hs
      split at hs
      · rename_i v i9 a r
        unfold pm_hp at hs
        obtain ⟨h', ho, rfl⟩ := Option.map_eq_some_iff.mp hs
        exact pm_ok_ast (ig := .dastore) hx hb hK hc7 hc6 (by decide) ho hd k0
      · cases hs
    | aastore =>
      have hl9 := hlen.resolve_left (fun q => by cases q)
      subst hl9
      have hs : pm_astS 5 pc _ ls h ce sl st = some x' := hs
      unfold pm_astS at hs
      split at hs
      · rename_i v i9 a r
        unfold pm_hp at hs
        obtain ⟨h', ho, rfl⟩ := Option.map_eq_some_iff.mp hs
        exact pm_ok_ast (ig := .aastore) hx hb hK hc7 hc6 (by decide) ho hd k0
      · cases hs
    | arraylength =>
      have hl9 := hlen.resolve_left (fun q => by cases q)
      subst hl9
      have hs : pm_lenS X pc _ ls h ce sl st = some x' := hs
      unfold pm_lenS at hs
      split at hs
      · unfold pm_on at hs
        obtain ⟨st', ho, rfl⟩ := Option.map_eq_some_iff.mp hs
        obtain ⟨v, hv, rfl⟩ := Option.map_eq_some_iff.mp ho
        exact pm_ok_alen hx hb hK hv hd k0
      · obtain ⟨h1, rfl⟩ := pm_cnd hs
        exact pm_ok_xlen hx hb hT (Nat.le_of_ble_eq_true h1) hd k0
      · cases hs
    | new n =>
      have hl9 := hlen.resolve_left (fun q => by cases q)
      subst hl9
      have hs : pm_newo Dv pc _ ls st h ce sl L.1 = some x' := hs
      rcases hlk with q | ⟨ci, hL, hq⟩
      · have : pm_kind (.new n) L = 3 := by show (bif Nat.beq L.1.length 3 then 3 else 1) = 3; rw [q]; rfl
        rw [this] at hk1
        cases hk1
      · have hN : pm_isN (.new n) L = true := by show (!(Nat.beq L.1.length 3)) = true; rw [hL]; rfl
        rw [hL] at hs
        obtain ⟨h1, rfl⟩ := pm_newo_s hs
        exact pm_ok_new hx hb hts hown hK hA hq h1 hRc hd fun ad' hag => kk ad' hag (fun z => by rw [hN] at z; cases z)
    | newarray a9 =>
      have hl9 := hlen.resolve_left (fun q => by cases q)
      subst hl9
      obtain ⟨t, hL, hq⟩ := hlk
      have hs : pm_newa pc _ ls h ce sl L.1 st = some x' := hs
      rw [hL] at hs
      obtain ⟨n, r, rfl, h1, h2, h3, rfl⟩ := pm_newa_s hs
      exact pm_ok_newa hx hb hts hown hK hA hq h1 h2 h3 hRc hd fun ad' hag => kk ad' hag (fun z => by cases z)
    | anewarray k9 =>
      have hl9 := hlen.resolve_left (fun q => by cases q)
      subst hl9
      obtain ⟨t, hL, hq⟩ := hlk
      have hs : pm_newa pc _ ls h ce sl L.1 st = some x' := hs
      rw [hL] at hs
      obtain ⟨n, r, rfl, h1, h2, h3, rfl⟩ := pm_newa_s hs
      exact pm_ok_newa hx hb hts hown hK hA hq h1 h2 h3 hRc hd fun ad' hag => kk ad' hag (fun z => by cases z)
    | multianewarray k9 d9 =>
      have hl9 := hlen.resolve_left (fun q => by cases q)
      subst hl9
      obtain ⟨rfl, hL, hq⟩ := hlk
      have hs : pm_newm pc _ ls h ce sl L.1 st = some x' := hs
      rw [hL] at hs
      obtain ⟨n, k, r, rfl, h1, h2, h4, h3, h5, rfl⟩ := pm_newm_s hs
      exact pm_ok_newm hx hb hts hown hK hA hq h1 h2 h4 h3 h5 ⟨by have := hRc.1; dsimp only at this; omega, by have := hRc.2; dsimp only at this; omega⟩ hd fun ad' hag => kk ad' hag (fun z => by cases z)
    | invokestatic n =>
      have hl9 := hlen.resolve_left (fun q => by cases q)
      subst hl9
      have hs : pm_prim pc _ ls h ce sl L.1 st = some x' := hs
      rcases hlk with q | ⟨hL, hq⟩
      · exact (pm_prim_n q hs).elim
      · rw [hL] at hs
        obtain ⟨n9, dp, a, sp, a0, r, h', rfl, h1, ho, rfl⟩ := pm_prim4_s hs
        exact pm_ok_cpy hx hb hml hts hown hK hq ⟨by omega, by omega⟩ h1 ho hd k0
    | invokespecial n =>
      have hl9 := hlen.resolve_left (fun q => by cases q)
      subst hl9
      have hs : pm_prim pc _ ls h ce sl L.1 st = some x' := hs
      rcases hlk with q | ⟨hL, hq⟩
      · exact (pm_prim_n q hs).elim
      · rw [hL] at hs
        obtain ⟨a, r, rfl, h1, rfl⟩ := pm_prim0_s hs
        exact pm_ok_obj hx hb hml hts hown hq ⟨by omega, by omega⟩ h1 hd k0
    | _ => cases hs
end PMZ
