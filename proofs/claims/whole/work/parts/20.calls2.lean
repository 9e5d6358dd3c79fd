/-! .. and the whole: a method of the pure machine that ends with q is a method of the real one that does -/
/-- the pure heap h lies in U where ad says; what was there at the law's start, s0, is as it was -/
def pm_Wd (s0 : State) (D : va_G) (cl : List vw_C) (tk aC ad : Nat → Nat) (h : pm_H) (U : State) : Prop :=
  va_P D cl (pm_w ad tk aC h) U.heap ∧ va_D (fun q => s0.heap.size ≤ q) (pm_w ad tk aC h) ∧ va_K D cl (pm_tys aC) U ∧ s0.WarmedH U.vm ∧ s0.heap.size ≤ U.heap.size ∧ ∀ q : Nat, q < s0.heap.size → U.heap[q]? = s0.heap[q]?
def pm_Pc (s0 : State) (D : va_G) (cl : List vw_C) (tk aC ad : Nat → Nat) (a : List Value) (h : pm_H) (sz : Nat) : Array Value → State → Prop := fun v U => v = (a.map (pm_v ad tk)).toArray ∧ U.heap.size = sz ∧ pm_Wd s0 D cl tk aC ad h U
def pm_out (tk ad' : Nat → Nat) (st : State) (t : State) (o : Outcome) : Option Value ⊕ Nat → Prop
  | .inl v => o = .returned (v.map (pm_v ad' tk))
  | .inr x => ∃ b ce, o = .threw b ∧ t.heap[b]? = some ce ∧ ce.vm = .none ∧ st.vm.findClass (pm_EX x) = some ce.cls
def pm_Qc (D : va_G) (cl : List vw_C) (tk aC ad : Nat → Nat) (h : pm_H) (sz : Nat) (q : pm_R) : Array Value → State → Outcome → State → Prop := fun _ st o t =>
  ∃ ad' : Nat → Nat, (∀ v, v < h.length → ad' v = ad v) ∧ (q.2.1.length = h.length → ad' = ad) ∧ va_P D cl (pm_w ad' tk aC q.2.1) t.heap ∧ va_D (va_A (pm_w ad tk aC h) sz) (pm_w ad' tk aC q.2.1) ∧ va_F (va_A (pm_w ad tk aC h) sz) st t ∧ pm_out tk ad' st t o q.1
def pm_rm (d : Nat) (q : pm_R) : Room := { frames := 4 * d + 10, cells := q.2.2.1, slots := q.2.2.2, locals := 60 * d + 300 }
def pm_Sem (l : Launch) (s0 : State) (D : va_G) (cl : List vw_C) (tk aC : Nat → Nat) (Ts : List Cond) (MI : Nat → pm_I) (d m : Nat) (a : List Value) (h : pm_H) (q : pm_R) : Prop :=
  ∀ (ad : Nat → Nat) (sz : Nat), pm_Met l (MI m).2.2.1 Ts (pm_rm d q) (pm_Pc s0 D cl tk aC ad a h sz) (pm_Qc D cl tk aC ad h sz q) q.2.2.1 q.2.2.2 (va_A (pm_w ad tk aC h) sz)
/-- what is known at the law's start -/
def pm_Base (l : Launch) (s0 : State) (cl : List vw_C) (tk : Nat → Nat) (Ts : List Cond) (X : pm_X) : Prop :=
  l.stackTraces = false ∧ (∀ w ∈ Ts, pm_kp w = true) ∧ (∃ T7 N7, cl[7]? = some ("SegmentDesk$Spot", T7, N7)) ∧ (∃ T6 N6, cl[6]? = some ("SegmentDesk$Level", T6, N6)) ∧ pm_TK X tk (fun q => s0.heap.size ≤ q) s0 ∧
  va_Z "SegmentDesk" "ELEMENT_BITS" "[I" (.ref (tk 1)) (fun q => s0.heap.size ≤ q) s0 s0.heap ∧ (∀ w ∈ pm_four, ∀ (U : State) (a : Array Value), s0.WarmedH U.vm → (∀ q : Nat, q < s0.heap.size → U.heap[q]? = s0.heap[q]?) → w.before a U = true) ∧
  (∀ e x : Nat, 1 ≤ e ∧ e ≤ 5 → 1 ≤ x ∧ x ≤ 5 → e ≠ x → va_Nc (pm_EX e) (pm_EX x) s0) ∧ 8 + (nativeFrameWords "java/lang/System" "arraycopy" 5 + 11) + 100 ≤ 300
theorem pm_blind {s0 : State} {D : va_G} {cl : List vw_C} {tk aC ad : Nat → Nat} {a : List Value} {h : pm_H} {sz : Nat} : FrameBlind (pm_Pc s0 D cl tk aC ad a h sz) := by
  intro a U g mk hp
  obtain ⟨h1, h2, h3, h4, h5, h6, h7, h8⟩ := hp
  exact ⟨h1, h2, h3, h4, va_K.moved (u := U) (U := U.calling g mk a) (Vm.Alike.refl U.vm) h5, h6, h7, h8⟩
theorem pm_nc {e x : String} {s U : State} (hvm : s.vm.Alike U.vm) (h : va_Nc e x s) : va_Nc e x U := h.moved hvm
/-- which row of a table catches -/
theorem pm_catch_s : ∀ (tab : List (Nat × Nat × Nat × Nat × Nat)) (pc e hp lo : Nat), pm_catch tab pc e = some (hp, lo) → ∃ (j f t : Nat), tab[j]? = some (f, t, hp, e, lo) ∧ (f ≤ pc ∧ pc < t) ∧ ∀ (i f' t' hp' x' lo' : Nat), i < j → tab[i]? = some (f', t', hp', x', lo') → ¬ (f' ≤ pc ∧ pc < t') ∨ x' ≠ e
  | [], _, _, _, _, h => by cases h
  | (f, t, hp0, x, lo0) :: r, pc, e, hp, lo, h => by
    have h : (bif (Nat.ble f pc && Nat.ble (pc + 1) t) && Nat.beq x e then some (hp0, lo0) else pm_catch r pc e) = some (hp, lo) := h
    cases hb : (Nat.ble f pc && Nat.ble (pc + 1) t) && Nat.beq x e with
    | true =>
      rw [hb] at h
      cases h
      rw [Bool.and_eq_true, Bool.and_eq_true] at hb
      have := Nat.eq_of_beq_eq_true hb.2
      subst this
      exact ⟨0, f, t, rfl, ⟨Nat.le_of_ble_eq_true hb.1.1, Nat.le_of_ble_eq_true hb.1.2⟩, fun i _ _ _ _ _ hi => absurd hi (Nat.not_lt_zero _)⟩
    | false =>
      rw [hb] at h
      obtain ⟨j, f1, t1, h1, h2, h3⟩ := pm_catch_s r pc e hp lo h
      refine ⟨j + 1, f1, t1, h1, h2, fun i f' t' hp' x' lo' hi hg => ?_⟩
      cases i with
      | zero =>
        cases hg
        by_cases q1 : f ≤ pc ∧ pc < t
        · by_cases q2 : x = e
          · exfalso
            rw [Nat.ble_eq_true_of_le q1.1, Nat.ble_eq_true_of_le q1.2, q2, Nat.beq_refl] at hb
            cases hb
          · exact Or.inr q2
        · exact Or.inl q1
      | succ i => exact h3 i f' t' hp' x' lo' (by omega) hg
theorem pm_LH.ofX {ad tk : Nat → Nat} {lr : Array Slot} {nL i b : Nat} {ls : pm_V} (hl : ls.length = nL)
    (h : lv_has lr nL ((i, Value.ref b) :: (pm_al ad tk ls).filter (fun q => !(q.1 == i) && !(q.1 + 1 == i && q.2.category == 2)))) : pm_LH ad tk lr nL ((pm_clr ls i).set i none) := by
  refine ⟨h.1, h.2.1, by rw [List.length_set, pm_clr_len]; exact hl, fun k w hk => ?_⟩
  by_cases e : k = i
  · subst e
    have hlt : k < (pm_clr ls k).length := by
      have := (List.getElem?_eq_some_iff.mp hk).1
      rwa [List.length_set] at this
    rw [List.getElem?_set_self hlt] at hk
    cases hk
  · rw [List.getElem?_set_ne (fun q => e q.symm)] at hk
    obtain ⟨h1, h2⟩ := pm_clr_get hk
    refine h.2.2 (k, pm_v ad tk w) (List.mem_cons_of_mem _ (List.mem_filter.mpr ⟨pm_al_in h1, ?_⟩))
    have hn1 : (k == i) = false := by simpa using e
    have hn2 : (k + 1 == i && (pm_v ad tk w).category == 2) = false := by
      rw [pm_v_cat]
      by_cases q : k + 1 = i
      · have : ¬ w.category = 2 := fun z => h2 ⟨q, by unfold pm_c2; rw [z]; rfl⟩
        simp [this]
      · simp [q]
    simp only [hn1, hn2, Bool.not_false, Bool.and_self]
set_option maxRecDepth 100000 in
theorem pm_ar {k d r : Nat} (h : 60 * d + 360 ≤ r) (hk : k ≤ 40) : 8 + (k + 11) + (60 * d + 300) ≤ r := by omega
section PMS
variable {p : Program} {l : Launch} {e : Env} {R : Room} {s s0 : State} {m : MethodId} {args : Array Value} {below : List Frame} {meth : Method} {c : Code} {cc : ByteArray} {nL : Nat} {tk aC : Nat → Nat} {D : va_G} {cl : List vw_C} {Ts : List Cond} {own mname : String} {X : pm_X} {Dv : Nat → List Value} {MI : Nat → pm_I} {na : Nat → Bool}
/-- behind a call: what lies outside of A is as at the start -/
theorem pm_S_aft {A A1 : Nat → Prop} {H0 H : Heap} {st t : State} {locs L : List Loc} (hS : va_S A H0 H locs) (hst : st.heap = H) (hF : va_F A1 st t) (h1 : ∀ q, A1 q → A q) (hL : ∀ q ∈ L, A1 q.base) : va_S A H0 t.heap (locs ++ L) := by
  obtain ⟨z1, z2⟩ := hF
  rw [hst] at z1 z2
  refine ⟨Nat.le_trans hS.1 z1, fun q q1 q2 => ?_, fun q hq => ?_⟩
  · rw [z2 q (Nat.lt_of_lt_of_le q1 hS.1) (fun w => q2 (h1 q w))]
    exact hS.2.1 q q1 q2
  · rcases List.mem_append.mp hq with w | w
    · exact hS.2.2 q w
    · exact h1 _ (hL q w)
/-- what a caller knows of a callee -/
theorem pm_cw (hB : pm_Base l s0 cl tk Ts X) (hts : ∀ w ∈ Ts, w.before args s = true) {mm : Nat} (hOK : pm_OKm s0 Ts cl Dv MI na mm) {d : Nat} {q : pm_R} (hRf : 4 * d + 11 ≤ R.frames) (hRl : 60 * d + 360 ≤ R.locals) : pm_Cw R s (MI mm).2.2.1 (MI mm).2.1 (MI mm).2.2.2.2.2 Ts (pm_rm d q) q.2.2.1 q.2.2.2 := by
  obtain ⟨hcode, hini, -, hy, hmax, hnp, -⟩ := hOK
  have hsig : ∀ sig, parseMethodDescriptor (MI mm).2.2.1.desc = some sig → (MI mm).2.2.2.2.2 = sig.parameters.length := by
    intro sig hs
    rw [hs] at hnp
    exact (Option.some.inj hnp).symm
  have hws : ∀ w ∈ Ts, ∀ (a' : Array Value) (U : State), s.WarmedH U.vm → w.before a' U = true := fun w hw a' U hW => pm_kp_at hW (hB.2.1 w hw) (hts w hw)
  have hcd : ∀ (U : State) (mk : MethodId), s.WarmedH U.vm → U.methodNamed? (MI mm).2.2.1 = some mk → ∃ methY cY, U.vm.method? mk = some methY ∧ methY.code = some cY ∧ cY.maxLocals = (MI mm).2.1 ∧ methY.sig.parameters.length = (MI mm).2.2.2.2.2 := by
    intro U mk hW hn
    rcases hcode with ⟨hc, -⟩ | ⟨hh, hc, -⟩
    · obtain ⟨methY, cY, h1, h2, -, h4, -, -, -, h8⟩ := Cond.code_spec hn (hws _ hc #[] U hW)
      exact ⟨methY, cY, h1, h2, h4, (hsig _ h8).symm⟩
    · obtain ⟨m9, methY, cY, hn9, h1, h2, -, h4, -, -, -, h8⟩ := Cond.codeWith_spec (hws _ hc #[] U hW)
      cases hn.symm.trans hn9
      exact ⟨methY, cY, h1, h2, h4, (hsig _ h8).symm⟩
  have hlo9 : (pm_rm d q).locals = 60 * d + 300 := rfl
  have hfr9 : (pm_rm d q).frames = 4 * d + 10 := rfl
  refine ⟨rfl, rfl, by rw [hfr9]; exact hRf, by rw [hlo9]; exact pm_ar hRl hmax, hws, fun a' U hW => hws _ hini a' U hW, hcd, ?_, hy, hsig⟩
  rcases hcode with ⟨hc, -⟩ | ⟨hh, hc, -⟩
  · exact Cond.code_named (hws _ hc args s (State.WarmedH.refl s))
  · obtain ⟨m9, -, -, hn9, -⟩ := Cond.codeWith_spec (hws _ hc args s (State.WarmedH.refl s))
    exact ⟨m9, hn9⟩
/-- the call itself, of any of the three kinds -/
theorem pm_calls (hB : pm_Base l s0 cl tk Ts X) (hx : p.tables.exec = Jvm.exec) (hb : c.code = cc) (hml : c.maxLocals = nL) (hown : s.vm.findClass own = some m.cls) (hts : ∀ w ∈ Ts, w.before args s = true) (hK : va_K D cl (pm_tys aC) s) {mm n kd ci : Nat} (hOK : pm_OKm s0 Ts cl Dv MI na mm) {d : Nat} {q : pm_R} (hRf : 4 * d + 11 ≤ R.frames) (hRl : 60 * d + 360 ≤ R.locals)
    {i : Instr} {L : pm_L} (hlk : pm_lkM own Ts cl MI na i L) (hL : L.1 = [mm, n, kd, ci]) {ad : Nat → Nat} {h : pm_H} {ls : pm_V} {st a r : List Value} (hargs : pm_args n [] st = some (a, r)) (hwt : pm_wt r ≤ 8) (hrc : pm_rcv h ci a = true) {pc ce sl : Nat} (hd : decode cc pc = .ok (i, 3)) (hf : ce + q.2.2.1 ≤ R.cells ∧ sl + q.2.2.2 ≤ R.slots)
    {free : Addr → Prop} {Pc : Array Value → State → Prop} {Qc : Array Value → State → Outcome → State → Prop} (hM : pm_Met l (MI mm).2.2.1 Ts (pm_rm d q) Pc Qc q.2.2.1 q.2.2.2 free) (hbl : FrameBlind Pc) {H : Heap} {locs : List Loc} {lr : Array Slot} (hlr : lr.size = nL) (hP : va_P D cl (pm_w ad tk aC h) H)
    (hPc : ∀ U : State, U.heap = H → s.WarmedH U.vm → Pc (a.map (pm_v ad tk)).toArray U) (T : State) (hT : T.heap = H) (St : Stand p l e R s m args below meth c T locs ce sl) :
    pm_Aft p l e R s m args below meth c locs ce sl q.2.2.1 q.2.2.2 free (Qc (a.map (pm_v ad tk)).toArray) (T.setTop (F0 m pc lr (st.map (pm_v ad tk)))) (F0 m pc lr (r.map (pm_v ad tk))) 3 H := by
  have hcw := pm_cw (args := args) (s := s) (R := R) (d := d) (q := q) hB hts hOK hRf hRl
  obtain ⟨As, ha, hAl, hst⟩ := pm_args_s n [] st a r hargs
  rw [List.append_nil] at ha
  subst ha
  have hW8 : 2 * (F0 m pc lr (st.map (pm_v ad tk))).monitorRoom + ((r.map (pm_v ad tk)).map fun v => v.category).sum ≤ 8 := lv_room (by rw [pm_wt_v]; exact hwt)
  have hdc : decode c.code (F0 m pc lr (st.map (pm_v ad tk))).pc = .ok (i, 3) := by rw [hb]; exact hd
  have hsz : (F0 m pc lr (st.map (pm_v ad tk))).locals.size = c.maxLocals := hlr.trans hml.symm
  obtain ⟨mm', n', kd', ci', hL', -, hlk⟩ := hlk
  rw [hL] at hL'
  cases hL'
  have hPc' : ∀ vm₁ : Vm, s.WarmedH vm₁ → Pc (a.map (pm_v ad tk)).toArray (T.setVm vm₁) := fun vm₁ hW => hPc _ hT hW
  subst hT
  cases i with
  | invokestatic k =>
    obtain ⟨-, hn, hstat, hlnk⟩ := hlk
    have hstk : (F0 m pc lr (st.map (pm_v ad tk))).stack = (a.map (pm_v ad tk)).reverse ++ r.map (pm_v ad tk) := by
      show st.map (pm_v ad tk) = _
      rw [hst, List.map_append, List.map_reverse]
    rcases hlnk with hw | ⟨host, hw⟩
    · exact pm_callS St hx hM hcw hbl hown (hts _ hw) (hts _ hstat) rfl (by rw [List.length_map, hAl, hn]) hsz hstk hW8 hdc hf hPc'
    · exact pm_callSN St hx hM hcw hbl hown (hts _ hw) (hts _ hstat) rfl (by rw [List.length_map, hAl, hn]) hsz hstk hW8 hdc hf hPc'
  | invokevirtual k =>
    obtain ⟨c', T9, N9, rfl, hn, hcl, hinst, hsel, hlnk⟩ := hlk
    cases a with
    | nil => cases hrc
    | cons v0 As =>
      cases v0 <;> try (cases hrc)
      rename_i b
      have hrc : pm_isO h b c' = true := hrc
      obtain ⟨fs, hb9⟩ := pm_isO_s hrc
      obtain ⟨cellB, g1, g2, g3⟩ := va_recv hK hP hcl (pm_w_at hb9)
      have hstk : (F0 m pc lr (st.map (pm_v ad tk))).stack = (As.map (pm_v ad tk)).reverse ++ .ref (ad b) :: r.map (pm_v ad tk) := by
        show st.map (pm_v ad tk) = _
        rw [hst, List.map_append, List.reverse_cons, List.map_append, List.map_reverse, List.append_assoc]
        rfl
      have hlen : (As.map (pm_v ad tk)).length = (MI mm).2.2.2.2.2 := by
        rw [List.length_map]
        have : As.length + 1 = (MI mm).2.2.2.2.2 + 1 := hAl.trans hn
        omega
      rcases hlnk with hw | ⟨host, hw⟩
      · exact pm_callV St hx hM hcw hbl hown (hts _ hw) (hts _ hinst) (hts _ hsel) g1 g2 g3 rfl hlen hsz hstk hW8 hdc hf hPc'
      · exact pm_callVN St hx hM hcw hbl hown (hts _ hw) (hts _ hinst) (hts _ hsel) g1 g2 g3 rfl hlen hsz hstk hW8 hdc hf hPc'
  | invokespecial k =>
    obtain ⟨c', rfl, hn, hnm, hinst, hcode, hlnk⟩ := hlk
    cases a with
    | nil => cases hrc
    | cons v0 As =>
      cases v0 <;> try (cases hrc)
      rename_i b
      have hstk : (F0 m pc lr (st.map (pm_v ad tk))).stack = (As.map (pm_v ad tk)).reverse ++ .ref (ad b) :: r.map (pm_v ad tk) := by
        show st.map (pm_v ad tk) = _
        rw [hst, List.map_append, List.reverse_cons, List.map_append, List.map_reverse, List.append_assoc]
        rfl
      have hlen : (As.map (pm_v ad tk)).length = (MI mm).2.2.2.2.2 := by
        rw [List.length_map]
        have : As.length + 1 = (MI mm).2.2.2.2.2 + 1 := hAl.trans hn
        omega
      rcases hlnk with hw | ⟨host, hw⟩
      · exact pm_callI St hx hM hcw hbl hown hnm (hts _ hw) (hts _ hinst) (hts _ hcode) rfl hlen hsz hstk hW8 hdc hf hPc'
      · exact pm_callIN St hx hM hcw hbl hown hnm (hts _ hw) (hts _ hinst) (hts _ hcode) rfl hlen hsz hstk hW8 hdc hf hPc'
  | _ => exact hlk.elim
end PMS
