/-! .. eighth piece: how a method ends: returns, throws, and what is caught. -/
/-- what a body owes at its end -/
def pm_MQ (below : List Frame) (Qc : Array Value → State → Outcome → State → Prop) (a : Array Value) (s : State) (mc ms : Nat) (free : Addr → Prop) : State → Prop := fun t =>
  ∃ o, t.status = .running ∧ Ended t below o ∧ Qc a s o t ∧ pm_Fr mc ms free s t
/-- the frame g, with x thrown over it -/
def pm_WX (p : Program) (l : Launch) (e : Env) (R : Room) (s : State) (m : MethodId) (args : Array Value) (below : List Frame) (meth : Method) (c : Code) (H : Heap) (locs : List Loc) (cells slots : Nat) (Q : State → Prop) (g : JFrame) (x : Addr) : Prop :=
  ∀ T : State, T.heap = H → Stand p l e R s m args below meth c T locs cells slots → ∃ t, Steps p.tables e below ((T.setTop g).pushFrame (.throwing x)) t ∧ Q t
/-- a row that covers the pc and names a class, its entry not yet resolved: the search goes on as it does behind the resolution -/
theorem pm_go_cold {Qh : Handler → Pre} {E : CtlPost} {e : Env} {d : Bool} {acts : List Action} {S : State} {V : Vm} {g : JFrame} {x : Addr} {z : ExceptionTableEntry} {t : List ExceptionTableEntry} {cz : ClassId}
    (hz : covers z g.pc = true) (h0 : z.catchType ≠ 0) (hg : (Jvm.resolveClass g.method.cls z.catchType).Gives e.toSetting S.vm (.ok cz) V) (hr : V.classReady g.method.cls z.catchType cz) (hsz : V.classes.size ≤ S.vm.classes.size) :
    wp (findHandler.go g x (z :: t)) Qh E e d acts S ↔ wp (findHandler.go g x (z :: t)) Qh E e d acts (S.setVm V) := by
  simp only [covers] at hz
  obtain ⟨a1, a2⟩ := hg.op (op := VmOp.resolveClass g.method.cls z.catchType) rfl
  obtain ⟨k, hk, hres⟩ := hr
  obtain ⟨b1, b2⟩ := resolveClass_memo e hk hres
  have e1 : (S.setVm V).setVm V = S.setVm V := rfl
  simp [findHandler.go, hz, h0, a1, a2, b1, b2, hsz, e1, VmOp.dirties, VmOp.acts]
/-- .. so one such row decides by the class of what was thrown; its entry is resolved from then on -/
theorem pm_go_row {e : Env} {s S : State} {g : JFrame} {x : Addr} {ce : Cell} {z : ExceptionTableEntry} {cz : ClassId} (hW : s.WarmedH S.vm) (hce : S.heap[x]? = some ce) (hv : ce.vm = .none) (hk : ∃ k, s.vm.classes[ce.cls]? = some k)
    (hz : covers z g.pc = true) (h0 : z.catchType ≠ 0) (hl : s.vm.ClassLinks e.platform g.method.cls z.catchType cz) (t : List ExceptionTableEntry) :
    ∃ V : Vm, s.WarmedH V ∧ ∀ (Qh : Handler → Pre) (E : CtlPost) (d : Bool) (acts : List Action), wp (findHandler.go g x (z :: t)) Qh E e d acts S ↔
      if s.vm.assignable ce.cls cz = true then Qh (.found z.handlerPc) d acts (S.setVm V) else wp (findHandler.go g x t) Qh E e d acts (S.setVm V) := by
  obtain ⟨hg, hW', hr⟩ := State.classEntry (e := e) hW hl
  have hsz : (S.vm.noted g.method.cls z.catchType (.cls cz)).classes.size ≤ S.vm.classes.size := by no_record
  generalize S.vm.noted g.method.cls z.catchType (.cls cz) = V at hg hW' hr hsz
  obtain ⟨_, _, _, kz, _, _, _, _, _, hkz, _, _⟩ := hl.here
  obtain ⟨kc, hkc⟩ := hk
  obtain ⟨k1, h1, -⟩ := hW'.alike.2.2 _ _ hkc
  obtain ⟨k2, h2, -⟩ := hW'.alike.2.2 _ _ hkz
  refine ⟨V, hW', fun Qh E d acts => ?_⟩
  rw [pm_go_cold hz h0 hg hr hsz, W.findHandler_go_class (s := S.setVm V) hz h0 hr hce (fun q => by rw [hv]; simp) ⟨k1, h1⟩ ⟨k2, h2⟩]
  show (if V.assignable ce.cls cz = true then _ else _) ↔ _
  rw [hW'.alike.assignable]
/-- the search through the rows ahead, none of which takes it, to the one that does -/
theorem pm_go_to {e : Env} {s : State} {g : JFrame} {x : Addr} {ce : Cell} {z : ExceptionTableEntry} {suf : List ExceptionTableEntry} {cz : ClassId} (hv : ce.vm = .none) (hk : ∃ k, s.vm.classes[ce.cls]? = some k)
    (hz : covers z g.pc = true) (h0 : z.catchType ≠ 0) (hl : s.vm.ClassLinks e.platform g.method.cls z.catchType cz) (hf : s.vm.assignable ce.cls cz = true) (pre : List ExceptionTableEntry)
    (hp : ∀ y ∈ pre, covers y g.pc = false ∨ (y.catchType ≠ 0 ∧ ∃ cy, s.vm.ClassLinks e.platform g.method.cls y.catchType cy ∧ s.vm.assignable ce.cls cy = false)) {S : State} (hW : s.WarmedH S.vm) (hce : S.heap[x]? = some ce) :
    ∃ V : Vm, s.WarmedH V ∧ ∀ (Qh : Handler → Pre) (E : CtlPost) (d : Bool) (acts : List Action), wp (findHandler.go g x (pre ++ z :: suf)) Qh E e d acts S ↔ Qh (.found z.handlerPc) d acts (S.setVm V) := by
  revert S
  induction pre with
  | nil =>
    intro S hW hce
    obtain ⟨V, q1, q2⟩ := pm_go_row hW hce hv hk hz h0 hl suf
    exact ⟨V, q1, fun Qh E d acts => by rw [List.nil_append, q2, if_pos hf]⟩
  | cons y t ih =>
    intro S hW hce
    have ht := fun S : State => ih (fun w hw => hp w (List.mem_cons_of_mem _ hw)) (S := S)
    cases hy : covers y g.pc with
    | false =>
      obtain ⟨V, q1, q2⟩ := ht S hW hce
      exact ⟨V, q1, fun Qh E d acts => by rw [List.cons_append, W.findHandler_go_skip hy, q2]⟩
    | true =>
      rcases hp y (List.mem_cons_self ..) with q | ⟨y0, cy, yl, yn⟩
      · rw [hy] at q; cases q
      · obtain ⟨V, q1, q2⟩ := pm_go_row hW hce hv hk hy y0 yl (t ++ z :: suf)
        obtain ⟨V', r1, r2⟩ := ht (S.setVm V) q1 hce
        exact ⟨V', r1, fun Qh E d acts => by rw [List.cons_append, q2, if_neg (by rw [yn]; simp), r2]; rfl⟩
section PME
variable {p : Program} {l : Launch} {e : Env} {R : Room} {s : State} {m : MethodId} {args : Array Value} {below : List Frame} {meth : Method} {c : Code} {H : Heap} {locs : List Loc} {cells slots : Nat} {Q : State → Prop} {Qc : Array Value → State → Outcome → State → Prop} {free : Addr → Prop} {g : JFrame} {mc ms : Nat}
theorem pm_ofMQ (k : W p l e R s m args below meth c H locs cells slots (MQ below Qc args s mc ms free) g) : W p l e R s m args below meth c H locs cells slots (pm_MQ below Qc args s mc ms free) g := by
  intro T hT X
  obtain ⟨t, a1, o, b1, b2, b3, L, hF, hL⟩ := k T hT X
  exact ⟨t, a1, o, b1, b2, b3, L, hF.2.1, hF.2.2, hL⟩
theorem pm_ofW {y : MethodName} {ws : List Cond} {rm : Room} {Pc : Array Value → State → Prop} {cc : ByteArray} {maxL : Nat} {ret : Option FieldType} (hy : plainFor y = true) (hw : Cond.code y cc maxL ret ∈ ws ∨ ∃ hh, Cond.codeWith y cc maxL ret hh ∈ ws)
    (body : ∀ p e s m args below meth c s₁, BodyLoose p l y (headSpec ws rm) cc maxL ret e s m args below meth c s₁ → c.maxLocals = maxL → Pc args s →
      W p l e (headSpec ws rm).room s m args below meth c s.heap [] 0 0 (pm_MQ below Qc args s mc ms free) (entryFrame m args maxL)) : pm_Met l y ws rm Pc Qc mc ms free := by
  refine MetFree.of_bodySF (code := cc) (maxLocals := maxL) (ret := ret) hy ?_ ?_
  · intro args s m h hn
    rcases hw with hw | ⟨hh, hw⟩
    · obtain ⟨meth, c, h1, h2, h3, h4, h5, h6, -, -⟩ := Cond.code_spec hn (atoms_spec (ws := ws) h _ hw)
      exact ⟨meth, c, h1, h2, h3, h4, h5, h6⟩
    · obtain ⟨m9, meth, c, hn9, h1, h2, h3, h4, -, h5, h6, -⟩ := Cond.codeWith_spec (atoms_spec (ws := ws) h _ hw)
      cases hn.symm.trans hn9
      exact ⟨meth, c, h1, h2, h3, h4, h5, h6⟩
  · intro p e s m args below meth c s₁ B hml hP _
    have hh0 : s₁.heap = s.heap := by rw [B.state]; rfl
    obtain ⟨t, a1, o, b1, b2, b3, b4⟩ := body p e s m args below meth c s₁ B hml hP s₁ hh0 (Stand.of_body B)
    exact ⟨t, o, a1, b1, b2, b3, b4⟩
/-- a call, its two ways on -/
theorem pm_W_call {Qa : State → Outcome → State → Prop} {pc : Nat} {lr : Array Slot} {st0 rest : List Value}
    (hrun : ∀ T : State, T.heap = H → Stand p l e R s m args below meth c T locs cells slots → pm_Aft p l e R s m args below meth c locs cells slots mc ms free Qa (T.setTop (F0 m pc lr st0)) (F0 m pc lr rest) 3 H)
    (kr : ∀ (st t : State) (v : Option Value) (L : List Loc), st.heap = H → s.WarmedH st.vm → s.vm.Alike t.vm → (∀ q ∈ L, free q.base) → Qa st (.returned v) t → W p l e R s m args below meth c t.heap (locs ++ L) (cells + mc) (slots + ms) Q (F0 m (pc + 3) lr (v.toList ++ rest)))
    (kx : ∀ (st t : State) (x : Addr) (L : List Loc), st.heap = H → s.WarmedH st.vm → s.vm.Alike t.vm → (∀ q ∈ L, free q.base) → Qa st (.threw x) t → pm_WX p l e R s m args below meth c t.heap (locs ++ L) (cells + mc) (slots + ms) Q (F0 m pc lr rest) x) :
    W p l e R s m args below meth c H locs cells slots Q (F0 m pc lr st0) := by
  intro T hT X
  obtain ⟨st, t, U', L, q1, q2, q3, q4, X', q6, q7⟩ := hrun T hT X
  have hal : s.vm.Alike t.vm := by rw [← q4]; exact X'.warmed.alike
  rcases q7 with ⟨v, r1, r2⟩ | ⟨x, r1, r2⟩
  · obtain ⟨t2, a1, b1⟩ := kr st t v L q1 q2 hal q6 r1 U' q3 X'
    exact ⟨t2, r2.trans a1, b1⟩
  · obtain ⟨t2, a1, b1⟩ := kx st t x L q1 q2 hal q6 r1 U' q3 X'
    exact ⟨t2, r2.trans a1, b1⟩
/-- not caught here: it goes on to the caller -/
theorem pm_W_out {pc : Nat} {lr : Array Slot} {rest : List Value} {x : Addr} (hout : ∀ z ∈ c.exceptionTable.toList, covers z pc = false) (hlocks : meth.locks = false) (hq : ∀ t : State, t.heap = H → s.WarmedH t.vm → Qc args s (.threw x) t) (hf : ∀ z ∈ locs, free z.base) :
    pm_WX p l e R s m args below meth c H locs cells slots (pm_MQ below Qc args s cells slots free) (F0 m pc lr rest) x := by
  intro T hT X
  obtain ⟨st1, hrun, hend, hW, hsm⟩ := X.leaveThrown x (g := F0 m pc lr rest) rfl rfl rfl hout hlocks
  exact ⟨_, st1, .threw x, hrun, hend, hq _ hT hW, locs, hW, hsm, hf⟩
/-- what was thrown over the frame g is found to be caught in it: the machine's step -/
theorem pm_caught {T : State} {V : Vm} {x : Addr} {h : Nat} (X : Stand p l e R s m args below meth c T locs cells slots) (hg : g.method = m)
    (hf : ∀ (Qh : Handler → Pre) (E : CtlPost) (d : Bool) (acts : List Action), wp (findHandler g x) Qh E e d acts ((T.setTop g).pushFrame (.throwing x)) ↔ Qh (.found h) d acts (((T.setTop g).pushFrame (.throwing x)).setVm V)) {t : State}
    (k : Steps p.tables e below ((T.setVm V).setTop { g with pc := h, stack := [.ref x] }) t) : Steps p.tables e below ((T.setTop g).pushFrame (.throwing x)) t := by
  subst hg
  obtain ⟨h1, h2⟩ := X.here.throwing x
  obtain ⟨g0, hfr⟩ := X.frames_eq
  refine Steps.head h1 h2 ?_
  rw [stepThread_throwing (frames_entered X.here.top _), X.tail]
  have e0 : ∀ (u : State) (F G : List Frame), ((u.setFrames F).setVm V).setFrames G = (u.setVm V).setFrames G := fun u F G => by
    show ((u.setVm V).setFrames F).setFrames G = _
    rw [State.setFrames_setFrames]
  have hstep : (stepThrowing e ((T.setTop g).pushFrame (.throwing x)) x (.java g :: below)).Is ((((T.setTop g).pushFrame (.throwing x)).setVm V).setFrames (.java { g with pc := h, stack := [.ref x] } :: below)) [] := by
    simp only [stepThrowing, searchFrame, vmDo]
    generalize hr : Sem.go _ e false [] _ = r
    obtain ⟨as, rfl, q⟩ := Sem.eq_ok_of hr (a := Handler.found h) (s' := ((T.setTop g).pushFrame (.throwing x)).setVm V) (acts' := []) (by simp [hf])
    exact ⟨rfl, q⟩
  rw [hstep.1, State.pushFrame, e0, State.setTop_of_frames _ hfr, e0]
  rw [State.setTop_of_frames (s := T.setVm V) _ hfr] at k
  exact k
/-- caught by the row z of this method's table; those ahead don't take it -/
theorem pm_W_catch {own name E : String} {pc : Nat} {lr : Array Slot} {rest : List Value} {x : Addr} {ce : Cell} (hown : s.vm.findClass own = some m.cls) (pre : List ExceptionTableEntry) (z : ExceptionTableEntry) (suf : List ExceptionTableEntry) (hsplit : c.exceptionTable.toList = pre ++ z :: suf)
    (hpass : ∀ y ∈ pre, covers y pc = false ∨ (y.catchType ≠ 0 ∧ ∃ nm : String, (Cond.classLink own y.catchType nm).before args s = true ∧ va_Nc E nm s)) (hz : covers z pc = true) (h0 : z.catchType ≠ 0)
    (hlink : (Cond.classLink own z.catchType name).before args s = true) (hcast : (Cond.castable E name).before args s = true) (hcell : H[x]? = some ce) (hv : ce.vm = .none) (hcl : s.vm.findClass E = some ce.cls)
    (kk : W p l e R s m args below meth c H locs cells slots Q (F0 m z.handlerPc lr [.ref x])) : pm_WX p l e R s m args below meth c H locs cells slots Q (F0 m pc lr rest) x := by
  intro T hT X
  have hpl : e.platform.magicAccessors = ({} : Platform).magicAccessors := by rw [X.admits.platform]
  obtain ⟨c3, c4, hc3, hc4, hasg⟩ := Cond.castable_spec hcast
  cases Option.some.inj (hc3.symm.trans hcl)
  obtain ⟨c5, hc5, hcl5⟩ := Cond.classLink_spec hown hlink e.platform hpl
  cases Option.some.inj (hc4.symm.trans hc5)
  obtain ⟨V, hW, hfind⟩ := pm_go_to (e := e) (s := s) (g := F0 m pc lr rest) (x := x) (suf := suf) hv (by obtain ⟨k9, h9, -⟩ := Vm.findClass_spec hcl; exact ⟨k9, h9⟩) hz h0 hcl5 hasg pre (fun y hy => by
    rcases hpass y hy with h | ⟨hy0, nm, hl1, c6, c7, h1, h2, h3⟩
    · exact Or.inl h
    · obtain ⟨c8, hc8, hcl8⟩ := Cond.classLink_spec hown hl1 e.platform hpl
      cases Option.some.inj (h1.symm.trans hcl)
      cases Option.some.inj (h2.symm.trans hc8)
      exact Or.inr ⟨hy0, _, hcl8, h3⟩) (S := (T.setTop (F0 m pc lr rest)).pushFrame (.throwing x)) X.warmed (by show T.heap[x]? = some ce; rw [hT]; exact hcell)
  obtain ⟨t, a1, b1⟩ := kk (T.setVm V) hT (X.noted hW)
  refine ⟨t, pm_caught X rfl (fun Qh E d acts => ?_) a1, b1⟩
  rw [W.findHandler_eq X.method' X.code, hsplit]
  exact hfind Qh E d acts
end PME
/-- the state as it is now, as if the method m had just been called in it -/
def pm_now (s T : State) (m : MethodId) (args : Array Value) (below : List Frame) : State := (T.setVm s.vm).setFrames (.invoking m args :: below)
section PMT
variable {p : Program} {l : Launch} {e : Env} {R : Room} {s : State} {m : MethodId} {args : Array Value} {below : List Frame} {meth : Method} {c : Code} {T : State} {locs : List Loc} {cells slots : Nat}
theorem pm_rebase (X : Stand p l e R s m args below meth c T locs cells slots) {R' : Room} (hf : R'.frames ≤ R.frames) (hl : R'.locals ≤ R.locals) (hc : cells + R'.cells ≤ R.cells) (hs : slots + R'.slots ≤ R.slots) : Stand p l e R' (pm_now s T m args below) m args below meth c T [] 0 0 := by
  have htop : (T.setVm s.vm).topJava?.isSome := X.here.top
  have hF : (pm_now s T m args below).frames = .invoking m args :: below := State.frames_setFrames _ (State.cur_lt_of_top htop)
  obtain ⟨g₀, hg0⟩ := Option.isSome_iff_exists.mp htop
  obtain ⟨r, hr⟩ := State.topJava?_eq_some.mp hg0
  have hlim : e.platform.stackLimits (pm_now s T m args below).me = e.platform.stackLimits s.me := by
    unfold pm_now
    rw [State.stackLimits_setFrames]
    exact X.limits
  have hby : (pm_now s T m args below).me.stackBytes = s.me.stackBytes := by
    unfold pm_now
    rw [State.stackBytes_setFrames]
    exact X.bytes
  have hroom : (pm_now s T m args below).hasRoom e.platform R' = true := by
    have h := X.room
    have hU : (pm_now s T m args below).localsInUse = s.localsInUse := by
      rw [State.localsInUse_invoking hF (meth := meth) (c := c) X.method X.code, State.localsInUse_invoking X.frames X.method X.code]
    simp only [State.hasRoom, Bool.and_eq_true, decide_eq_true_eq] at h ⊢
    obtain ⟨⟨⟨⟨h1, h2, h3, h4, h5, h6⟩, h7⟩, h8⟩, h9⟩ := h
    rw [X.frames, List.length_cons] at h2 h3
    have q1 := X.heapSize
    have q2 := X.used
    rw [hF, hU, hlim, hby, List.length_cons]
    refine ⟨⟨⟨⟨by omega, by omega, by omega, by omega, by omega, h6⟩, ?_⟩, ?_⟩, X.book⟩
    · show T.heap.size + R'.cells ≤ e.platform.maxCells
      omega
    · show T.slotsUsed + R'.slots ≤ e.platform.maxSlots
      omega
  refine ⟨X.admits, X.cas, X.clock, hF, hroom, X.hears, X.method, X.code, X.here, X.tail, X.warmed, ?_, ?_, ?_⟩
  · rw [hlim]; exact X.limits
  · rw [hby]; exact X.bytes
  · obtain ⟨t, ht, -⟩ := State.frames_cons hr
    have hnil : ((T.heap.toList.drop T.heap.size).map (·.slots.size)).sum = 0 := by
      rw [List.drop_eq_nil_of_le (Nat.le_of_eq Array.length_toList)]
      rfl
    refine ⟨?_, Nat.le_refl _, Nat.le_refl _, ?_, ?_, fun a c9 h9 => ⟨c9, h9, rfl, rfl, fun _ _ => rfl⟩⟩
    · show T.setVm s.vm = { (pm_now s T m args below).setFrames (T.setVm s.vm).frames with heap := T.heap, slotsUsed := T.slotsUsed }
      unfold pm_now
      rw [State.setFrames_setFrames, State.setFrames_self ht]
      rfl
    · show T.slotsUsed = T.slotsUsed + ((T.heap.toList.drop T.heap.size).map (·.slots.size)).sum
      rw [hnil]
      rfl
    · show ((T.heap.toList.drop T.heap.size).map (·.slots.size)).sum ≤ 0
      rw [hnil]
      exact Nat.le_refl _
end PMT
