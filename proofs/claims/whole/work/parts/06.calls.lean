/-! .. fourth piece: contracts of methods that return or throw, and their calls. (The proof of pm_back goes as the library's Back.of_free goes, with the second outcome beside the first.) -/
def pm_Fr (mc ms : Nat) (free : Addr → Prop) (st t : State) : Prop := ∃ L : List Loc, st.WarmedH t.vm ∧ st.sameButNew ({ t with vm := st.vm } : State) L mc ms ∧ ∀ q ∈ L, free q.base
/-- the method y ends, whatever lies below; what Qc says of its end holds; at most mc cells of ms slots are new, and of the old cells only those of 'free' were written -/
def pm_Met (l : Launch) (y : MethodName) (ws : List Cond) (rm : Room) (Pc : Array Value → State → Prop) (Qc : Array Value → State → Outcome → State → Prop) (mc ms : Nat) (free : Addr → Prop) : Prop :=
  MetFree l y (headSpec ws rm) Pc (fun _ _ _ _ _ => True) (fun a st o t => Qc a st o t ∧ pm_Fr mc ms free st t)
/-- what stands behind a call of y with the arguments a from the frame g: it has come back, or it has thrown -/
def pm_Aft (p : Program) (l : Launch) (e : Env) (R : Room) (s : State) (m : MethodId) (sargs : Array Value) (below : List Frame) (meth : Method) (c : Code) (locs : List Loc) (cells slots mc ms : Nat) (free : Addr → Prop) (Qa : State → Outcome → State → Prop) (S0 : State) (g : JFrame) (len : Nat) (H : Heap) : Prop :=
  ∃ (st t U' : State) (L : List Loc), st.heap = H ∧ s.WarmedH st.vm ∧ U'.heap = t.heap ∧ U'.vm = t.vm ∧ Stand p l e R s m sargs below meth c U' (locs ++ L) (cells + mc) (slots + ms) ∧ (∀ q ∈ L, free q.base) ∧
    ((∃ v, Qa st (.returned v) t ∧ Steps p.tables e below S0 (U'.setTop { g with pc := g.pc + len, stack := v.toList ++ g.stack })) ∨
     ∃ x, Qa st (.threw x) t ∧ Steps p.tables e below S0 ((U'.setTop g).pushFrame (.throwing x)))
section PMB
variable {l : Launch} {R : Room} {p : Program} {e : Env} {below : List Frame} {s : State} {sargs : Array Value} {y : MethodName} {len : Nat} {m : MethodId} {meth : Method} {c : Code} {U : State} {locs : List Loc} {cells slots : Nat}
theorem pm_back {ws : List Cond} {rm : Room} {Pc : Array Value → State → Prop} {Qc : Array Value → State → Outcome → State → Prop} {mc ms maxL : Nat} {free : Addr → Prop} {g : JFrame} {ig : Instr} {mk : MethodId} {a : Array Value}
    (hM : pm_Met l y ws rm Pc Qc mc ms free) (X : Stand p l e R s m sargs below meth c U locs cells slots) (hg : g.method = m) (hsize : g.locals.size = c.maxLocals) (hdg : decode c.code g.pc = .ok (ig, len))
    (hW : 2 * g.monitorRoom + (g.stack.map fun v => v.category).sum ≤ 8) (hn : U.methodNamed? y = some mk)
    (hframes : rm.frames + 1 ≤ R.frames) (hlocals : 8 + (maxL + 11) + rm.locals ≤ R.locals) (hrc : rm.cells = mc) (hrs : rm.slots = ms) (hcc : cells + mc ≤ R.cells) (hss : slots + ms ≤ R.slots)
    (h1 : (headSpec ws rm).pre.before a U = true) (h2 : ∃ methY cY, U.vm.method? mk = some methY ∧ methY.code = some cY ∧ cY.maxLocals = maxL) (h3 : (Cond.initialized y.cls).before a U = true) (hPc : Pc a (U.calling g mk a)) :
    pm_Aft p l e R s m sargs below meth c locs cells slots mc ms free (Qc a) (doInvoke e (U.setTop g) [] mk a).1 g len U.heap := by
  have h4 : cells + (headSpec ws rm).room.cells ≤ R.cells := by rw [show (headSpec ws rm).room.cells = mc from hrc]; exact hcc
  have h5 : slots + (headSpec ws rm).room.slots ≤ R.slots := by rw [show (headSpec ws rm).room.slots = ms from hrs]; exact hss
  obtain ⟨methY, cY, hmY, hcY, hlY⟩ := h2
  obtain ⟨kY, hkY, -⟩ := className_of_methodNamed hn
  have hinitY : kY.init = .initialized := Cond.initialized_spec (findClass_of_methodNamed hn) hkY h3
  have h : At U g.method c below := by rw [hg]; exact X.here
  have hloc9 : 8 + (maxL + 11) + (headSpec ws rm).room.locals ≤ R.locals := hlocals
  have happ : (headSpec ws rm).appliesLoose y e.platform (U.calling g mk a) = true :=
    Spec.appliesLoose_calling (g := g) h hdg hn hkY hinitY
      (X.room_calling (g := g) (R' := (headSpec ws rm).room) hsize hmY hcY hframes (by rw [hlY]; omega) h4 h5) h1
  obtain ⟨mid, hmid⟩ := h.above
  have hfr : (U.setTop g).frames = (.java g :: mid) ++ below := by rw [State.frames_setTop' g h.top, hmid]; rfl
  obtain ⟨o, s₂, hsteps, -, hend, hq⟩ := Steps.callFree hM p X.admits X.cas X.clock (acts := []) hfr happ hPc trivial
  have hq' : Qc a (U.calling g mk a) o s₂ ∧ pm_Fr mc ms free (U.calling g mk a) s₂ := hq
  obtain ⟨hqc, L, hW₂, hsm, hL⟩ := hq'
  rw [State.frames_setTop' g h.top] at hend
  obtain ⟨e2, q2, q3, q4, q5, q6⟩ := id hsm
  have e3 : s₂ = ({ (U.calling g mk a).setFrames s₂.frames with heap := s₂.heap, slotsUsed := s₂.slotsUsed } : State).setVm s₂.vm := by
    have : s₂ = ({ s₂ with vm := (U.calling g mk a).vm } : State).setVm s₂.vm := rfl
    rw [e2] at this
    exact this
  have hW' : U.WarmedH s₂.vm := hW₂
  obtain ⟨g₀, hg0⟩ := Option.isSome_iff_exists.mp h.top
  obtain ⟨r, hr⟩ := State.topJava?_eq_some.mp hg0
  have hr' : (({ U with heap := s₂.heap, slotsUsed := s₂.slotsUsed } : State).setVm s₂.vm).frames = .java g₀ :: r := hr
  have hsame : U.sameButNew ({ U with heap := s₂.heap, slotsUsed := s₂.slotsUsed } : State) L mc ms := by
    refine ⟨?_, q2, q3, q4, q5, q6⟩
    obtain ⟨t, ht, -⟩ := State.frames_cons hr
    show ({ U with heap := s₂.heap, slotsUsed := s₂.slotsUsed } : State) = { U.setFrames U.frames with heap := s₂.heap, slotsUsed := s₂.slotsUsed }
    rw [State.setFrames_self ht]
  subst hg
  have X' : Stand p l e R s g.method sargs below meth c (({ U with heap := s₂.heap, slotsUsed := s₂.slotsUsed } : State).setVm s₂.vm) (locs ++ L) (cells + mc) (slots + ms) :=
    ⟨X.admits, X.cas, X.clock, X.frames, X.room, X.hears, X.method, X.code, (X.here.setHeapUsed s₂.heap s₂.slotsUsed).setVm hW'.alike, X.tail, State.WarmedH.trans X.warmed hW', X.limits, X.bytes, X.same.trans (hsame.setVm s.vm)⟩
  refine ⟨U.calling g mk a, s₂, (({ U with heap := s₂.heap, slotsUsed := s₂.slotsUsed } : State).setVm s₂.vm), L, rfl, X.warmed, rfl, rfl, X', hL, ?_⟩
  cases o with
  | returned v =>
    refine Or.inl ⟨v, hqc, ?_⟩
    obtain ⟨c₂, i₂, len₂, hc₂, hd₂, hf₂⟩ := hend
    have hcc2 : c₂ = c := by
      have h1 : s₂.code? g.method = U.code? g.method := by
        rw [State.code?_eq, State.code?_eq, hW'.alike.method?]
      exact Option.some.inj (hc₂.symm.trans (h1.trans h.code))
    subst hcc2
    have hlen : len₂ = len := by rw [hdg] at hd₂; cases hd₂; rfl
    subst hlen
    have hs₂ : s₂ = (({ U with heap := s₂.heap, slotsUsed := s₂.slotsUsed } : State).setVm s₂.vm).setTop { g with pc := g.pc + len₂, stack := v.toList ++ g.stack } := by
      refine e3.trans ?_
      rw [hf₂, State.calling_eq h.top, State.setFrames_setFrames, State.setTop_of_frames _ hr', hr]
      rfl
    rw [← hs₂]
    exact hsteps
  | threw x =>
    refine Or.inr ⟨x, hqc, ?_⟩
    have hf₂ : s₂.frames = .throwing x :: .java g :: U.frames.tail := hend
    have hs₂ : s₂ = ((({ U with heap := s₂.heap, slotsUsed := s₂.slotsUsed } : State).setVm s₂.vm).setTop g).pushFrame (.throwing x) := by
      refine e3.trans ?_
      rw [hf₂, State.calling_eq h.top, State.setFrames_setFrames, State.pushFrame, State.frames_setTop _ hr', State.setTop_of_frames _ hr', State.setFrames_setFrames, hr]
      rfl
    rw [← hs₂]
    exact hsteps
end PMB
/-- what a caller that began in s must know of the callee y -/
def pm_Cw (R : Room) (s : State) (y : MethodName) (maxL n : Nat) (ws : List Cond) (rm : Room) (mc ms : Nat) : Prop :=
  rm.cells = mc ∧ rm.slots = ms ∧ rm.frames + 1 ≤ R.frames ∧ 8 + (maxL + 11) + rm.locals ≤ R.locals ∧ (∀ w ∈ ws, ∀ (a' : Array Value) (U : State), s.WarmedH U.vm → w.before a' U = true) ∧
  (∀ (a' : Array Value) (U : State), s.WarmedH U.vm → (Cond.initialized y.cls).before a' U = true) ∧
  (∀ (U : State) (mk : MethodId), s.WarmedH U.vm → U.methodNamed? y = some mk → ∃ methY cY, U.vm.method? mk = some methY ∧ methY.code = some cY ∧ cY.maxLocals = maxL ∧ methY.sig.parameters.length = n) ∧
  (∃ mk, s.methodNamed? y = some mk) ∧ (y.cls ≠ "java/lang/invoke/MethodHandle" ∧ y.cls ≠ "java/lang/invoke/VarHandle") ∧ (∀ sig, parseMethodDescriptor y.desc = some sig → n = sig.parameters.length)
section PMC
variable {p : Program} {l : Launch} {e : Env} {R : Room} {s : State} {m : MethodId} {args : Array Value} {below : List Frame} {meth : Method} {c : Code} {T : State} {locs : List Loc} {cells slots : Nat}
variable {y : MethodName} {ws : List Cond} {rm : Room} {Pc : Array Value → State → Prop} {Qc : Array Value → State → Outcome → State → Prop} {mc ms maxL n index : Nat} {free : Addr → Prop} {own C host : String} {g : JFrame} {As rest : List Value} {b : Addr}
/-- the end of all of them: the callee is entered at T with tables vm₁, and g's arguments are gone from its stack -/
theorem pm_enter {ig : Instr} {a : Array Value} {vm₁ : Vm} {mk : MethodId} (hM : pm_Met l y ws rm Pc Qc mc ms free) (hcw : pm_Cw R s y maxL n ws rm mc ms) (hbl : FrameBlind Pc) (X₁ : Stand p l e R s m args below meth c (T.setVm vm₁) locs cells slots) (hg : g.method = m) (hsize : g.locals.size = c.maxLocals)
    (hW : 2 * g.monitorRoom + (rest.map fun v => v.category).sum ≤ 8) (hdg : decode c.code g.pc = .ok (ig, 3)) (hn : s.methodNamed? y = some mk) (hf : cells + mc ≤ R.cells ∧ slots + ms ≤ R.slots) (hPc : Pc a (T.setVm vm₁))
    (hstep : ∀ target, (∀ acts, Steps p.tables e below (doInvoke e ((T.setVm vm₁).setTop { g with stack := rest }) acts mk a).1 target) → Steps p.tables e below (T.setTop g) target) :
    pm_Aft p l e R s m args below meth c locs cells slots mc ms free (Qc a) (T.setTop g) { g with stack := rest } 3 T.heap := by
  obtain ⟨hrc, hrs, hfr, hlo, hws, hini, hcd, -, -, -⟩ := hcw
  have hn1 := X₁.named hn
  obtain ⟨methY, cY, k1, k2, k3, -⟩ := hcd _ mk X₁.warmed hn1
  obtain ⟨st, t, U', L, q1, q2, q3, q4, q5, q6, q7⟩ := pm_back (g := { g with stack := rest }) (ig := ig) (len := 3) (a := a) hM X₁ hg hsize hdg hW hn1 hfr hlo hrc hrs hf.1 hf.2 (atoms_intro fun w hw => hws w hw _ _ X₁.warmed) ⟨methY, cY, k1, k2, k3⟩ (hini _ _ X₁.warmed) (hbl _ _ _ _ hPc)
  refine ⟨st, t, U', L, q1, q2, q3, q4, q5, q6, ?_⟩
  rcases q7 with ⟨v, r1, r2⟩ | ⟨x, r1, r2⟩
  · exact Or.inl ⟨v, r1, hstep _ fun acts => by rw [doInvoke_state]; exact r2⟩
  · exact Or.inr ⟨x, r1, hstep _ fun acts => by rw [doInvoke_state]; exact r2⟩
theorem pm_callV (X : Stand p l e R s m args below meth c T locs cells slots) (hexec : p.tables.exec = Jvm.exec) (hM : pm_Met l y ws rm Pc Qc mc ms free) (hcw : pm_Cw R s y maxL n ws rm mc ms) (hbl : FrameBlind Pc)
    (hown : s.vm.findClass own = some m.cls) (hlink : (Cond.methodLink own index y).before args s = true) (hinst : (Cond.instanceMethod y).before args s = true) (hsel : (Cond.selects C y y).before args s = true)
    {cellB : Cell} (hcell : T.heap[b]? = some cellB) (hobj : cellB.vm.isStatics = false) (hcls : s.vm.findClass C = some cellB.cls)
    (hg : g.method = m) (hn : As.length = n) (hsize : g.locals.size = c.maxLocals) (hstack : g.stack = As.reverse ++ .ref b :: rest) (hW : 2 * g.monitorRoom + (rest.map fun v => v.category).sum ≤ 8) (hdg : decode c.code g.pc = .ok (.invokevirtual index, 3))
    (hf : cells + mc ≤ R.cells ∧ slots + ms ≤ R.slots) (hPc : ∀ vm₁, s.WarmedH vm₁ → Pc (Value.ref b :: As).toArray (T.setVm vm₁)) :
    pm_Aft p l e R s m args below meth c locs cells slots mc ms free (Qc (Value.ref b :: As).toArray) (T.setTop g) { g with stack := rest } 3 T.heap := by
  obtain ⟨mk, methM, hnamed, hmethM, hstM, habM⟩ := Cond.instanceMethod_spec hinst
  obtain ⟨methY, cY, k1, -, -, k4⟩ := hcw.2.2.2.2.2.2.1 s mk (State.WarmedH.refl s) hnamed
  cases hmethM.symm.trans k1
  have hy := hcw.2.2.2.2.2.2.2.2.1
  obtain ⟨c2, r2, m2, q1, q2, q3, q4, kP, hkP, hkPi⟩ := Cond.selects_spec hsel
  cases hcls.symm.trans q1
  cases (State.methodFound?_of_named hnamed hy).symm.trans q2
  cases hnamed.symm.trans q3
  have hselP : selectMethod e.platform s.vm cellB.cls mk = .method mk := by rw [Launch.admits_selectMethod X.admits]; exact q4
  obtain ⟨vm₁, X₁, hstep₁⟩ := X.invokevirtual hexec hown hlink hnamed hmethM hstM hkP hkPi hy (a := b) (cell := cellB) hcell
    (fun z h => by rw [h] at hobj; cases hobj) hselP hmethM habM hkP hkPi (g := g) hg (argsL := As) (rest := rest) (hn.trans k4.symm) hstack hdg
  exact pm_enter hM hcw hbl X₁ hg hsize hW hdg hnamed hf (hPc vm₁ X₁.warmed) hstep₁
theorem pm_callVN (X : Stand p l e R s m args below meth c T locs cells slots) (hexec : p.tables.exec = Jvm.exec) (hM : pm_Met l y ws rm Pc Qc mc ms free) (hcw : pm_Cw R s y maxL n ws rm mc ms) (hbl : FrameBlind Pc)
    (hown : s.vm.findClass own = some m.cls) (hlink : (Cond.methodLinkNest own index y host).before args s = true) (hinst : (Cond.instanceMethod y).before args s = true) (hsel : (Cond.selects C y y).before args s = true)
    {cellB : Cell} (hcell : T.heap[b]? = some cellB) (hobj : cellB.vm.isStatics = false) (hcls : s.vm.findClass C = some cellB.cls)
    (hg : g.method = m) (hn : As.length = n) (hsize : g.locals.size = c.maxLocals) (hstack : g.stack = As.reverse ++ .ref b :: rest) (hW : 2 * g.monitorRoom + (rest.map fun v => v.category).sum ≤ 8) (hdg : decode c.code g.pc = .ok (.invokevirtual index, 3))
    (hf : cells + mc ≤ R.cells ∧ slots + ms ≤ R.slots) (hPc : ∀ vm₁, s.WarmedH vm₁ → Pc (Value.ref b :: As).toArray (T.setVm vm₁)) :
    pm_Aft p l e R s m args below meth c locs cells slots mc ms free (Qc (Value.ref b :: As).toArray) (T.setTop g) { g with stack := rest } 3 T.heap := by
  obtain ⟨mk, methM, hnamed, hmethM, hstM, habM⟩ := Cond.instanceMethod_spec hinst
  obtain ⟨methY, cY, k1, -, -, k4⟩ := hcw.2.2.2.2.2.2.1 s mk (State.WarmedH.refl s) hnamed
  cases hmethM.symm.trans k1
  have hy := hcw.2.2.2.2.2.2.2.2.1
  obtain ⟨c2, r2, m2, q1, q2, q3, q4, kP, hkP, hkPi⟩ := Cond.selects_spec hsel
  cases hcls.symm.trans q1
  cases (State.methodFound?_of_named hnamed hy).symm.trans q2
  cases hnamed.symm.trans q3
  have hselP : selectMethod e.platform s.vm cellB.cls mk = .method mk := by rw [Launch.admits_selectMethod X.admits]; exact q4
  obtain ⟨vm₁, X₁, hstep₁⟩ := X.invokevirtualNest hexec hown hlink hnamed hmethM hstM hkP hkPi hy (a := b) (cell := cellB) hcell
    (fun z h => by rw [h] at hobj; cases hobj) hselP hmethM habM hkP hkPi (g := g) hg (argsL := As) (rest := rest) (hn.trans k4.symm) hstack hdg
  exact pm_enter hM hcw hbl X₁ hg hsize hW hdg hnamed hf (hPc vm₁ X₁.warmed) hstep₁
theorem pm_callS (X : Stand p l e R s m args below meth c T locs cells slots) (hexec : p.tables.exec = Jvm.exec) (hM : pm_Met l y ws rm Pc Qc mc ms free) (hcw : pm_Cw R s y maxL n ws rm mc ms) (hbl : FrameBlind Pc)
    (hown : s.vm.findClass own = some m.cls) (hlink : (Cond.methodLink own index y).before args s = true) (hstat : (Cond.static y).before args s = true)
    (hg : g.method = m) (hn : As.length = n) (hsize : g.locals.size = c.maxLocals) (hstack : g.stack = As.reverse ++ rest) (hW : 2 * g.monitorRoom + (rest.map fun v => v.category).sum ≤ 8) (hdg : decode c.code g.pc = .ok (.invokestatic index, 3))
    (hf : cells + mc ≤ R.cells ∧ slots + ms ≤ R.slots) (hPc : ∀ vm₁, s.WarmedH vm₁ → Pc As.toArray (T.setVm vm₁)) :
    pm_Aft p l e R s m args below meth c locs cells slots mc ms free (Qc As.toArray) (T.setTop g) { g with stack := rest } 3 T.heap := by
  obtain ⟨mk, hnamed⟩ := hcw.2.2.2.2.2.2.2.1
  obtain ⟨methM, cY, hmethM, -, -, k4⟩ := hcw.2.2.2.2.2.2.1 s mk (State.WarmedH.refl s) hnamed
  have hy := hcw.2.2.2.2.2.2.2.2.1
  have hstatic : methM.isStatic = true := Cond.static_spec hnamed hmethM hstat
  obtain ⟨kP, hkP, -⟩ := className_of_methodNamed hnamed
  have hinitP : kP.init = .initialized := Cond.initialized_spec (findClass_of_methodNamed hnamed) hkP (hcw.2.2.2.2.2.1 args s (State.WarmedH.refl s))
  obtain ⟨vm₁, X₁, hstep₁⟩ := X.invokestatic hexec hown hlink hnamed hmethM hstatic hkP hinitP hy (g := g) hg (argsL := As) (rest := rest) (hn.trans k4.symm) hstack hdg
  exact pm_enter hM hcw hbl X₁ hg hsize hW hdg hnamed hf (hPc vm₁ X₁.warmed) hstep₁
theorem pm_callSN (X : Stand p l e R s m args below meth c T locs cells slots) (hexec : p.tables.exec = Jvm.exec) (hM : pm_Met l y ws rm Pc Qc mc ms free) (hcw : pm_Cw R s y maxL n ws rm mc ms) (hbl : FrameBlind Pc)
    (hown : s.vm.findClass own = some m.cls) (hlink : (Cond.methodLinkNest own index y host).before args s = true) (hstat : (Cond.static y).before args s = true)
    (hg : g.method = m) (hn : As.length = n) (hsize : g.locals.size = c.maxLocals) (hstack : g.stack = As.reverse ++ rest) (hW : 2 * g.monitorRoom + (rest.map fun v => v.category).sum ≤ 8) (hdg : decode c.code g.pc = .ok (.invokestatic index, 3))
    (hf : cells + mc ≤ R.cells ∧ slots + ms ≤ R.slots) (hPc : ∀ vm₁, s.WarmedH vm₁ → Pc As.toArray (T.setVm vm₁)) :
    pm_Aft p l e R s m args below meth c locs cells slots mc ms free (Qc As.toArray) (T.setTop g) { g with stack := rest } 3 T.heap := by
  obtain ⟨mk, hnamed⟩ := hcw.2.2.2.2.2.2.2.1
  obtain ⟨methM, cY, hmethM, -, -, k4⟩ := hcw.2.2.2.2.2.2.1 s mk (State.WarmedH.refl s) hnamed
  have hy := hcw.2.2.2.2.2.2.2.2.1
  have hstatic : methM.isStatic = true := Cond.static_spec hnamed hmethM hstat
  obtain ⟨kP, hkP, -⟩ := className_of_methodNamed hnamed
  have hinitP : kP.init = .initialized := Cond.initialized_spec (findClass_of_methodNamed hnamed) hkP (hcw.2.2.2.2.2.1 args s (State.WarmedH.refl s))
  obtain ⟨vm₁, X₁, hstep₁⟩ := X.invokestaticNest hexec hown hlink hnamed hmethM hstatic hkP hinitP hy (g := g) hg (argsL := As) (rest := rest) (hn.trans k4.symm) hstack hdg
  exact pm_enter hM hcw hbl X₁ hg hsize hW hdg hnamed hf (hPc vm₁ X₁.warmed) hstep₁
theorem pm_callI {bytes : ByteArray} (X : Stand p l e R s m args below meth c T locs cells slots) (hexec : p.tables.exec = Jvm.exec) (hM : pm_Met l y ws rm Pc Qc mc ms free) (hcw : pm_Cw R s y maxL n ws rm mc ms) (hbl : FrameBlind Pc)
    (hown : s.vm.findClass own = some m.cls) (hy1 : y.name = "<init>") (hlink : (Cond.methodLink own index y).before args s = true) (hinst : (Cond.instanceMethod y).before args s = true) (hcode : (Cond.code y bytes maxL none).before args s = true)
    (hg : g.method = m) (hn : As.length = n) (hsize : g.locals.size = c.maxLocals) (hstack : g.stack = As.reverse ++ .ref b :: rest) (hW : 2 * g.monitorRoom + (rest.map fun v => v.category).sum ≤ 8) (hdg : decode c.code g.pc = .ok (.invokespecial index, 3))
    (hf : cells + mc ≤ R.cells ∧ slots + ms ≤ R.slots) (hPc : ∀ vm₁, s.WarmedH vm₁ → Pc (Value.ref b :: As).toArray (T.setVm vm₁)) :
    pm_Aft p l e R s m args below meth c locs cells slots mc ms free (Qc (Value.ref b :: As).toArray) (T.setTop g) { g with stack := rest } 3 T.heap := by
  subst hg
  have hpl : e.platform.magicAccessors = ({} : Platform).magicAccessors := by rw [X.admits.platform]
  have hy := hcw.2.2.2.2.2.2.2.2.1
  obtain ⟨mk, methM, cM, kP, vm₁, hnamed, hmethM, hcodeM, -, hlocalsM, -, hkP, -, hW₁, hstep₁⟩ := Steps.initColdArgs (e := e) X.here hexec X.warmed hpl hown hy1 hy hlink hinst hcode (f := g) rfl (fun sig h => hn.trans (hcw.2.2.2.2.2.2.2.2.2 sig h)) hstack hdg
  exact pm_enter hM hcw hbl (X.noted hW₁) rfl hsize hW hdg hnamed hf (hPc vm₁ hW₁) hstep₁
theorem pm_callIN {bytes : ByteArray} (X : Stand p l e R s m args below meth c T locs cells slots) (hexec : p.tables.exec = Jvm.exec) (hM : pm_Met l y ws rm Pc Qc mc ms free) (hcw : pm_Cw R s y maxL n ws rm mc ms) (hbl : FrameBlind Pc)
    (hown : s.vm.findClass own = some m.cls) (hy1 : y.name = "<init>") (hlink : (Cond.methodLinkNest own index y host).before args s = true) (hinst : (Cond.instanceMethod y).before args s = true) (hcode : (Cond.code y bytes maxL none).before args s = true)
    (hg : g.method = m) (hn : As.length = n) (hsize : g.locals.size = c.maxLocals) (hstack : g.stack = As.reverse ++ .ref b :: rest) (hW : 2 * g.monitorRoom + (rest.map fun v => v.category).sum ≤ 8) (hdg : decode c.code g.pc = .ok (.invokespecial index, 3))
    (hf : cells + mc ≤ R.cells ∧ slots + ms ≤ R.slots) (hPc : ∀ vm₁, s.WarmedH vm₁ → Pc (Value.ref b :: As).toArray (T.setVm vm₁)) :
    pm_Aft p l e R s m args below meth c locs cells slots mc ms free (Qc (Value.ref b :: As).toArray) (T.setTop g) { g with stack := rest } 3 T.heap := by
  subst hg
  have hpl : e.platform.magicAccessors = ({} : Platform).magicAccessors := by rw [X.admits.platform]
  have hy := hcw.2.2.2.2.2.2.2.2.1
  obtain ⟨mk, methM, cM, kP, vm₁, hnamed, hmethM, hcodeM, -, hlocalsM, -, hkP, -, hW₁, hstep₁⟩ := Steps.initColdArgsNest (e := e) X.here hexec X.warmed hpl hown hy1 hy hlink hinst hcode (f := g) rfl (fun sig h => hn.trans (hcw.2.2.2.2.2.2.2.2.2 sig h)) hstack hdg
  exact pm_enter hM hcw hbl (X.noted hW₁) rfl hsize hW hdg hnamed hf (hPc vm₁ hW₁) hstep₁
end PMC
