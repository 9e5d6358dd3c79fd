/-! THE CLAIM OUT OF ONE WALK OF THE LAW'S BODY. Your part is whole_start (and what it stands on); all else here is the same for every law, but numbers. -/
def R_law : String := "SegmentDeskLaw"
def lw_P (b : Addr) (xs : List Int32) (args : Array Value) (s : State) : Prop := args = #[.ref b] ∧ s.IntsAt b xs ∧ xs.length ≤ 4096 ∧ (Jvm.Cond.and given_1 narrow_1).before args s = true
def lw_Q (_ : Array Value) (s : State) (o : Outcome) (t : State) : Prop := o = .returned (some (.int 1)) ∧ Framed s o t [] 601024 7293034
def lw_Z (below : List Frame) (a : Array Value) (s : State) : State → Prop := fun t => ∃ o, t.status = .running ∧ Ended t below o ∧ lw_Q a s o t
/-- what holds at the law's entry: the machine, the code, the tables' words (any of lw_tbl by 'hts w (by decide +kernel)'), the script of L ints xs at the cell b, what the Statement gives of the start (any of its parts by flat_of_before) -/
def lw_At (p : Program) (s : State) (m : MethodId) (meth : Method) (c : Code) (b L : Nat) (xs : Nat → Int32) : Prop :=
  p.tables.exec = Jvm.exec ∧ c.code = code ∧ meth.sig.returnType = ret ∧ c.maxLocals = 9 ∧ s.vm.findClass R_law = some m.cls ∧ (∀ w ∈ lw_tbl, w.before #[Value.ref b] s = true) ∧ va_X b L xs s s.heap ∧ b < s.heap.size ∧ meth.locks = false ∧ (Jvm.Cond.and given_1 narrow_1).before #[Value.ref b] s = true
/-- a walk in a smaller room is one in a larger -/
theorem ws_room {p : Program} {l : Launch} {e : Env} {R R' : Room} {s : State} {m : MethodId} {args : Array Value} {below : List Frame} {meth : Method} {c : Code} {H : Heap} {locs : List Loc} {cells slots : Nat} {Q : State → Prop} {g : JFrame} (hf : R'.frames ≤ R.frames) (hl : R'.locals ≤ R.locals) (hc : R'.cells ≤ R.cells) (hs : R'.slots ≤ R.slots) (k : W p l e R' s m args below meth c H locs cells slots Q g) : W p l e R s m args below meth c H locs cells slots Q g := by
  intro T hT X
  refine k T hT ⟨X.admits, X.cas, X.clock, X.frames, ?_, X.hears, X.method, X.code, X.here, X.tail, X.warmed, X.limits, X.bytes, X.same⟩
  have h := X.room
  simp only [State.hasRoom, Bool.and_eq_true, decide_eq_true_eq] at h ⊢
  obtain ⟨⟨⟨⟨h0, h1, h2, h3, h4, h5⟩, h6⟩, h7⟩, h8⟩ := h
  exact ⟨⟨⟨⟨by omega, by omega, by omega, by omega, by omega, h5⟩, by omega⟩, by omega⟩, h8⟩
theorem ws_post {p : Program} {l : Launch} {e : Env} {R : Room} {s : State} {m : MethodId} {args : Array Value} {below : List Frame} {meth : Method} {c : Code} {H : Heap} {locs : List Loc} {cells slots : Nat} {Q Q' : State → Prop} {g : JFrame} (hq : ∀ t, Q t → Q' t) (k : W p l e R s m args below meth c H locs cells slots Q g) : W p l e R s m args below meth c H locs cells slots Q' g := by
  intro T hT X
  obtain ⟨t, h1, h2⟩ := k T hT X
  exact ⟨t, h1, hq t h2⟩
set_option maxRecDepth 100000 in
/-- from the entry, for every script of at most 4096 ints, the law comes to its end with true -/
theorem whole_start {p : Program} {e : Env} {s : State} {m : MethodId} {below : List Frame} {meth : Method} {c : Code} (l : Launch) (hl : l.stackTraces = false) {b L : Nat} {xs : Nat → Int32} (hL : L ≤ 4096) (C0 : lw_At p s m meth c b L xs) (hmn : meth.name = "law") (hex : c.exceptionTable.toList = []) : W p l e room_1 s m #[Value.ref b] below meth c s.heap [] 0 0 (lw_Z below #[Value.ref b] s) (entryFrame m ([Value.ref b] : List Value).toArray 9) := by
  obtain ⟨hx, hb, hr, hml, hown, hts0, hX, hbl, hlocks, hgv⟩ := C0
  have hts : ∀ w ∈ pm_Ts, w.before #[Value.ref b] s = true := fun w hw => hts0 w (List.mem_filter.mp hw).1
  have hfl := flat_of_before _ hgv
  obtain ⟨D, aC, hK⟩ := ws_K hts
  obtain ⟨te, hT, hZ⟩ := ws_eb hts0 hfl
  have hB : pm_Base l s pc_cl (ws_tk b te) pm_Ts (ws_X L xs) := ws_Base hl hts0 hfl hX hbl hT hZ
  have hS : pm_Str s := ws_Str hts0 hfl
  have hA0 : ∀ q, va_A (pm_w (fun _ => 0) (ws_tk b te) aC []) s.heap.size q → s.heap.size ≤ q := by
    intro q hq
    rcases hq with ⟨k, e9, h9⟩ | hq
    · rw [pm_w_get] at h9
      simp at h9
    · exact hq
  obtain ⟨h, ce, sl, h1, h2, n, hg⟩ := lw_whole (X := ws_X L xs) (n := L) (xs := xs) (d := 0) rfl rfl hL
  have hT9 : pm_TK (ws_X L xs) (ws_tk b te) (va_A (pm_w (fun _ => 0) (ws_tk b te) aC []) s.heap.size) s := fun t ht => (hB.2.2.2.2.1 t ht).narrow hA0
  have C : pm_Cx p { frames := 2048, cells := ce, slots := sl, locals := 84000 } s m #[Value.ref b] meth c code 9 (ws_tk b te) aC D pc_cl (va_A (pm_w (fun _ => 0) (ws_tk b te) aC []) s.heap.size) pm_Ts "SegmentDeskLaw" "law" (ws_X L xs) :=
    ⟨hx, hb, hml, hown, hts, hK, fun q hq => Or.inr hq, hmn, hT9, hZ.narrow hA0, hB.2.2.1, hB.2.2.2.1, (show 10 ≤ 2048 by omega), Nat.le_trans hB.2.2.2.2.2.2.2.2 (show 300 ≤ 84000 by omega)⟩
  refine ws_room (R' := { frames := 2048, cells := ce, slots := sl, locals := 84000 }) (show 2048 ≤ 2048 by omega) (show 84000 ≤ 84000 by omega) (show ce ≤ 601024 by omega) (show sl ≤ 7293034 by omega) ?_
  rw [lg_entry_eq]
  refine ws_post (fun t ht => ?_) (pm_run (M := (kc_L_law, [])) (ret := some .boolean) (d := 72) hB (pc_OK hS) pc_hna (fun m a h q hq => pm_sound hB (pc_OK hS) pc_hna 72 m a h q hq) (ad0 := fun _ => 0) (h0 := []) (r := (.inl (some (.int 1)), h, ce, sl)) C ok_law (Or.inl ⟨hex, rfl⟩) rfl rfl (show 4 * 72 + 11 ≤ 2048 by omega) (show 60 * 72 + 360 ≤ 84000 by omega) hr hlocks (State.WarmedH.refl s) (Nat.le_refl _) (fun _ _ => rfl) hA0 n _ hg (fun _ => 0) (fun _ _ => rfl) (Nat.le_refl _) (fun _ => rfl) s.heap [] _ (pm_ent_LH (n := 9) (a := [.retAddr 0]) (by decide) (fun _ => 0) (ws_tk b te)) (fun k q hq => ?_) ⟨fun i j q q' hi => ?_, fun k q hq => ?_⟩ va_S.rf)
  · obtain ⟨o, t1, t2, ⟨ad', -, -, -, -, -, ho⟩, Ls, f1, f2, f3⟩ := ht
    have ho : o = .returned (some (.int 1)) := ho
    subst ho
    exact ⟨_, t1, t2, rfl, ⟨_, rfl⟩, f1, f2.weaken (fun y hy hlt => absurd hlt (Nat.not_lt.mpr (hA0 _ (f3 y hy)))) (show ce ≤ 601024 by omega) (show sl ≤ 7293034 by omega)⟩
  · rw [pm_w_get] at hq
    simp at hq
  · rw [pm_w_get] at hi
    simp at hi
  · rw [pm_w_get] at hq
    simp at hq
