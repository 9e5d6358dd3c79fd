/-! .. the methods: what a program checks of each -/
/-- a method: its code and table, locals, name, bytes, what it returns, how many parameters -/
abbrev pm_I : Type := pm_M × Nat × MethodName × ByteArray × Option FieldType × Nat
def pm_T (MI : Nat → pm_I) : Nat → pm_M × Nat := fun m => ((MI m).1, (MI m).2.1)
/-- the classes of what is thrown -/
def pm_EX : Nat → String
  | 1 => "java/lang/IllegalArgumentException"
  | 2 => "java/lang/IllegalStateException"
  | 3 => "java/lang/IndexOutOfBoundsException"
  | 4 => "java/lang/UnsupportedOperationException"
  | _ => "java/lang/ArithmeticException"
def pm_nm : List String := ["java/lang/RuntimeException", "java/lang/Exception"]
/-- the words of a throw that speak of the heap -/
def pm_four : List Cond := [.isRef (.static Bundle.tN "UNASSIGNED_STACK" Bundle.steD), .isRef (.static Bundle.tN "SUPPRESSED_SENTINEL" Bundle.listD), .laysStatic Bundle.tN "UNASSIGNED_STACK" Bundle.steD, .laysStatic Bundle.tN "SUPPRESSED_SENTINEL" Bundle.listD]
def pm_lkR (ret : Option FieldType) (i : Instr) (L : pm_L) : Prop := match i with
  | .ireturn => (L.1 = [] ∧ ret = some .int) ∨ (L.1 = [1] ∧ ret = some .boolean)
  | .lreturn => ret = some .long
  | .dreturn => ret = some .double
  | .return_ => ret = none
  | _ => False
def pm_lkX (s0 : State) (own : String) (Ts : List Cond) (cc : ByteArray) (pc k e : Nat) : Prop :=
  ∃ (is ic wl : Nat) (text : String) (sa : Nat), decode cc (pc + 3) = .ok (.dup, 1) ∧ ((decode cc (pc + 4) = .ok (.ldc is, 2) ∧ wl = 2) ∨ (decode cc (pc + 4) = .ok (.ldc_w is, 3) ∧ wl = 3)) ∧ decode cc (pc + 4 + wl) = .ok (.invokespecial ic, 3) ∧ decode cc (pc + 4 + wl + 3) = .ok (.athrow, 1) ∧ vk_R own is text sa s0 ∧
    Cond.classLink own k (pm_EX e) ∈ Ts ∧ Cond.initialized (pm_EX e) ∈ Ts ∧ Bundle.fit (pm_EX e) = true ∧ ∀ w ∈ Bundle.ownAtoms own ic (pm_EX e) pm_nm, w ∈ Ts ∨ w ∈ pm_four
def pm_lnk (own : String) (Ts : List Cond) (k : Nat) (y : MethodName) : Prop := Cond.methodLink own k y ∈ Ts ∨ ∃ host, Cond.methodLinkNest own k y host ∈ Ts
def pm_lkM (own : String) (Ts : List Cond) (cl : List vw_C) (MI : Nat → pm_I) (na : Nat → Bool) (i : Instr) (L : pm_L) : Prop :=
  ∃ mm n kd ci, L.1 = [mm, n, kd, ci] ∧ (kd = 0 → na mm = true) ∧ match i with
    | .invokestatic k => ci = 0 ∧ n = (MI mm).2.2.2.2.2 ∧ Cond.static (MI mm).2.2.1 ∈ Ts ∧ pm_lnk own Ts k (MI mm).2.2.1
    | .invokevirtual k => ∃ c' T N, ci = c' + 1 ∧ n = (MI mm).2.2.2.2.2 + 1 ∧ cl[c']? = some ((MI mm).2.2.1.cls, T, N) ∧ Cond.instanceMethod (MI mm).2.2.1 ∈ Ts ∧ Cond.selects (MI mm).2.2.1.cls (MI mm).2.2.1 (MI mm).2.2.1 ∈ Ts ∧ pm_lnk own Ts k (MI mm).2.2.1
    | .invokespecial k => ∃ c', ci = c' + 1 ∧ n = (MI mm).2.2.2.2.2 + 1 ∧ (MI mm).2.2.1.name = "<init>" ∧ Cond.instanceMethod (MI mm).2.2.1 ∈ Ts ∧ Cond.code (MI mm).2.2.1 (MI mm).2.2.2.1 (MI mm).2.1 none ∈ Ts ∧ pm_lnk own Ts k (MI mm).2.2.1
    | _ => False
/-- a table: the rows, and the stores that stand at the handlers -/
def pm_lkH (own : String) (Ts : List Cond) (cc : ByteArray) (nL : Nat) (tab : List (Nat × Nat × Nat × Nat × Nat)) (hh : List (Nat × Nat × Nat × Nat)) : Prop :=
  tab.length = hh.length ∧ ∀ (j : Nat) (f t hp x lo : Nat), tab[j]? = some (f, t, hp, x, lo) → ∃ hpc k, hh[j]? = some (f, t, hpc, k) ∧ k ≠ 0 ∧ (1 ≤ x ∧ x ≤ 5) ∧ lo < nL ∧ Cond.classLink own k (pm_EX x) ∈ Ts ∧ Cond.castable (pm_EX x) (pm_EX x) ∈ Ts ∧
    ((decode cc hpc = .ok (.astore lo, 2) ∧ hp = hpc + 2) ∨ ∃ n : Fin 4, (n : Nat) = lo ∧ decode cc hpc = .ok (.astore_n n, 1) ∧ hp = hpc + 1)
/-- a method is as its entry says -/
def pm_OKm (s0 : State) (Ts : List Cond) (cl : List vw_C) (Dv : Nat → List Value) (MI : Nat → pm_I) (na : Nat → Bool) (m : Nat) : Prop :=
  ((Cond.code (MI m).2.2.1 (MI m).2.2.2.1 (MI m).2.1 (MI m).2.2.2.2.1 ∈ Ts ∧ (MI m).1.2 = []) ∨ ∃ hh, Cond.codeWith (MI m).2.2.1 (MI m).2.2.2.1 (MI m).2.1 (MI m).2.2.2.2.1 hh ∈ Ts ∧ pm_lkH (MI m).2.2.1.cls Ts (MI m).2.2.2.1 (MI m).2.1 (MI m).1.2 hh) ∧
  Cond.initialized (MI m).2.2.1.cls ∈ Ts ∧ plainFor (MI m).2.2.1 = true ∧ ((MI m).2.2.1.cls ≠ "java/lang/invoke/MethodHandle" ∧ (MI m).2.2.1.cls ≠ "java/lang/invoke/VarHandle") ∧ (MI m).2.1 ≤ 40 ∧ (parseMethodDescriptor (MI m).2.2.1.desc).map (fun d => d.parameters.length) = some (MI m).2.2.2.2.2 ∧
  ∀ (pc : Nat) (i : Instr) (len : Nat) (L : pm_L), pm_look (MI m).1.1 pc = some (i, len, L) → decode (MI m).2.2.2.1 pc = .ok (i, len) ∧ (pm_isT i = true ∨ len = pm_ilen i) ∧ pm_lk (MI m).2.2.1.cls (MI m).2.2.1.name Ts cl Dv pc i L ∧ (pm_kind i L = 2 → pm_lkR (MI m).2.2.2.2.1 i L) ∧
    (pm_kind i L = 3 → ∃ k e a b, i = .new k ∧ L.1 = [e, a, b] ∧ (1 ≤ e ∧ e ≤ 5) ∧ (MI m).1.2 = [] ∧ pm_lkX s0 (MI m).2.2.1.cls Ts (MI m).2.2.2.1 pc k e) ∧
    (pm_kind i L = 4 → pm_lkM (MI m).2.2.1.cls Ts cl MI na i L)
/-- what is thrown is one of the five -/
theorem pm_go_x {X : pm_X} {D : Nat → List Value} {call : Nat → List Value → pm_H → pm_R → Prop} {M : pm_M} (hM : ∀ (pc : Nat) (i : Instr) (len : Nat) (L : pm_L), pm_look M.1 pc = some (i, len, L) → pm_kind i L = 3 → ∃ e a b, L.1 = [e, a, b] ∧ 1 ≤ e ∧ e ≤ 5) (hcall : ∀ m a h q e, call m a h q → q.1 = .inr e → 1 ≤ e ∧ e ≤ 5) : ∀ (n : Nat) (x : pm_S) (r : pm_R) (e : Nat), pm_go X D call M n x r → r.1 = .inr e → 1 ≤ e ∧ e ≤ 5
  | 0, _, _, _, h, _ => h.elim
  | n + 1, x, r, e9, h, hr => by
    obtain ⟨i, len, L, hk, h⟩ := pm_go_s h
    rcases h with ⟨-, v, -, rfl⟩ | ⟨h3, e, a, b, hL, -, rfl⟩ | ⟨h4, m, a, st, q, hc, hq, ⟨v, -, hg⟩ | ⟨e, he, ⟨-, -, rfl⟩ | ⟨hp, lo, -, hg⟩⟩⟩ | ⟨hk, x', hs, hg⟩
    · cases hr
    · cases hr
      obtain ⟨e', a', b', hL', h5⟩ := hM _ _ _ _ hk h3
      rw [hL] at hL'
      cases hL'
      exact h5
    · exact pm_go_x hM hcall n _ r e9 hg hr
    · cases hr
      exact hcall m a _ q _ hq he
    · exact pm_go_x hM hcall n _ r e9 hg hr
    · exact pm_go_x hM hcall n _ r e9 hg hr
theorem pm_Ev_x {s0 : State} {Ts : List Cond} {cl : List vw_C} {X : pm_X} {Dv : Nat → List Value} {MI : Nat → pm_I} {na : Nat → Bool} (hOK : ∀ m, pm_OKm s0 Ts cl Dv MI na m) : ∀ (d m : Nat) (a : List Value) (h : pm_H) (q : pm_R) (e : Nat), pm_Ev X Dv (pm_T MI) d m a h q → q.1 = .inr e → 1 ≤ e ∧ e ≤ 5
  | 0, _, _, _, _, _, hq, _ => hq.elim
  | d + 1, m, a, h, q, e, hq, he => by
    obtain ⟨-, n, hn⟩ := hq
    refine pm_go_x (fun pc i len L hl h3 => ?_) (fun m a h q e hq he => pm_Ev_x hOK d m a h q e hq he) n _ q e hn he
    obtain ⟨-, -, -, -, h9, -⟩ := (hOK m).2.2.2.2.2.2 pc i len L hl
    obtain ⟨k, e', a', b', -, hL, h5, -⟩ := h9 h3
    exact ⟨e', a', b', hL, h5⟩
theorem pm_args_s : ∀ (n : Nat) (acc st a r : List Value), pm_args n acc st = some (a, r) → ∃ As, a = As ++ acc ∧ As.length = n ∧ st = As.reverse ++ r
  | 0, acc, st, a, r, h => by cases h; exact ⟨[], rfl, rfl, rfl⟩
  | n + 1, acc, v :: st, a, r, h => by
    obtain ⟨As, h1, h2, h3⟩ := pm_args_s n (v :: acc) st a r h
    exact ⟨As ++ [v], by rw [h1, List.append_assoc]; rfl, by rw [List.length_append, h2]; rfl, by rw [h3, List.reverse_append]; rfl⟩
  | n + 1, acc, [], a, r, h => by cases h
section PMR
variable {p : Program} {l : Launch} {e : Env} {R : Room} {s : State} {m : MethodId} {args : Array Value} {below : List Frame} {meth : Method} {c : Code} {cc : ByteArray} {pc nL ce sl : Nat} {ad tk aC : Nat → Nat} {ls : pm_V} {st : List Value} {h : pm_H} {D : va_G} {cl : List vw_C} {A : Nat → Prop} {Qc : Array Value → State → Outcome → State → Prop} {ret : Option FieldType}
theorem pm_ok_ret (hx : p.tables.exec = Jvm.exec) (hb : c.code = cc) (hr : meth.sig.returnType = ret) (hlocks : meth.locks = false) {i : Instr} {L : pm_L} {v : Option Value} (hlk : pm_lkR ret i L) (hv : pm_ret i L st = some v) (hd : decode cc pc = .ok (i, 1))
    (hq : ∀ (H : Heap) (locs : List Loc) (t : State), va_P D cl (pm_w ad tk aC h) H → va_D A (pm_w ad tk aC h) → va_S A s.heap H locs → t.heap = H → s.WarmedH t.vm → Qc args s (.returned (v.map (pm_v ad tk))) t) :
    pm_Pt p l e R s m args below meth c D cl A tk aC (pm_MQ below Qc args s ce sl A) nL ad (pc, ls, st, h, ce, sl) := by
  intro H locs lr hl hP hD hS
  refine pm_ofMQ ?_
  have hq' : ∀ t : State, t.heap = H → s.WarmedH t.vm → Qc args s (.returned (v.map (pm_v ad tk))) t := fun t h1 h2 => hq H locs t hP hD hS h1 h2
  unfold pm_ret at hv
  split at hv
  · obtain ⟨h1, rfl⟩ := pm_cnd hv
    rcases hlk with ⟨q, -⟩ | ⟨-, hre⟩
    · cases q
    · rw [Bool.or_eq_true] at h1
      refine W.zret hx hb (hr.trans hre) ?_ hq' hS.2.2 hd (hlocks := hlocks)
      rcases h1 with h1 | h1
      · rw [of_decide_eq_true h1]; rfl
      · rw [of_decide_eq_true h1]; rfl
  · cases hv
    rcases hlk with ⟨-, hre⟩ | ⟨q, -⟩
    · exact W.iret hx hb (hr.trans hre) hq' hS.2.2 hd (hlocks := hlocks)
    · cases q
  · cases hv
    exact W.lret hx hb (hr.trans hlk) hq' hS.2.2 hd (hlocks := hlocks)
  · cases hv
    exact W.dret hx hb (hr.trans hlk) hq' hS.2.2 hd (hlocks := hlocks)
  · cases hv
    exact W.vret hx hb (hr.trans hlk) hq' hS.2.2 hd (hlocks := hlocks)
  · cases hv
end PMR
