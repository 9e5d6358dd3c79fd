/-! .. the walk of a whole body -/
theorem pm_toL (f : Value → Value) (v : Option Value) : v.toList.map f = (v.map f).toList := by cases v <;> rfl
/-- a method's table against the real one -/
def pm_tabOK (own : String) (Ts : List Cond) (cc : ByteArray) (nL : Nat) (c : Code) (tab : List (Nat × Nat × Nat × Nat × Nat)) : Prop :=
  (c.exceptionTable.toList = [] ∧ tab = []) ∨ pm_lkH own Ts cc nL tab (c.exceptionTable.toList.map (fun h => (h.startPc, h.endPc, h.handlerPc, h.catchType)))
/-- the pure row of a real one -/
theorem pm_tab_row {own : String} {Ts : List Cond} {cc : ByteArray} {nL : Nat} {c : Code} {tab : List (Nat × Nat × Nat × Nat × Nat)} (h : pm_lkH own Ts cc nL tab (c.exceptionTable.toList.map (fun h => (h.startPc, h.endPc, h.handlerPc, h.catchType)))) {j : Nat} {z : ExceptionTableEntry} (hj : c.exceptionTable.toList[j]? = some z) :
    ∃ hp x lo, tab[j]? = some (z.startPc, z.endPc, hp, x, lo) ∧ z.catchType ≠ 0 ∧ (1 ≤ x ∧ x ≤ 5) ∧ lo < nL ∧ Cond.classLink own z.catchType (pm_EX x) ∈ Ts ∧ Cond.castable (pm_EX x) (pm_EX x) ∈ Ts ∧
      ((decode cc z.handlerPc = .ok (.astore lo, 2) ∧ hp = z.handlerPc + 2) ∨ ∃ n : Fin 4, (n : Nat) = lo ∧ decode cc z.handlerPc = .ok (.astore_n n, 1) ∧ hp = z.handlerPc + 1) := by
  obtain ⟨h1, h2⟩ := h
  have hlt : j < tab.length := by
    rw [h1, List.length_map]
    exact (List.getElem?_eq_some_iff.mp hj).1
  obtain ⟨w, hw⟩ : ∃ w, tab[j]? = some w := ⟨_, List.getElem?_eq_getElem hlt⟩
  obtain ⟨f, t, hp, x, lo⟩ := w
  obtain ⟨hpc, k, g1, g2, g3, g4, g5, g6, g7⟩ := h2 j f t hp x lo hw
  rw [List.getElem?_map, hj] at g1
  cases g1
  exact ⟨hp, x, lo, hw, g2, g3, g4, g5, g6, g7⟩
theorem pm_tab_free {own : String} {Ts : List Cond} {cc : ByteArray} {nL : Nat} {c : Code} {tab : List (Nat × Nat × Nat × Nat × Nat)} (h : pm_tabOK own Ts cc nL c tab) {pc : Nat} (hf : pm_free tab pc = true) : ∀ z ∈ c.exceptionTable.toList, covers z pc = false := by
  intro z hz
  rcases h with ⟨h1, -⟩ | h
  · rw [h1] at hz; cases hz
  · obtain ⟨j, hj⟩ := List.getElem?_of_mem hz
    obtain ⟨hp, x, lo, hw, -⟩ := pm_tab_row h hj
    have h3 := List.all_eq_true.mp hf _ (List.mem_of_getElem? hw)
    rw [Bool.not_eq_true'] at h3
    cases hc : covers z pc with
    | false => rfl
    | true =>
      rw [Bool.and_eq_true] at hc
      rw [Nat.ble_eq_true_of_le (of_decide_eq_true hc.1), Nat.ble_eq_true_of_le (of_decide_eq_true hc.2)] at h3
      cases h3
theorem pm_newo_n {D : Nat → List Value} {pc len : Nat} {ls : pm_V} {st : List Value} {h : pm_H} {c k : Nat} {L : List Nat} {x' : pm_S} (hx : pm_newo D pc len ls st h c k L = some x') : h.length < x'.2.2.2.1.length := by
  unfold pm_newo at hx
  split at hx
  · obtain ⟨-, rfl⟩ := pm_cnd hx
    show h.length < (h ++ [_]).length
    rw [List.length_append]
    exact Nat.lt_succ_self _
  · cases hx
theorem pm_newa_n {pc len : Nat} {ls : pm_V} {st : List Value} {h : pm_H} {c k : Nat} {L : List Nat} {x' : pm_S} (hx : pm_newa pc len ls h c k L st = some x') : h.length < x'.2.2.2.1.length := by
  unfold pm_newa at hx
  split at hx
  · obtain ⟨-, rfl⟩ := pm_cnd hx
    show h.length < (h ++ [_]).length
    rw [List.length_append]
    exact Nat.lt_succ_self _
  · cases hx
theorem pm_newm_n {pc len : Nat} {ls : pm_V} {st : List Value} {h : pm_H} {c k : Nat} {L : List Nat} {x' : pm_S} (hx : pm_newm pc len ls h c k L st = some x') : h.length < x'.2.2.2.1.length := by
  unfold pm_newm at hx
  split at hx
  · obtain ⟨-, rfl⟩ := pm_cnd hx
    show h.length < (h ++ _ :: _).length
    rw [List.length_append, List.length_cons]
    omega
  · cases hx
theorem pm_step_n {X : pm_X} {D : Nat → List Value} {i : Instr} {len : Nat} {L : pm_L} {x x' : pm_S} (hk : pm_kind i L = 0 ∨ pm_kind i L = 1) (hs : pm_step X D i len L x = some x') (hN : pm_isN i L = true) : x.2.2.2.1.length < x'.2.2.2.1.length := by
  unfold pm_step at hs
  cases i with
  | new n =>
    rcases hk with hk | hk
    · have e : (bif Nat.beq L.1.length 3 then 3 else 1) = 0 := hk
      cases hb : Nat.beq L.1.length 3 with
      | false => rw [hb] at e; cases e
      | true => rw [hb] at e; cases e
    · rw [hk] at hs
      exact pm_newo_n hs
  | newarray n => exact pm_newa_n hs
  | anewarray n => exact pm_newa_n hs
  | multianewarray n d => exact pm_newm_n hs
  | _ => cases hN
section PMQ
variable {p : Program} {l : Launch} {e : Env} {R : Room} {s s0 : State} {m : MethodId} {args : Array Value} {below : List Frame} {meth : Method} {c : Code} {cc : ByteArray} {nL : Nat} {tk aC : Nat → Nat} {D : va_G} {cl : List vw_C} {Ts : List Cond} {own mname : String} {X : pm_X} {Dv : Nat → List Value} {MI : Nat → pm_I} {na : Nat → Bool} {M : pm_M} {ret : Option FieldType} {d : Nat}
/-- what is checked of one instruction -/
def pm_OKi (s0 : State) (Ts : List Cond) (cl : List vw_C) (Dv : Nat → List Value) (MI : Nat → pm_I) (na : Nat → Bool) (own mname : String) (cc : ByteArray) (ret : Option FieldType) (M : pm_M) : Prop :=
  ∀ (pc : Nat) (i : Instr) (len : Nat) (L : pm_L), pm_look M.1 pc = some (i, len, L) → decode cc pc = .ok (i, len) ∧ (pm_isT i = true ∨ len = pm_ilen i) ∧ pm_lk own mname Ts cl Dv pc i L ∧ (pm_kind i L = 2 → pm_lkR ret i L) ∧
    (pm_kind i L = 3 → ∃ k e a b, i = .new k ∧ L.1 = [e, a, b] ∧ (1 ≤ e ∧ e ≤ 5) ∧ M.2 = [] ∧ pm_lkX s0 own Ts cc pc k e) ∧
    (pm_kind i L = 4 → pm_lkM own Ts cl MI na i L)
theorem pm_kind2_len {i : Instr} {L : pm_L} (h : pm_lkR ret i L) : pm_ilen i = 1 ∧ pm_isT i = false := by
  cases i with
  | ireturn => exact ⟨rfl, rfl⟩
  | lreturn => exact ⟨rfl, rfl⟩
  | dreturn => exact ⟨rfl, rfl⟩
  | return_ => exact ⟨rfl, rfl⟩
  | _ => exact h.elim
theorem pm_kind4_len {i : Instr} {L : pm_L} (h : pm_lkM own Ts cl MI na i L) : pm_ilen i = 3 ∧ pm_isT i = false := by
  obtain ⟨mm, n, kd, ci, -, -, h⟩ := h
  cases i with
  | invokestatic k => exact ⟨rfl, rfl⟩
  | invokevirtual k => exact ⟨rfl, rfl⟩
  | invokespecial k => exact ⟨rfl, rfl⟩
  | _ => exact h.elim
set_option maxRecDepth 100000 in
set_option maxHeartbeats 8000000 in
theorem pm_run (hB : pm_Base l s0 cl tk Ts X) (hOK : ∀ m, pm_OKm s0 Ts cl Dv MI na m) (hna : ∀ m, na m = true → pm_naM na (MI m).1) (ih : ∀ (m : Nat) (a : List Value) (h : pm_H) (q : pm_R), pm_Ev X Dv (pm_T MI) d m a h q → pm_Sem l s0 D cl tk aC Ts MI d m a h q)
    {ad0 : Nat → Nat} {h0 : pm_H} {r : pm_R} (C : pm_Cx p R s m args meth c cc nL tk aC D cl (va_A (pm_w ad0 tk aC h0) s.heap.size) Ts own mname X) (hOKi : pm_OKi s0 Ts cl Dv MI na own mname cc ret M) (htab : pm_tabOK own Ts cc nL c M.2)
    (hRc : R.cells = r.2.2.1) (hRs : R.slots = r.2.2.2) (hRf : 4 * d + 11 ≤ R.frames) (hRl : 60 * d + 360 ≤ R.locals) (hret : meth.sig.returnType = ret) (hlocks : meth.locks = false) (hW0 : s0.WarmedH s.vm) (hsz : s0.heap.size ≤ s.heap.size) (hold : ∀ q : Nat, q < s0.heap.size → s.heap[q]? = s0.heap[q]?) (hA0 : ∀ q, va_A (pm_w ad0 tk aC h0) s.heap.size q → s0.heap.size ≤ q) :
    ∀ (n : Nat) (x : pm_S), pm_go X Dv (pm_Ev X Dv (pm_T MI) d) M n x r → ∀ ad : Nat → Nat, (∀ v, v < h0.length → ad v = ad0 v) → h0.length ≤ x.2.2.2.1.length → (x.2.2.2.1.length = h0.length → ad = ad0) →
      pm_Pt p l e R s m args below meth c D cl (va_A (pm_w ad0 tk aC h0) s.heap.size) tk aC (pm_MQ below (pm_Qc D cl tk aC ad0 h0 s.heap.size r) args s r.2.2.1 r.2.2.2 (va_A (pm_w ad0 tk aC h0) s.heap.size)) nL ad x := by
  intro n
  induction n with
  | zero => intro x hg; exact hg.elim
  | succ n ihn =>
    intro x hg ad hag hle heq
    have hcnt := pm_go_c _ _ _ hg
    obtain ⟨i, len, L, hlook, hcase⟩ := pm_go_s hg
    obtain ⟨hd, hlen, hlk, hkR, hkX, hkM⟩ := hOKi _ _ _ _ hlook
    have hts := C.2.2.2.2.1
    have hK := C.2.2.2.2.2.1
    obtain ⟨pc, ls, st, h, ce, sl⟩ := x
    dsimp only at hd hlk hle heq hcnt hcase
    rcases hcase with ⟨h2, v, hv, hr⟩ | ⟨h3, e9, a9, b9, hL, hwt, hr⟩ | ⟨h4, mm, a, st', q, hc, hq, hnext⟩ | ⟨hk, x', hs, hg'⟩
    · subst hr
      have hlkR := hkR h2
      obtain ⟨hl1, hl2⟩ := pm_kind2_len hlkR
      have hl9 : len = 1 := by
        rcases hlen with z | z
        · rw [hl2] at z; cases z
        · rw [z, hl1]
      subst hl9
      refine pm_ok_ret C.1 C.2.1 hret hlocks hlkR hv hd (fun H locs t hP hD hS ht hW => ?_)
      exact ⟨ad, hag, heq, by rw [ht]; exact hP, hD, hS.F ht, rfl⟩
    · obtain ⟨k, e8, a8, b8, hi, hL8, hrng, hM2, hX⟩ := hkX h3
      rw [hL] at hL8
      cases hL8
      subst hi
      subst hr
      obtain ⟨is, ic, wl, text, sa, d3, d4, d6, d9, hstr, w1, w2, w3, w4⟩ := hX
      have hl9 : len = 3 := hlen.resolve_left (fun z => by cases z)
      subst hl9
      intro H locs lr hl hP hD hS
      have hwt9 := pm_wt_v ad tk st
      refine pm_W_throw (A := va_A (pm_w ad0 tk aC h0) s.heap.size) (cls := pm_EX e9) (names := pm_nm) (text := text) (sa := sa) C.1 C.2.1 hB.1 C.2.2.2.1 w3 (by decide) (vk_R.warm hW0 hstr) (fun s' hvm hhp => ?_) hS (hl.1.trans C.2.2.1.symm) hd d3 d4 d6 d9 ?_ ?_ ?_ ?_ ?_ hlocks (fun U a ce9 hW hz hsm hce hcv hcl => ?_) hS.2.2
      · have hWs : s.WarmedH s'.vm := by rw [hvm]; exact State.WarmedH.refl s
        have hWs0 : s0.WarmedH s'.vm := by rw [hvm]; exact hW0
        have ho : ∀ q : Nat, q < s0.heap.size → s'.heap[q]? = s0.heap[q]? := fun q hq => by
          rw [hhp q (Nat.lt_of_lt_of_le hq hsz) (fun z => absurd (hA0 q z) (by omega))]
          exact hold q hq
        refine ⟨pm_kp_at hWs (hB.2.1 _ w1) (hts _ w1), pm_kp_at hWs (hB.2.1 _ w2) (hts _ w2), fun w hw => ?_⟩
        rcases w4 w hw with z | z
        · exact pm_kp_at hWs (hB.2.1 _ z) (hts _ z)
        · exact hB.2.2.2.2.2.2.1 w z s' args hWs0 ho
      · rcases htab with ⟨z, -⟩ | ⟨z, -⟩
        · rw [z]; intro y hy; cases hy
        · rw [hM2, List.length_map] at z
          have : c.exceptionTable.toList = [] := List.eq_nil_of_length_eq_zero z.symm
          rw [this]; intro y hy; cases hy
      · show 2 + 3 < R.frames
        omega
      · show ((st.map (pm_v ad tk)).map fun v => v.category).sum + (13 * (2 + 1) + 43) ≤ R.locals
        rw [hwt9]
        omega
      · rw [hRc]; exact Nat.le_refl _
      · rw [hRs]; exact Nat.le_refl _
      · have hP' : va_P D cl (pm_w ad tk aC h) U.heap := hP.kept (fun k9 y hy => hsm y.1 ((hP k9 y hy).lt))
        exact ⟨ad, hag, heq, hP', hD, ⟨Nat.le_trans hS.1 hz, fun q q1 q2 => by rw [hsm q (Nat.lt_of_lt_of_le q1 hS.1)]; exact hS.2.1 q q1 q2⟩, a, ce9, rfl, hce, hcv, hcl⟩
    · have hlkM := hkM h4
      obtain ⟨hl1, hl2⟩ := pm_kind4_len hlkM
      have hl9 : len = 3 := by
        rcases hlen with z | z
        · rw [hl2] at z; cases z
        · rw [z, hl1]
      subst hl9
      obtain ⟨n9, kd, ci, hL, hargs, hwt, hcl9, hrcv⟩ := pm_call_s hc
      have hkd : kd = 0 → na mm = true := by
        obtain ⟨mm', n', kd', ci', hL', z, -⟩ := hlkM
        rw [hL] at hL'
        cases hL'
        exact z
      have hqh : h.length ≤ q.2.1.length := pm_Ev_h d mm a h q hq
      have hfit : ce + q.2.2.1 ≤ R.cells ∧ sl + q.2.2.2 ≤ R.slots := by
        rw [hRc, hRs]
        rcases hnext with ⟨v, -, hg'⟩ | ⟨e9, -, ⟨-, -, hr⟩ | ⟨hp, lo, -, hg'⟩⟩
        · exact pm_go_c _ _ _ hg'
        · rw [hr]; exact ⟨Nat.le_refl _, Nat.le_refl _⟩
        · exact pm_go_c _ _ _ hg'
      intro H locs lr hl hP hD hS
      have hSem := ih mm a h q hq ad H.size
      have hA1 : ∀ y, va_A (pm_w ad tk aC h) H.size y → va_A (pm_w ad0 tk aC h0) s.heap.size y := by
        intro y hy
        rcases hy with ⟨k9, e9, hy⟩ | hy
        · exact hD.2 k9 _ hy
        · exact Or.inr (Nat.le_trans hS.1 hy)
      have hPc : ∀ U : State, U.heap = H → s.WarmedH U.vm → pm_Pc s0 D cl tk aC ad a h H.size (a.map (pm_v ad tk)).toArray U := by
        intro U hU hW
        refine ⟨rfl, by rw [hU], by rw [hU]; exact hP, hD.weaken (fun k9 y _ hy => hA0 _ hy), va_K.moved hW.alike hK, State.WarmedH.trans hW0 hW, by rw [hU]; exact Nat.le_trans hsz hS.1, fun y hy => ?_⟩
        rw [hU, hS.2.1 y (Nat.lt_of_lt_of_le hy hsz) (fun z => absurd (hA0 y z) (by omega))]
        exact hold y hy
      have hcall := pm_calls (d := d) (q := q) (below := below) (meth := meth) (e := e) hB C.1 C.2.1 C.2.2.1 C.2.2.2.1 hts hK (hOK mm) hRf hRl hlkM hL (ad := ad) (h := h) (ls := ls) hargs hwt hrcv hd hfit hSem pm_blind (H := H) (locs := locs) (lr := lr) hl.1 hP hPc
      have hsame : ∀ ad' : Nat → Nat, (∀ v, v < h.length → ad' v = ad v) → (q.2.1.length = h.length → ad' = ad) → pm_LH ad' tk lr nL ls ∧ st'.map (pm_v ad' tk) = st'.map (pm_v ad tk) := by
        intro ad' g1 g2
        rcases hcl9 with z | z
        · have := g2 (pm_Ev_l (fun m hm => hna m hm) d mm a h q (hkd z) hq)
          subst this
          exact ⟨hl, rfl⟩
        · obtain ⟨-, c2, c3⟩ := pm_cl_s z
          exact ⟨hl.ext g1 c2, pm_st_ext g1 c3⟩
      have hadn : ∀ ad' : Nat → Nat, (∀ v, v < h.length → ad' v = ad v) → (q.2.1.length = h.length → ad' = ad) → (∀ v, v < h0.length → ad' v = ad0 v) ∧ h0.length ≤ q.2.1.length ∧ (q.2.1.length = h0.length → ad' = ad0) := by
        intro ad' g1 g2
        refine ⟨fun v hv => (g1 v (Nat.lt_of_lt_of_le hv hle)).trans (hag v hv), Nat.le_trans hle hqh, fun z => ?_⟩
        have e1 : h.length = h0.length := by omega
        rw [g2 (by omega)]
        exact heq e1
      refine pm_W_call hcall (fun st9 t v L9 hst hWst hal hL9 hQ => ?_) (fun st9 t b L9 hst hWst hal hL9 hQ => ?_)
      · obtain ⟨ad', g1, g2, g3, g4, g5, g6⟩ := hQ
        rcases hnext with ⟨v0, hv0, hg'⟩ | ⟨e9, he9, -⟩
        · rw [hv0] at g6
          have g6 : Outcome.returned v = .returned (v0.map (pm_v ad' tk)) := g6
          cases g6
          obtain ⟨y1, y2⟩ := hsame ad' g1 g2
          obtain ⟨z1, z2, z3⟩ := hadn ad' g1 g2
          have k2 := ihn _ hg' ad' z1 z2 z3 t.heap (locs ++ L9) lr y1 g3 (g4.weaken (fun k9 y _ hy => hA1 _ hy)) (pm_S_aft hS hst g5 hA1 hL9)
          have e1 : (v0.toList ++ st').map (pm_v ad' tk) = (v0.map (pm_v ad' tk)).toList ++ st'.map (pm_v ad tk) := by rw [List.map_append, pm_toL, y2]
          have k3 : W p l e R s m args below meth c t.heap (locs ++ L9) (ce + q.2.2.1) (sl + q.2.2.2) (pm_MQ below (pm_Qc D cl tk aC ad0 h0 s.heap.size r) args s r.2.2.1 r.2.2.2 (va_A (pm_w ad0 tk aC h0) s.heap.size)) (F0 m (pc + 3) lr ((v0.toList ++ st').map (pm_v ad' tk))) := k2
          rw [e1] at k3
          exact k3
        · rw [he9] at g6
          obtain ⟨b, ce9, z, -⟩ := g6
          cases z
      · obtain ⟨ad', g1, g2, g3, g4, g5, g6⟩ := hQ
        rcases hnext with ⟨v0, hv0, -⟩ | ⟨e9, he9, hcat⟩
        · rw [hv0] at g6
          have g6 : Outcome.threw b = .returned (v0.map (pm_v ad' tk)) := g6
          cases g6
        · rw [he9] at g6
          obtain ⟨b', ce9, zb, hce, hcv, hcl⟩ := g6
          cases zb
          have hcls : s.vm.findClass (pm_EX e9) = some ce9.cls := by
            rw [hWst.alike.findClass] at hcl
            exact hcl
          obtain ⟨y1, -⟩ := hsame ad' g1 g2
          obtain ⟨z1, z2, z3⟩ := hadn ad' g1 g2
          have hDn := g4.weaken (A := va_A (pm_w ad tk aC h) H.size) (fun k9 y _ hy => hA1 _ hy)
          have hSn := pm_S_aft hS hst g5 hA1 hL9
          rcases hcat with ⟨-, hfree, hr⟩ | ⟨hp, lo, hct, hg'⟩
          · subst hr
            refine pm_W_out (pm_tab_free htab hfree) hlocks (fun t' ht' hW' => ?_) hSn.2.2
            exact ⟨ad', z1, z3, by rw [ht']; exact g3, hDn, hSn.F ht', b, ce9, rfl, by rw [ht']; exact hce, hcv, hcls⟩
          · have hrng := pm_Ev_x hOK d mm a h q e9 hq he9
            obtain ⟨j, f, t9, hj, hcov, hbef⟩ := pm_catch_s _ _ _ _ _ hct
            rcases htab with ⟨-, z⟩ | htab
            · rw [z] at hj; cases hj
            · have hlt : j < c.exceptionTable.toList.length := by
                have := (List.getElem?_eq_some_iff.mp hj).1
                rwa [htab.1, List.length_map] at this
              have hzj : c.exceptionTable.toList[j]? = some (c.exceptionTable.toList[j]) := List.getElem?_eq_getElem hlt
              generalize hzz : c.exceptionTable.toList[j] = z9 at hzj
              obtain ⟨hp', x', lo', r1, r2, r3, r4, r5, r6, r7⟩ := pm_tab_row htab hzj
              rw [hj] at r1
              cases r1
              have hsplit : c.exceptionTable.toList = c.exceptionTable.toList.take j ++ z9 :: c.exceptionTable.toList.drop (j + 1) := by
                rw [← hzz, List.getElem_cons_drop, List.take_append_drop]
              refine pm_W_catch (E := pm_EX e9) (name := pm_EX e9) C.2.2.2.1 _ z9 _ hsplit (fun y hy => ?_) ?_ r2 (hts _ r5) (hts _ r6) hce hcv hcls ?_
              · obtain ⟨i9, hi9⟩ := List.getElem?_of_mem hy
                have hi8 : i9 < j := by
                  have := (List.getElem?_eq_some_iff.mp hi9).1
                  rw [List.length_take] at this
                  omega
                rw [List.getElem?_take_of_lt hi8] at hi9
                obtain ⟨hp2, x2, lo2, u1, u2, u3, -, u5, -, -⟩ := pm_tab_row htab hi9
                rcases hbef i9 _ _ _ _ _ hi8 u1 with w | w
                · left
                  cases hc9 : covers y pc with
                  | false => rfl
                  | true =>
                    rw [Bool.and_eq_true] at hc9
                    exact absurd ⟨of_decide_eq_true hc9.1, of_decide_eq_true hc9.2⟩ w
                · exact Or.inr ⟨u2, pm_EX x2, hts _ u5, (hB.2.2.2.2.2.2.2.1 e9 x2 hrng u3 (fun z => w z.symm)).moved hW0.alike⟩
              · show (decide _ && decide _) = true
                rw [decide_eq_true hcov.1, decide_eq_true hcov.2]
                rfl
              · have fin : ∀ ls' : Array Slot, lv_has ls' nL ((lo, Value.ref b) :: (pm_al ad' tk ls).filter (fun q => !(q.1 == lo) && !(q.1 + 1 == lo && q.2.category == 2))) → W p l e R s m args below meth c t.heap (locs ++ L9) (ce + q.2.2.1) (sl + q.2.2.2) (pm_MQ below (pm_Qc D cl tk aC ad0 h0 s.heap.size r) args s r.2.2.1 r.2.2.2 (va_A (pm_w ad0 tk aC h0) s.heap.size)) (F0 m hp ls' []) := by
                  intro ls' hls
                  exact ihn _ hg' ad' z1 z2 z3 t.heap (locs ++ L9) ls' (pm_LH.ofX y1.2.2.1 hls) g3 hDn hSn
                rcases r7 with ⟨u1, rfl⟩ | ⟨n8, rfl, u1, rfl⟩
                · exact lv_astore C.1 C.2.1 u1 y1.has r4 rfl fin
                · exact lv_astore_n C.1 C.2.1 u1 rfl y1.has r4 rfl fin
    · have hgr := pm_step_g hk hs
      have hc1 := pm_go_c _ _ _ hg'
      refine pm_ok_step C hk hs hd hlen hlk ⟨by rw [hRc]; exact hc1.1, by rw [hRs]; exact hc1.2⟩ (fun ad' g1 g2 => ihn x' hg' ad' (fun v hv => (g1 v (Nat.lt_of_lt_of_le hv hle)).trans (hag v hv)) (Nat.le_trans hle hgr.2.2.2) (fun z => ?_))
      cases hN : pm_isN i L with
      | false =>
        have e1 := hgr.2.2.1 hN
        dsimp only at e1
        rw [g2 hN]
        exact heq (by omega)
      | true =>
        have e1 := pm_step_n hk hs hN
        dsimp only at e1
        omega
end PMQ
