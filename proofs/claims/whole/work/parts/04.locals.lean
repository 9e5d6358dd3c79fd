/-! .. second piece: locals, jumps, constants. -/
/-- the real locals hold what the pure ones do -/
def pm_LH (ad tk : Nat → Nat) (lr : Array Slot) (nL : Nat) (ls : pm_V) : Prop := lr.size = nL ∧ lv_wf lr ∧ ls.length = nL ∧ ∀ (k : Nat) (v : Value), ls[k]? = some (some v) → lr[k]? = some (.val (pm_v ad tk v))
def pm_as : Nat → pm_V → List (Nat × Value)
  | _, [] => []
  | i, none :: r => pm_as (i + 1) r
  | i, some v :: r => (i, v) :: pm_as (i + 1) r
theorem pm_as_mem : ∀ (ls : pm_V) (i : Nat) (q : Nat × Value), q ∈ pm_as i ls → ∃ k, q.1 = i + k ∧ ls[k]? = some (some q.2)
  | [], i, q, h => by simp [pm_as] at h
  | none :: r, i, q, h => by
    obtain ⟨k, h1, h2⟩ := pm_as_mem r (i + 1) q h
    exact ⟨k + 1, by omega, by simpa using h2⟩
  | some v :: r, i, q, h => by
    rcases List.mem_cons.mp h with rfl | h
    · exact ⟨0, rfl, rfl⟩
    · obtain ⟨k, h1, h2⟩ := pm_as_mem r (i + 1) q h
      exact ⟨k + 1, by omega, by simpa using h2⟩
theorem pm_as_in : ∀ (ls : pm_V) (i k : Nat) (v : Value), ls[k]? = some (some v) → (i + k, v) ∈ pm_as i ls
  | [], i, k, v, h => by simp at h
  | x :: r, i, 0, v, h => by
    have : x = some v := by simpa using h
    subst this
    exact List.mem_cons_self
  | x :: r, i, k + 1, v, h => by
    have h2 := pm_as_in r (i + 1) k v (by simpa using h)
    have e : i + 1 + k = i + (k + 1) := by omega
    rw [e] at h2
    cases x with
    | none => exact h2
    | some w => exact List.mem_cons_of_mem _ h2
def pm_al (ad tk : Nat → Nat) (ls : pm_V) : List (Nat × Value) := (pm_as 0 ls).map fun q => (q.1, pm_v ad tk q.2)
theorem pm_al_in {ad tk : Nat → Nat} {ls : pm_V} {k : Nat} {v : Value} (h : ls[k]? = some (some v)) : (k, pm_v ad tk v) ∈ pm_al ad tk ls := by
  have h1 := pm_as_in ls 0 k v h
  rw [Nat.zero_add] at h1
  exact List.mem_map.mpr ⟨(k, v), h1, rfl⟩
theorem pm_LH.has {ad tk : Nat → Nat} {lr : Array Slot} {nL : Nat} {ls : pm_V} (h : pm_LH ad tk lr nL ls) : lv_has lr nL (pm_al ad tk ls) := by
  refine ⟨h.1, h.2.1, fun q hq => ?_⟩
  obtain ⟨q', h1, rfl⟩ := List.mem_map.mp hq
  obtain ⟨k, h2, h3⟩ := pm_as_mem ls 0 q' h1
  rw [Nat.zero_add] at h2
  dsimp only
  rw [h2]
  exact h.2.2.2 k _ h3
theorem pm_clr_succ (ls : pm_V) (i : Nat) : pm_clr ls (i + 1) = (match ls.getD i none with
    | some v => bif pm_c2 v then ls.set i none else ls
    | none => ls) := rfl
theorem pm_clr_get {ls : pm_V} {i k : Nat} {w : Value} (h : (pm_clr ls i)[k]? = some (some w)) : ls[k]? = some (some w) ∧ ¬ (k + 1 = i ∧ pm_c2 w = true) := by
  cases i with
  | zero => exact ⟨h, fun q => by omega⟩
  | succ i =>
    rw [pm_clr_succ] at h
    cases hv : ls.getD i none with
    | some v =>
      rw [hv] at h
      cases hc : pm_c2 v with
      | false =>
        have h : (bif pm_c2 v then ls.set i none else ls)[k]? = some (some w) := h
        rw [hc] at h
        have h2 : ls[k]? = some (some w) := h
        refine ⟨h2, fun q => ?_⟩
        have e : k = i := by omega
        subst e
        rw [List.getD_eq_getElem?_getD, h2] at hv
        cases hv
        rw [hc] at q
        exact absurd q.2 (by decide)
      | true =>
        have h : (bif pm_c2 v then ls.set i none else ls)[k]? = some (some w) := h
        rw [hc] at h
        have h : (ls.set i none)[k]? = some (some w) := h
        by_cases e : k = i
        · subst e
          by_cases hl : k < ls.length
          · rw [List.getElem?_set_self hl] at h
            cases h
          · rw [List.getElem?_eq_none (by rw [List.length_set]; omega)] at h
            cases h
        · rw [List.getElem?_set_ne (fun q => e q.symm)] at h
          exact ⟨h, fun q => e (by omega)⟩
    | none =>
      rw [hv] at h
      have h2 : ls[k]? = some (some w) := h
      refine ⟨h2, fun q => ?_⟩
      have e : k = i := by omega
      subst e
      rw [List.getD_eq_getElem?_getD, h2] at hv
      cases hv
theorem pm_clr_len (ls : pm_V) (i : Nat) : (pm_clr ls i).length = ls.length := by
  cases i with
  | zero => rfl
  | succ i =>
    rw [pm_clr_succ]
    cases hv : ls.getD i none with
    | some v =>
      show (bif pm_c2 v then ls.set i none else ls).length = ls.length
      cases pm_c2 v with
      | false => rfl
      | true => exact List.length_set
    | none => rfl
theorem pm_LH.of1 {ad tk : Nat → Nat} {lr : Array Slot} {nL i : Nat} {ls : pm_V} {v : Value} (hl : ls.length = nL)
    (h : lv_has lr nL ((i, pm_v ad tk v) :: (pm_al ad tk ls).filter (fun q => !(q.1 == i) && !(q.1 + 1 == i && q.2.category == 2)))) : pm_LH ad tk lr nL ((pm_clr ls i).set i (some v)) := by
  refine ⟨h.1, h.2.1, by rw [List.length_set, pm_clr_len]; exact hl, fun k w hk => ?_⟩
  by_cases e : k = i
  · subst e
    have hlt : k < (pm_clr ls k).length := by
      have := (List.getElem?_eq_some_iff.mp hk).1
      rwa [List.length_set] at this
    rw [List.getElem?_set_self hlt] at hk
    cases hk
    exact h.2.2 _ List.mem_cons_self
  · rw [List.getElem?_set_ne (fun q => e q.symm)] at hk
    obtain ⟨h1, h2⟩ := pm_clr_get hk
    refine h.2.2 (k, pm_v ad tk w) (List.mem_cons_of_mem _ (List.mem_filter.mpr ⟨pm_al_in h1, ?_⟩))
    have hn1 : (k == i) = false := by simpa using e
    have hn2 : (k + 1 == i && (pm_v ad tk w).category == 2) = false := by
      rw [pm_v_cat]
      by_cases q : k + 1 = i
      · have : ¬ w.category = 2 := fun z => h2 ⟨q, by unfold pm_c2; rw [z]; rfl⟩
        simp [this]
      · simp [q]
    simp only [hn1, hn2, Bool.not_false, Bool.and_self]
theorem pm_LH.of2 {ad tk : Nat → Nat} {lr : Array Slot} {nL i : Nat} {ls : pm_V} {v : Value} (hl : ls.length = nL)
    (h : lv_has lr nL ((i, pm_v ad tk v) :: (pm_al ad tk ls).filter (fun q => !(q.1 == i) && (!(q.1 == i + 1) && !(q.1 + 1 == i && q.2.category == 2))))) : pm_LH ad tk lr nL (((pm_clr ls i).set i (some v)).set (i + 1) none) := by
  refine ⟨h.1, h.2.1, by rw [List.length_set, List.length_set, pm_clr_len]; exact hl, fun k w hk => ?_⟩
  have e1 : ¬ k = i + 1 := by
    intro e
    subst e
    have hlt := (List.getElem?_eq_some_iff.mp hk).1
    rw [List.length_set] at hlt
    rw [List.getElem?_set_self hlt] at hk
    cases hk
  rw [List.getElem?_set_ne (fun q => e1 q.symm)] at hk
  by_cases e : k = i
  · subst e
    have hlt : k < (pm_clr ls k).length := by
      have := (List.getElem?_eq_some_iff.mp hk).1
      rwa [List.length_set] at this
    rw [List.getElem?_set_self hlt] at hk
    cases hk
    exact h.2.2 _ List.mem_cons_self
  · rw [List.getElem?_set_ne (fun q => e q.symm)] at hk
    obtain ⟨h1, h2⟩ := pm_clr_get hk
    refine h.2.2 (k, pm_v ad tk w) (List.mem_cons_of_mem _ (List.mem_filter.mpr ⟨pm_al_in h1, ?_⟩))
    have hn0 : (k == i) = false := by simpa using e
    have hn1 : (k == i + 1) = false := by simpa using e1
    have hn2 : (k + 1 == i && (pm_v ad tk w).category == 2) = false := by
      rw [pm_v_cat]
      by_cases q : k + 1 = i
      · have : ¬ w.category = 2 := fun z => h2 ⟨q, by unfold pm_c2; rw [z]; rfl⟩
        simp [this]
      · simp [q]
    simp only [hn0, hn1, hn2, Bool.not_false, Bool.and_self]
theorem pm_ld_s {t : Value → Bool} {ls : pm_V} {i : Nat} {st st' : List Value} (h : pm_ld t ls i st = some st') : ∃ v, ls[i]? = some (some v) ∧ t v = true ∧ st' = v :: st := by
  unfold pm_ld at h
  split at h
  · rename_i v hv
    obtain ⟨h1, h2⟩ := pm_cnd h
    refine ⟨v, ?_, h1, h2.symm⟩
    rw [List.getD_eq_getElem?_getD] at hv
    cases hg : ls[i]? with
    | none => rw [hg] at hv; cases hv
    | some x => rw [hg] at hv; exact congrArg some hv
  · cases h
theorem pm_isI_s {v : Value} (h : pm_isI v = true) : ∃ x, v = .int x := by cases v <;> first | exact ⟨_, rfl⟩ | cases h
theorem pm_isL_s {v : Value} (h : pm_isL v = true) : ∃ x, v = .long x := by cases v <;> first | exact ⟨_, rfl⟩ | cases h
theorem pm_isD_s {v : Value} (h : pm_isD v = true) : ∃ x, v = .double x := by cases v <;> first | exact ⟨_, rfl⟩ | cases h
theorem pm_isA_s {v : Value} (ad tk : Nat → Nat) (h : pm_isA v = true) : ∃ a, pm_v ad tk v = .ref a := by cases v <;> first | exact ⟨_, rfl⟩ | cases h
theorem pm_st1_s {t : Value → Bool} {ls : pm_V} {i : Nat} {st : List Value} {q : pm_V × List Value} (h : pm_st1 t ls i st = some q) : ∃ v r, st = v :: r ∧ t v = true ∧ i < ls.length ∧ q = ((pm_clr ls i).set i (some v), r) := by
  unfold pm_st1 at h
  split at h
  · obtain ⟨h1, h2⟩ := pm_cnd h
    rw [Bool.and_eq_true] at h1
    exact ⟨_, _, rfl, h1.1, Nat.le_of_ble_eq_true h1.2, h2.symm⟩
  · cases h
theorem pm_st2_s {t : Value → Bool} {ls : pm_V} {i : Nat} {st : List Value} {q : pm_V × List Value} (h : pm_st2 t ls i st = some q) : ∃ v r, st = v :: r ∧ t v = true ∧ i + 1 < ls.length ∧ q = (((pm_clr ls i).set i (some v)).set (i + 1) none, r) := by
  unfold pm_st2 at h
  split at h
  · obtain ⟨h1, h2⟩ := pm_cnd h
    rw [Bool.and_eq_true] at h1
    exact ⟨_, _, rfl, h1.1, Nat.le_of_ble_eq_true h1.2, h2.symm⟩
  · cases h
section PML
variable {p : Program} {l : Launch} {e : Env} {R : Room} {s : State} {m : MethodId} {args : Array Value} {below : List Frame} {meth : Method} {c : Code} {H : Heap} {locs : List Loc} {cells slots : Nat} {Q : State → Prop} {cc : ByteArray} {pc nL : Nat} {lr : Array Slot} {ad tk : Nat → Nat} {ls : pm_V} {st : List Value}
/-- what is to be shown of the point that follows -/
def pm_K (p : Program) (l : Launch) (e : Env) (R : Room) (s : State) (m : MethodId) (args : Array Value) (below : List Frame) (meth : Method) (c : Code) (H : Heap) (locs : List Loc) (cells slots : Nat) (Q : State → Prop) (nL : Nat) (ad tk : Nat → Nat) (pc : Nat) (ls : pm_V) (st : List Value) : Prop :=
  ∀ lr : Array Slot, pm_LH ad tk lr nL ls → W p l e R s m args below meth c H locs cells slots Q (F0 m pc lr (st.map (pm_v ad tk)))
theorem pm_ok_iload (hx : p.tables.exec = Jvm.exec) (hb : c.code = cc) {i : Nat} {st' : List Value} (ho : pm_ld pm_isI ls i st = some st') (hd : decode cc pc = .ok (.iload i, 2)) (k : pm_K p l e R s m args below meth c H locs cells slots Q nL ad tk (pc + 2) ls st') : pm_K p l e R s m args below meth c H locs cells slots Q nL ad tk pc ls st := by
  intro lr hl
  obtain ⟨v, h1, h2, rfl⟩ := pm_ld_s ho
  obtain ⟨x, rfl⟩ := pm_isI_s h2
  exact lv_iload hx hb hd (hl.2.2.2 i _ h1) (k lr hl)
theorem pm_ok_iload_n (hx : p.tables.exec = Jvm.exec) (hb : c.code = cc) {i : Fin 4} {st' : List Value} (ho : pm_ld pm_isI ls i st = some st') (hd : decode cc pc = .ok (.iload_n i, 1)) (k : pm_K p l e R s m args below meth c H locs cells slots Q nL ad tk (pc + 1) ls st') : pm_K p l e R s m args below meth c H locs cells slots Q nL ad tk pc ls st := by
  intro lr hl
  obtain ⟨v, h1, h2, rfl⟩ := pm_ld_s ho
  obtain ⟨x, rfl⟩ := pm_isI_s h2
  exact lv_iload_n hx hb hd rfl (hl.2.2.2 i _ h1) (k lr hl)
theorem pm_ok_lload (hx : p.tables.exec = Jvm.exec) (hb : c.code = cc) {i : Nat} {st' : List Value} (ho : pm_ld pm_isL ls i st = some st') (hd : decode cc pc = .ok (.lload i, 2)) (k : pm_K p l e R s m args below meth c H locs cells slots Q nL ad tk (pc + 2) ls st') : pm_K p l e R s m args below meth c H locs cells slots Q nL ad tk pc ls st := by
  intro lr hl
  obtain ⟨v, h1, h2, rfl⟩ := pm_ld_s ho
  obtain ⟨x, rfl⟩ := pm_isL_s h2
  exact lv_lload hx hb hd (hl.2.2.2 i _ h1) (k lr hl)
theorem pm_ok_lload_n (hx : p.tables.exec = Jvm.exec) (hb : c.code = cc) {i : Fin 4} {st' : List Value} (ho : pm_ld pm_isL ls i st = some st') (hd : decode cc pc = .ok (.lload_n i, 1)) (k : pm_K p l e R s m args below meth c H locs cells slots Q nL ad tk (pc + 1) ls st') : pm_K p l e R s m args below meth c H locs cells slots Q nL ad tk pc ls st := by
  intro lr hl
  obtain ⟨v, h1, h2, rfl⟩ := pm_ld_s ho
  obtain ⟨x, rfl⟩ := pm_isL_s h2
  exact lv_lload_n hx hb hd rfl (hl.2.2.2 i _ h1) (k lr hl)
theorem pm_ok_dload (hx : p.tables.exec = Jvm.exec) (hb : c.code = cc) {i : Nat} {st' : List Value} (ho : pm_ld pm_isD ls i st = some st') (hd : decode cc pc = .ok (.dload i, 2)) (k : pm_K p l e R s m args below meth c H locs cells slots Q nL ad tk (pc + 2) ls st') : pm_K p l e R s m args below meth c H locs cells slots Q nL ad tk pc ls st := by
  intro lr hl
  obtain ⟨v, h1, h2, rfl⟩ := pm_ld_s ho
  obtain ⟨x, rfl⟩ := pm_isD_s h2
  exact lv_dload hx hb hd (hl.2.2.2 i _ h1) (k lr hl)
theorem pm_ok_dload_n (hx : p.tables.exec = Jvm.exec) (hb : c.code = cc) {i : Fin 4} {st' : List Value} (ho : pm_ld pm_isD ls i st = some st') (hd : decode cc pc = .ok (.dload_n i, 1)) (k : pm_K p l e R s m args below meth c H locs cells slots Q nL ad tk (pc + 1) ls st') : pm_K p l e R s m args below meth c H locs cells slots Q nL ad tk pc ls st := by
  intro lr hl
  obtain ⟨v, h1, h2, rfl⟩ := pm_ld_s ho
  obtain ⟨x, rfl⟩ := pm_isD_s h2
  exact lv_dload_n hx hb hd rfl (hl.2.2.2 i _ h1) (k lr hl)
theorem pm_ok_aload (hx : p.tables.exec = Jvm.exec) (hb : c.code = cc) {i : Nat} {st' : List Value} (ho : pm_ld pm_isA ls i st = some st') (hd : decode cc pc = .ok (.aload i, 2)) (k : pm_K p l e R s m args below meth c H locs cells slots Q nL ad tk (pc + 2) ls st') : pm_K p l e R s m args below meth c H locs cells slots Q nL ad tk pc ls st := by
  intro lr hl
  obtain ⟨v, h1, h2, rfl⟩ := pm_ld_s ho
  obtain ⟨a, ha⟩ := pm_isA_s ad tk h2
  have h3 := hl.2.2.2 i _ h1
  have k := k lr hl
  rw [ha] at h3
  rw [List.map_cons, ha] at k
  exact lv_aload hx hb hd h3 k
theorem pm_ok_aload_n (hx : p.tables.exec = Jvm.exec) (hb : c.code = cc) {i : Fin 4} {st' : List Value} (ho : pm_ld pm_isA ls i st = some st') (hd : decode cc pc = .ok (.aload_n i, 1)) (k : pm_K p l e R s m args below meth c H locs cells slots Q nL ad tk (pc + 1) ls st') : pm_K p l e R s m args below meth c H locs cells slots Q nL ad tk pc ls st := by
  intro lr hl
  obtain ⟨v, h1, h2, rfl⟩ := pm_ld_s ho
  obtain ⟨a, ha⟩ := pm_isA_s ad tk h2
  have h3 := hl.2.2.2 i _ h1
  have k := k lr hl
  rw [ha] at h3
  rw [List.map_cons, ha] at k
  exact lv_aload_n hx hb hd rfl h3 k
theorem pm_ok_istore (hx : p.tables.exec = Jvm.exec) (hb : c.code = cc) {i : Nat} {q : pm_V × List Value} (ho : pm_st1 pm_isI ls i st = some q) (hd : decode cc pc = .ok (.istore i, 2)) (k : pm_K p l e R s m args below meth c H locs cells slots Q nL ad tk (pc + 2) q.1 q.2) : pm_K p l e R s m args below meth c H locs cells slots Q nL ad tk pc ls st := by
  intro lr hl
  obtain ⟨v, r, rfl, h2, h3, rfl⟩ := pm_st1_s ho
  obtain ⟨x, rfl⟩ := pm_isI_s h2
  exact lv_istore hx hb hd hl.has (by rw [← hl.2.2.1]; exact h3) rfl (fun ls' h' => k ls' (pm_LH.of1 hl.2.2.1 h'))
theorem pm_ok_istore_n (hx : p.tables.exec = Jvm.exec) (hb : c.code = cc) {i : Fin 4} {q : pm_V × List Value} (ho : pm_st1 pm_isI ls i st = some q) (hd : decode cc pc = .ok (.istore_n i, 1)) (k : pm_K p l e R s m args below meth c H locs cells slots Q nL ad tk (pc + 1) q.1 q.2) : pm_K p l e R s m args below meth c H locs cells slots Q nL ad tk pc ls st := by
  intro lr hl
  obtain ⟨v, r, rfl, h2, h3, rfl⟩ := pm_st1_s ho
  obtain ⟨x, rfl⟩ := pm_isI_s h2
  exact lv_istore_n hx hb hd rfl hl.has (by rw [← hl.2.2.1]; exact h3) rfl (fun ls' h' => k ls' (pm_LH.of1 hl.2.2.1 h'))
theorem pm_ok_astore (hx : p.tables.exec = Jvm.exec) (hb : c.code = cc) {i : Nat} {q : pm_V × List Value} (ho : pm_st1 pm_isA ls i st = some q) (hd : decode cc pc = .ok (.astore i, 2)) (k : pm_K p l e R s m args below meth c H locs cells slots Q nL ad tk (pc + 2) q.1 q.2) : pm_K p l e R s m args below meth c H locs cells slots Q nL ad tk pc ls st := by
  intro lr hl
  obtain ⟨v, r, rfl, h2, h3, rfl⟩ := pm_st1_s ho
  obtain ⟨a, ha⟩ := pm_isA_s ad tk h2
  rw [List.map_cons, ha]
  refine lv_astore hx hb hd hl.has (by rw [← hl.2.2.1]; exact h3) rfl (fun ls' h' => k ls' (pm_LH.of1 hl.2.2.1 (by rw [ha]; exact h')))
theorem pm_ok_astore_n (hx : p.tables.exec = Jvm.exec) (hb : c.code = cc) {i : Fin 4} {q : pm_V × List Value} (ho : pm_st1 pm_isA ls i st = some q) (hd : decode cc pc = .ok (.astore_n i, 1)) (k : pm_K p l e R s m args below meth c H locs cells slots Q nL ad tk (pc + 1) q.1 q.2) : pm_K p l e R s m args below meth c H locs cells slots Q nL ad tk pc ls st := by
  intro lr hl
  obtain ⟨v, r, rfl, h2, h3, rfl⟩ := pm_st1_s ho
  obtain ⟨a, ha⟩ := pm_isA_s ad tk h2
  rw [List.map_cons, ha]
  refine lv_astore_n hx hb hd rfl hl.has (by rw [← hl.2.2.1]; exact h3) rfl (fun ls' h' => k ls' (pm_LH.of1 hl.2.2.1 (by rw [ha]; exact h')))
theorem pm_ok_lstore (hx : p.tables.exec = Jvm.exec) (hb : c.code = cc) {i : Nat} {q : pm_V × List Value} (ho : pm_st2 pm_isL ls i st = some q) (hd : decode cc pc = .ok (.lstore i, 2)) (k : pm_K p l e R s m args below meth c H locs cells slots Q nL ad tk (pc + 2) q.1 q.2) : pm_K p l e R s m args below meth c H locs cells slots Q nL ad tk pc ls st := by
  intro lr hl
  obtain ⟨v, r, rfl, h2, h3, rfl⟩ := pm_st2_s ho
  obtain ⟨x, rfl⟩ := pm_isL_s h2
  exact lv_lstore hx hb hd hl.has (by rw [← hl.2.2.1]; exact h3) rfl (fun ls' h' => k ls' (pm_LH.of2 hl.2.2.1 h'))
theorem pm_ok_lstore_n (hx : p.tables.exec = Jvm.exec) (hb : c.code = cc) {i : Fin 4} {q : pm_V × List Value} (ho : pm_st2 pm_isL ls i st = some q) (hd : decode cc pc = .ok (.lstore_n i, 1)) (k : pm_K p l e R s m args below meth c H locs cells slots Q nL ad tk (pc + 1) q.1 q.2) : pm_K p l e R s m args below meth c H locs cells slots Q nL ad tk pc ls st := by
  intro lr hl
  obtain ⟨v, r, rfl, h2, h3, rfl⟩ := pm_st2_s ho
  obtain ⟨x, rfl⟩ := pm_isL_s h2
  exact lv_lstore_n hx hb hd rfl hl.has (by rw [← hl.2.2.1]; exact h3) rfl (fun ls' h' => k ls' (pm_LH.of2 hl.2.2.1 h'))
theorem pm_ok_dstore (hx : p.tables.exec = Jvm.exec) (hb : c.code = cc) {i : Nat} {q : pm_V × List Value} (ho : pm_st2 pm_isD ls i st = some q) (hd : decode cc pc = .ok (.dstore i, 2)) (k : pm_K p l e R s m args below meth c H locs cells slots Q nL ad tk (pc + 2) q.1 q.2) : pm_K p l e R s m args below meth c H locs cells slots Q nL ad tk pc ls st := by
  intro lr hl
  obtain ⟨v, r, rfl, h2, h3, rfl⟩ := pm_st2_s ho
  obtain ⟨x, rfl⟩ := pm_isD_s h2
  exact lv_dstore hx hb hd hl.has (by rw [← hl.2.2.1]; exact h3) rfl (fun ls' h' => k ls' (pm_LH.of2 hl.2.2.1 h'))
theorem pm_ok_dstore_n (hx : p.tables.exec = Jvm.exec) (hb : c.code = cc) {i : Fin 4} {q : pm_V × List Value} (ho : pm_st2 pm_isD ls i st = some q) (hd : decode cc pc = .ok (.dstore_n i, 1)) (k : pm_K p l e R s m args below meth c H locs cells slots Q nL ad tk (pc + 1) q.1 q.2) : pm_K p l e R s m args below meth c H locs cells slots Q nL ad tk pc ls st := by
  intro lr hl
  obtain ⟨v, r, rfl, h2, h3, rfl⟩ := pm_st2_s ho
  obtain ⟨x, rfl⟩ := pm_isD_s h2
  exact lv_dstore_n hx hb hd rfl hl.has (by rw [← hl.2.2.1]; exact h3) rfl (fun ls' h' => k ls' (pm_LH.of2 hl.2.2.1 h'))
theorem pm_ok_iinc (hx : p.tables.exec = Jvm.exec) (hb : c.code = cc) {i : Nat} {n : Int} {ls' : pm_V} (ho : pm_inc ls i n = some ls') (hd : decode cc pc = .ok (.iinc i n, 3)) (k : pm_K p l e R s m args below meth c H locs cells slots Q nL ad tk (pc + 3) ls' st) : pm_K p l e R s m args below meth c H locs cells slots Q nL ad tk pc ls st := by
  intro lr hl
  unfold pm_inc at ho
  split at ho
  · rename_i x hv
    cases ho
    have h1 : ls[i]? = some (some (.int x)) := by
      rw [List.getD_eq_getElem?_getD] at hv
      cases hg : ls[i]? with
      | none => rw [hg] at hv; cases hv
      | some y => rw [hg] at hv; exact congrArg some hv
    have hi : i < ls.length := (List.getElem?_eq_some_iff.mp h1).1
    obtain ⟨j, hj⟩ := List.getElem?_of_mem (pm_al_in (ad := ad) (tk := tk) h1)
    exact lv_iinc hx hb hd hl.has hj rfl (by rw [← hl.2.2.1]; exact hi) rfl (fun ls' h' => k ls' (pm_LH.of1 (v := .int (x + Int32.ofInt n)) hl.2.2.1 h'))
  · cases ho
theorem pm_ok_goto (hx : p.tables.exec = Jvm.exec) (hb : c.code = cc) {off : Int} {t : Nat} (hd : decode cc pc = .ok (.goto off, 3)) (ht : (pc : Int) + off = (t : Int)) (k : pm_K p l e R s m args below meth c H locs cells slots Q nL ad tk t ls st) : pm_K p l e R s m args below meth c H locs cells slots Q nL ad tk pc ls st := by
  intro lr hl
  exact lv_goto hx hb hd ht (k lr hl)
theorem pm_ok_if (hx : p.tables.exec = Jvm.exec) (hb : c.code = cc) {cd : Jvm.ClassFile.Cond} {off : Int} {t : Nat} {x : Int32} {r : List Value} (hd : decode cc pc = .ok (.ifCond cd off, 3)) (ht : (pc : Int) + off = (t : Int)) (k : pm_K p l e R s m args below meth c H locs cells slots Q nL ad tk (bif pm_b1 cd x then t else pc + 3) ls r) : pm_K p l e R s m args below meth c H locs cells slots Q nL ad tk pc ls (.int x :: r) := by
  intro lr hl
  have k := k lr hl
  cases cd with
  | eq => exact lv_if_eq hx hb hd ht (fun z => by rw [show pm_b1 .eq x = true from decide_eq_true z] at k; exact k) (fun z => by rw [show pm_b1 .eq x = false from decide_eq_false z] at k; exact k)
  | ne => exact lv_if_ne hx hb hd ht (fun z => by rw [show pm_b1 .ne x = true from congrArg (! ·) (decide_eq_false z)] at k; exact k) (fun z => by rw [show pm_b1 .ne x = false from congrArg (! ·) (decide_eq_true z)] at k; exact k)
  | lt => exact lv_if_lt hx hb hd ht (fun z => by rw [show pm_b1 .lt x = true from decide_eq_true z] at k; exact k) (fun z => by rw [show pm_b1 .lt x = false from decide_eq_false z] at k; exact k)
  | ge => exact lv_if_ge hx hb hd ht (fun z => by rw [show pm_b1 .ge x = true from decide_eq_true z] at k; exact k) (fun z => by rw [show pm_b1 .ge x = false from decide_eq_false z] at k; exact k)
  | gt => exact lv_if_gt hx hb hd ht (fun z => by rw [show pm_b1 .gt x = true from decide_eq_true z] at k; exact k) (fun z => by rw [show pm_b1 .gt x = false from decide_eq_false z] at k; exact k)
  | le => exact lv_if_le hx hb hd ht (fun z => by rw [show pm_b1 .le x = true from decide_eq_true z] at k; exact k) (fun z => by rw [show pm_b1 .le x = false from decide_eq_false z] at k; exact k)
theorem pm_ok_icmp (hx : p.tables.exec = Jvm.exec) (hb : c.code = cc) {cd : Jvm.ClassFile.Cond} {off : Int} {t : Nat} {x y : Int32} {r : List Value} (hd : decode cc pc = .ok (.if_icmp cd off, 3)) (ht : (pc : Int) + off = (t : Int)) (k : pm_K p l e R s m args below meth c H locs cells slots Q nL ad tk (bif pm_b2 cd x y then t else pc + 3) ls r) : pm_K p l e R s m args below meth c H locs cells slots Q nL ad tk pc ls (.int y :: .int x :: r) := by
  intro lr hl
  have k := k lr hl
  cases cd with
  | eq => exact lv_icmp_eq hx hb hd ht (fun z => by rw [show pm_b2 .eq x y = true from decide_eq_true z] at k; exact k) (fun z => by rw [show pm_b2 .eq x y = false from decide_eq_false z] at k; exact k)
  | ne => exact lv_icmp_ne hx hb hd ht (fun z => by rw [show pm_b2 .ne x y = true from congrArg (! ·) (decide_eq_false z)] at k; exact k) (fun z => by rw [show pm_b2 .ne x y = false from congrArg (! ·) (decide_eq_true z)] at k; exact k)
  | lt => exact lv_icmp_lt hx hb hd ht (fun z => by rw [show pm_b2 .lt x y = true from decide_eq_true z] at k; exact k) (fun z => by rw [show pm_b2 .lt x y = false from decide_eq_false z] at k; exact k)
  | ge => exact lv_icmp_ge hx hb hd ht (fun z => by rw [show pm_b2 .ge x y = true from decide_eq_true z] at k; exact k) (fun z => by rw [show pm_b2 .ge x y = false from decide_eq_false z] at k; exact k)
  | gt => exact lv_icmp_gt hx hb hd ht (fun z => by rw [show pm_b2 .gt x y = true from decide_eq_true z] at k; exact k) (fun z => by rw [show pm_b2 .gt x y = false from decide_eq_false z] at k; exact k)
  | le => exact lv_icmp_le hx hb hd ht (fun z => by rw [show pm_b2 .le x y = true from decide_eq_true z] at k; exact k) (fun z => by rw [show pm_b2 .le x y = false from decide_eq_false z] at k; exact k)
end PML
