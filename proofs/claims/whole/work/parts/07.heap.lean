/-! .. fifth piece: points with a heap; fields and arrays. -/
/-- the point (pc, ls, st, h) of the pure machine: from every state of the real one that it is a picture of, the walk comes to Q -/
def pm_Pt (p : Program) (l : Launch) (e : Env) (R : Room) (s : State) (m : MethodId) (args : Array Value) (below : List Frame) (meth : Method) (c : Code) (D : va_G) (cl : List vw_C) (A : Nat → Prop) (tk aC : Nat → Nat) (Q : State → Prop) (nL : Nat) (ad : Nat → Nat) (x : pm_S) : Prop :=
  ∀ (H : Heap) (locs : List Loc) (lr : Array Slot), pm_LH ad tk lr nL x.2.1 → va_P D cl (pm_w ad tk aC x.2.2.2.1) H → va_D A (pm_w ad tk aC x.2.2.2.1) → va_S A s.heap H locs →
    W p l e R s m args below meth c H locs x.2.2.2.2.1 x.2.2.2.2.2 Q (F0 m x.1 lr (x.2.2.1.map (pm_v ad tk)))
/-- a field's link -/
def pm_lkF (own : String) (Ts : List Cond) (cl : List vw_C) (index ci k : Nat) : Prop :=
  ∃ (C : String) (T : u_T) (N : Nat), cl[ci]? = some (C, T, N) ∧ k < N ∧ (∀ w ∈ u_ws C T N, w ∈ Ts) ∧ (T k).1 = C ∧ (Cond.fieldLink own index C (T k).2.1 (T k).2.2.1 ∈ Ts ∨ ∃ host, Cond.fieldLinkNest own index C (T k).2.1 (T k).2.2.1 host ∈ Ts)
/-- a type by the kind that the link says -/
def pm_tyk (t : Nat) (ty : FieldType) : Prop := match t with
  | 0 => ty = .int
  | 1 => ty = .long
  | 2 => ty.isReference = true
  | 3 => ty = .double
  | _ => ty = .boolean
/-- .. of a field that is written -/
def pm_lkP (own : String) (mname : String) (Ts : List Cond) (cl : List vw_C) (index ci k t : Nat) : Prop :=
  ∃ (C : String) (T : u_T) (N : Nat) (ty0 : Nat → FieldType), cl[ci]? = some (C, T, N) ∧ k < N ∧ (∀ w ∈ u_ws C T N, w ∈ Ts) ∧ (T k).1 = C ∧ (∀ k, k < N → parseFieldDescriptor (T k).2.2.1 = some (ty0 k)) ∧ (∀ a, a < N → ∀ b, b < N → a ≠ b → (T a).2.1 ≠ (T b).2.1) ∧ pm_tyk t (ty0 k) ∧
    (((T k).2.2.2 = false ∧ (Cond.fieldLink own index C (T k).2.1 (T k).2.2.1 ∈ Ts ∨ ∃ host, Cond.fieldLinkNest own index C (T k).2.1 (T k).2.2.1 host ∈ Ts)) ∨
     ((T k).2.2.2 = true ∧ mname = "<init>" ∧ C = own ∧ Cond.fieldLink own index C (T k).2.1 (T k).2.2.1 ∈ Ts))
theorem pm_fit_ok {t : Nat} {ty : FieldType} {v : Value} (ad tk : Nat → Nat) (ht : pm_tyk t ty) (h : pm_fit t v = true) : narrow ty (pm_v ad tk v) = pm_v ad tk v ∧ fits ty (pm_v ad tk v) = true := by
  unfold pm_fit at h
  split at h
  · have ht : ty = .int := ht
    subst ht
    exact ⟨rfl, rfl⟩
  · have ht : ty = .long := ht
    subst ht
    exact ⟨rfl, rfl⟩
  · have ht : ty.isReference = true := ht
    cases ty <;> first | exact ⟨rfl, rfl⟩ | cases ht
  · have ht : ty = .double := ht
    subst ht
    exact ⟨rfl, rfl⟩
  · rename_i x
    have ht : ty = .boolean := ht
    subst ht
    rw [Bool.or_eq_true] at h
    rcases h with h | h
    · have := of_decide_eq_true h
      subst this
      exact ⟨rfl, rfl⟩
    · have := of_decide_eq_true h
      subst this
      exact ⟨rfl, rfl⟩
  · cases h
section PMH
variable {p : Program} {l : Launch} {e : Env} {R : Room} {s : State} {m : MethodId} {args : Array Value} {below : List Frame} {meth : Method} {c : Code} {Q : State → Prop} {cc : ByteArray} {pc nL ce sl : Nat} {ad tk aC : Nat → Nat} {ls : pm_V} {r : List Value} {h : pm_H} {D : va_G} {cl : List vw_C} {A : Nat → Prop} {tys : List (ClassId × FieldType)} {Ts : List Cond} {own : String}
theorem pm_ok_getf (hx : p.tables.exec = Jvm.exec) (hb : c.code = cc) (hts : ∀ w ∈ Ts, w.before args s = true) (hown : s.vm.findClass own = some m.cls) (hK : va_K D cl tys s) {index ci k a : Nat} {v : Value} (hlk : pm_lkF own Ts cl index ci k) (hf : pm_fld h a ci k = some v) (hd : decode cc pc = .ok (.getfield index, 3))
    (kk : pm_Pt p l e R s m args below meth c D cl A tk aC Q nL ad (pc + 3, ls, v :: r, h, ce, sl)) : pm_Pt p l e R s m args below meth c D cl A tk aC Q nL ad (pc, ls, .ref a :: r, h, ce, sl) := by
  intro H locs lr hl hP hD hS
  obtain ⟨C, T, N, hc, hk, hin, hTC, hlink⟩ := hlk
  obtain ⟨fs, h1, h2⟩ := pm_fld_s hf
  have hv : (fs.map (pm_v ad tk))[k]? = some (pm_v ad tk v) := by rw [List.getElem?_map, h2]; rfl
  have k2 := kk H locs lr hl hP hD hS
  rcases hlink with hw | ⟨host, hw⟩
  · exact va_get hx hb hts hin hown hK hP a (pm_w_at h1) hc k hk (hts _ hw) (fun x h9 => by rw [hTC] at h9; exact h9) hv hd k2
  · exact va_getN hx hb hts hin hown hK hP a (pm_w_at h1) hc k hk (hts _ hw) (fun x h9 => by rw [hTC] at h9; exact h9) hv hd k2
theorem pm_ok_putf (hx : p.tables.exec = Jvm.exec) (hb : c.code = cc) (hts : ∀ w ∈ Ts, w.before args s = true) (hown : s.vm.findClass own = some m.cls) (hK : va_K D cl tys s) {mname : String} (hmn : meth.name = mname) {index ci k t a : Nat} {v : Value} {h' : pm_H} (hlk : pm_lkP own mname Ts cl index ci k t) (hf : pm_put h a ci k t v = some h') (hd : decode cc pc = .ok (.putfield index, 3))
    (kk : pm_Pt p l e R s m args below meth c D cl A tk aC Q nL ad (pc + 3, ls, r, h', ce, sl)) : pm_Pt p l e R s m args below meth c D cl A tk aC Q nL ad (pc, ls, v :: .ref a :: r, h, ce, sl) := by
  intro H locs lr hl hP hD hS
  obtain ⟨C, T, N, ty0, hc, hk, hin, hTC, hty, hnm, htk, hlink⟩ := hlk
  obtain ⟨fs, h1, h2, h3, rfl⟩ := pm_put_s hf
  obtain ⟨n1, n2⟩ := pm_fit_ok ad tk htk h2
  have e1 : pm_w ad tk aC (h.set a (.inr (ci, fs.set k v))) = (pm_w ad tk aC h).set a (ad a, .inr (ci, (fs.map (pm_v ad tk)).set k (pm_v ad tk v))) := by
    rw [pm_w_set]
    show (pm_w ad tk aC h).set a (ad a, .inr (ci, (fs.set k v).map (pm_v ad tk))) = _
    rw [List.map_set]
  have kk' : ∀ (H1 : Heap) (locs1 : List Loc), va_P D cl ((pm_w ad tk aC h).set a (ad a, .inr (ci, (fs.map (pm_v ad tk)).set k (pm_v ad tk v)))) H1 → va_D A ((pm_w ad tk aC h).set a (ad a, .inr (ci, (fs.map (pm_v ad tk)).set k (pm_v ad tk v)))) → va_S A s.heap H1 locs1 → W p l e R s m args below meth c H1 locs1 ce sl Q (F0 m (pc + 3) lr (r.map (pm_v ad tk))) := by
    intro H1 locs1 q1 q2 q3
    exact kk H1 locs1 lr hl (by rw [e1]; exact q1) (by rw [e1]; exact q2) q3
  have hl9 : k < (fs.map (pm_v ad tk)).length := by rw [List.length_map]; exact h3
  have hs9 : ∀ x, s.fieldFound? (T k).1 (T k).2.1 (T k).2.2.1 = some x → s.fieldFound? C (T k).2.1 (T k).2.2.1 = some x := fun x h9 => by rw [hTC] at h9; exact h9
  rcases hlink with ⟨hfin, hw | ⟨host, hw⟩⟩ | ⟨hfin, hini, hCo, hw⟩
  · exact va_put hx hb hts hin ty0 hty hnm hown hK hP hD hS a (pm_w_at h1) hc k hk (hts _ hw) hs9 hfin (hty k hk) n1 n2 hl9 hd kk'
  · exact va_putN hx hb hts hin ty0 hty hnm hown hK hP hD hS a (pm_w_at h1) hc k hk (hts _ hw) hs9 hfin (hty k hk) n1 n2 hl9 hd kk'
  · exact va_putF hx hb hts hin ty0 hty hnm hown hK hP hD hS a (pm_w_at h1) hc k hk (hts _ hw) hs9 hfin (hmn.trans hini) (hTC.trans hCo) (hty k hk) n1 n2 hl9 hd kk'
end PMH
