/-! THE RUN: rows by which a method's code is run over the state -/
abbrev Ex (X : pm_X) (d m : Nat) (a : List Value) (h : pm_H) (q : pm_R) : Prop := pm_Ev X pc_Dv (pm_T pc_MI) d m a h q
def Gx (X : pm_X) (d : Nat) (M : pm_M) (s : pm_S) (r : pm_R) : Prop := pm_Go X pc_Dv (pm_Ev X pc_Dv (pm_T pc_MI) d) M s r
theorem Ex_iff {X : pm_X} {d m : Nat} {a : List Value} {h : pm_H} {q : pm_R} {M : pm_M} {n : Nat} (hm : pm_T pc_MI m = (M, n)) (hl : Nat.ble (pm_loc a).length n = true) : Ex X (d + 1) m a h q ↔ Gx X d M (0, pm_ent n a, [], h, 0, 0) q := by
  unfold Ex Gx pm_Ev
  rw [hm]
  exact ⟨fun h => h.2, fun h => ⟨hl, h⟩⟩
/-! what works on locals and stack alone, many at once -/
def pm_pu1 (i : Instr) (len : Nat) (L : pm_L) (pc : Nat) (ls : pm_V) (st : List Value) : Option (Nat × pm_V × List Value) :=
  bif Nat.beq (pm_kind i L) 0 then (pm_op i st).map (fun st' => (pc + len, ls, st')) else match i with
  | .iload_n n => (pm_ld pm_isI ls n st).map (fun st' => (pc + len, ls, st'))
  | .iload n => (pm_ld pm_isI ls n st).map (fun st' => (pc + len, ls, st'))
  | .lload_n n => (pm_ld pm_isL ls n st).map (fun st' => (pc + len, ls, st'))
  | .lload n => (pm_ld pm_isL ls n st).map (fun st' => (pc + len, ls, st'))
  | .dload_n n => (pm_ld pm_isD ls n st).map (fun st' => (pc + len, ls, st'))
  | .dload n => (pm_ld pm_isD ls n st).map (fun st' => (pc + len, ls, st'))
  | .aload_n n => (pm_ld pm_isA ls n st).map (fun st' => (pc + len, ls, st'))
  | .aload n => (pm_ld pm_isA ls n st).map (fun st' => (pc + len, ls, st'))
  | .istore_n n => (pm_st1 pm_isI ls n st).map (fun q => (pc + len, q.1, q.2))
  | .istore n => (pm_st1 pm_isI ls n st).map (fun q => (pc + len, q.1, q.2))
  | .astore_n n => (pm_st1 pm_isA ls n st).map (fun q => (pc + len, q.1, q.2))
  | .astore n => (pm_st1 pm_isA ls n st).map (fun q => (pc + len, q.1, q.2))
  | .lstore_n n => (pm_st2 pm_isL ls n st).map (fun q => (pc + len, q.1, q.2))
  | .lstore n => (pm_st2 pm_isL ls n st).map (fun q => (pc + len, q.1, q.2))
  | .dstore_n n => (pm_st2 pm_isD ls n st).map (fun q => (pc + len, q.1, q.2))
  | .dstore n => (pm_st2 pm_isD ls n st).map (fun q => (pc + len, q.1, q.2))
  | .iinc n d => (pm_inc ls n d).map fun l => (pc + len, l, st)
  | .goto _ => match L.1 with
    | [t] => some (t, ls, st)
    | _ => none
  | .ldc _ => some (pc + len, ls, L.2 :: st)
  | .ldc_w _ => some (pc + len, ls, L.2 :: st)
  | .ldc2_w _ => some (pc + len, ls, L.2 :: st)
  | .getstatic _ => some (pc + len, ls, L.2 :: st)
  | _ => none
theorem pm_pu1_s {X : pm_X} {D : Nat → List Value} {i : Instr} {len : Nat} {L : pm_L} {pc : Nat} {ls : pm_V} {st : List Value} {s' : Nat × pm_V × List Value} (h : pm_pu1 i len L pc ls st = some s') (hp : pm_H) (c k : Nat) : pm_step X D i len L (pc, ls, st, hp, c, k) = some (s'.1, s'.2.1, s'.2.2, hp, c, k) ∧ (pm_kind i L = 0 ∨ pm_kind i L = 1) := by
  unfold pm_pu1 at h
  unfold pm_step
  cases hk : Nat.beq (pm_kind i L) 0 with
  | true =>
    rw [hk] at h
    obtain ⟨st', h1, rfl⟩ := Option.map_eq_some_iff.mp h
    refine ⟨?_, Or.inl (Nat.eq_of_beq_eq_true hk)⟩
    show pm_on pc len ls hp c k (pm_op i st) = _
    rw [h1]
    rfl
  | false =>
    rw [hk] at h
    dsimp only [cond_false] at h ⊢
    split at h
    case h_18 =>
      refine ⟨?_, Or.inr rfl⟩
      split at h
      · rename_i t e
        cases h
        show pm_go1 ls st hp c k L.1 = _
        rw [e]
        rfl
      · cases h
    all_goals first
      | (obtain ⟨st', h1, rfl⟩ := Option.map_eq_some_iff.mp h
         refine ⟨?_, Or.inr rfl⟩
         unfold pm_mem
         dsimp only [pm_on, pm_sto]
         rw [h1]
         rfl)
      | (cases h; exact ⟨rfl, Or.inr rfl⟩)
      | cases h
def pm_pu (code : List (Nat × Instr × Nat × pm_L)) : Nat → Nat → pm_V → List Value → Option (Nat × pm_V × List Value)
  | 0, pc, ls, st => some (pc, ls, st)
  | n + 1, pc, ls, st => match pm_look code pc with
    | some (i, len, L) => match pm_pu1 i len L pc ls st with
      | some (pc', ls', st') => pm_pu code n pc' ls' st'
      | none => none
    | none => none
section TT
variable {X : pm_X} {d : Nat} {M : pm_M} {pc : Nat} {ls : pm_V} {st : List Value} {h : pm_H} {c k : Nat} {r : pm_R} {I : st_I} {J : st_J} {L : pm_L}
theorem t_step {i : Instr} {len : Nat} {s' : pm_S} (hl : pm_look M.1 pc = some (i, len, L)) (hk : pm_kind i L = 0 ∨ pm_kind i L = 1) (hs : pm_step X pc_Dv i len L (pc, ls, st, h, c, k) = some s') : Gx X d M (pc, ls, st, h, c, k) r ↔ Gx X d M s' r := by
  refine pm_e0 fun n => ?_
  show (match pm_look M.1 pc with
    | none => False
    | some (i, len, L) => _) = _
  rw [hl]
  dsimp only
  have e : (match pm_step X pc_Dv i len L (pc, ls, st, h, c, k) with
    | none => False
    | some s' => pm_go X pc_Dv (pm_Ev X pc_Dv (pm_T pc_MI) d) M n s' r) = pm_go X pc_Dv (pm_Ev X pc_Dv (pm_T pc_MI) d) M n s' r := by rw [hs]
  rcases hk with hk | hk
  · rw [hk]; exact e
  · rw [hk]; exact e
theorem t_pu : ∀ (n : Nat) {pc : Nat} {ls : pm_V} {st : List Value} {s' : Nat × pm_V × List Value}, pm_pu M.1 n pc ls st = some s' → (Gx X d M (pc, ls, st, h, c, k) r ↔ Gx X d M (s'.1, s'.2.1, s'.2.2, h, c, k) r)
  | 0, pc, ls, st, s', hs => by cases hs; exact Iff.rfl
  | n + 1, pc, ls, st, s', hs => by
    unfold pm_pu at hs
    split at hs
    · rename_i i len L hl
      split at hs
      · rename_i pc' ls' st' h1
        obtain ⟨h2, h3⟩ := pm_pu1_s (X := X) (D := pc_Dv) h1 h c k
        exact (t_step hl h3 h2).trans (t_pu n hs)
      · cases hs
    · cases hs
/-- the same, with the end written out -/
theorem t_p (n : Nat) {pc' : Nat} {ls' : pm_V} {st' : List Value} (hs : pm_pu M.1 n pc ls st = some (pc', ls', st')) : Gx X d M (pc, ls, st, h, c, k) r ↔ Gx X d M (pc', ls', st', h, c, k) r := t_pu n hs
theorem t_an {A B C p : Prop} (h1 : A ↔ p ∧ B) (h2 : p → (B ↔ C)) : A ↔ p ∧ C := h1.trans ⟨fun h => ⟨h.1, (h2 h.1).mp h.2⟩, fun h => ⟨h.1, (h2 h.1).mpr h.2⟩⟩
/-! fields -/
theorem t_gI {n a ci f : Nat} {v : Value} (hl : pm_look M.1 pc = some (.getfield n, 3, ([ci, f], v))) (hf : st_fI a ci f = true) : Gx X d M (pc, ls, .ref a :: st, st_h I J, c, k) r ↔ Gx X d M (pc + 3, ls, .int (I a f) :: st, st_h I J, c, k) r := by
  refine t_step hl (Or.inr rfl) ?_
  show pm_on pc 3 ls (st_h I J) c k ((pm_fld (st_h I J) a ci f).map (· :: st)) = _
  rw [st_fld hf]
  rfl
theorem t_gR {n a ci f b : Nat} {v : Value} (hl : pm_look M.1 pc = some (.getfield n, 3, ([ci, f], v))) (hf : st_fR a ci f = some b) : Gx X d M (pc, ls, .ref a :: st, st_h I J, c, k) r ↔ Gx X d M (pc + 3, ls, .ref b :: st, st_h I J, c, k) r := by
  refine t_step hl (Or.inr rfl) ?_
  show pm_on pc 3 ls (st_h I J) c k ((pm_fld (st_h I J) a ci f).map (· :: st)) = _
  rw [st_fR_c hf]
  rfl
theorem t_g6 {n : Nat} {v : Value} (hl : pm_look M.1 pc = some (.getfield n, 3, ([0, 6], v))) : Gx X d M (pc, ls, .ref 0 :: st, st_h I J, c, k) r ↔ Gx X d M (pc + 3, ls, .ref (st_o (I 0 6)) :: st, st_h I J, c, k) r := by
  refine t_step hl (Or.inr rfl) ?_
  show pm_on pc 3 ls (st_h I J) c k ((pm_fld (st_h I J) 0 0 6).map (· :: st)) = _
  rw [st_oc6]
  rfl
theorem t_g7 {n : Nat} {v : Value} (hl : pm_look M.1 pc = some (.getfield n, 3, ([0, 7], v))) : Gx X d M (pc, ls, .ref 0 :: st, st_h I J, c, k) r ↔ Gx X d M (pc + 3, ls, .ref (st_o (I 0 7)) :: st, st_h I J, c, k) r := by
  refine t_step hl (Or.inr rfl) ?_
  show pm_on pc 3 ls (st_h I J) c k ((pm_fld (st_h I J) 0 0 7).map (· :: st)) = _
  rw [st_oc7]
  rfl
theorem t_gw {n : Nat} {v : Value} (hl : pm_look M.1 pc = some (.getfield n, 3, ([2, 3], v))) : Gx X d M (pc, ls, .ref 8 :: st, st_h I J, c, k) r ↔ Gx X d M (pc + 3, ls, .long (J 8 3) :: st, st_h I J, c, k) r := by
  refine t_step hl (Or.inr rfl) ?_
  show pm_on pc 3 ls (st_h I J) c k ((pm_fld (st_h I J) 8 2 3).map (· :: st)) = _
  rw [st_what]
  rfl
theorem t_pI {n a ci f : Nat} {v : Value} {x : Int32} (hl : pm_look M.1 pc = some (.putfield n, 3, ([ci, f, 0], v))) (hf : st_fI a ci f = true) : Gx X d M (pc, ls, .int x :: .ref a :: st, st_h I J, c, k) r ↔ Gx X d M (pc + 3, ls, st, st_h (st_w I a f x) J, c, k) r := by
  refine t_step hl (Or.inr rfl) ?_
  show pm_hp pc 3 ls st c k (pm_put (st_h I J) a ci f 0 (.int x)) = _
  rw [st_put hf I J (t := 0) rfl]
  rfl
/-- a boolean's -/
theorem t_pZ {n a ci f : Nat} {v : Value} {x : Int32} (hl : pm_look M.1 pc = some (.putfield n, 3, ([ci, f, 4], v))) (hf : st_fI a ci f = true) (hx : pm_fit 4 (.int x) = true) : Gx X d M (pc, ls, .int x :: .ref a :: st, st_h I J, c, k) r ↔ Gx X d M (pc + 3, ls, st, st_h (st_w I a f x) J, c, k) r := by
  refine t_step hl (Or.inr rfl) ?_
  show pm_hp pc 3 ls st c k (pm_put (st_h I J) a ci f 4 (.int x)) = _
  rw [st_put hf I J (t := 4) hx]
  rfl
theorem t_p6 {n b : Nat} {v : Value} (hl : pm_look M.1 pc = some (.putfield n, 3, ([0, 6, 2], v))) (hb : st_isO b = true) : Gx X d M (pc, ls, .ref b :: .ref 0 :: st, st_h I J, c, k) r ↔ Gx X d M (pc + 3, ls, st, st_h (st_w I 0 6 (st_oi b)) J, c, k) r := by
  refine t_step hl (Or.inr rfl) ?_
  show pm_hp pc 3 ls st c k (pm_put (st_h I J) 0 0 6 2 (.ref b)) = _
  rw [st_po6 hb]
  rfl
theorem t_p7 {n b : Nat} {v : Value} (hl : pm_look M.1 pc = some (.putfield n, 3, ([0, 7, 2], v))) (hb : st_isO b = true) : Gx X d M (pc, ls, .ref b :: .ref 0 :: st, st_h I J, c, k) r ↔ Gx X d M (pc + 3, ls, st, st_h (st_w I 0 7 (st_oi b)) J, c, k) r := by
  refine t_step hl (Or.inr rfl) ?_
  show pm_hp pc 3 ls st c k (pm_put (st_h I J) 0 0 7 2 (.ref b)) = _
  rw [st_po7 hb]
  rfl
theorem t_pw {n : Nat} {v : Value} {x : Int64} (hl : pm_look M.1 pc = some (.putfield n, 3, ([2, 3, 1], v))) : Gx X d M (pc, ls, .long x :: .ref 8 :: st, st_h I J, c, k) r ↔ Gx X d M (pc + 3, ls, st, st_h I (st_y J 8 3 x), c, k) r := by
  refine t_step hl (Or.inr rfl) ?_
  show pm_hp pc 3 ls st c k (pm_put (st_h I J) 8 2 3 1 (.long x)) = _
  rw [st_pwhat]
  rfl
/-! arrays -/
theorem t_opt {i : Instr} {len : Nat} {o : Option pm_S} (hl : pm_look M.1 pc = some (i, len, L)) (hk : pm_kind i L = 1) (hs : pm_step X pc_Dv i len L (pc, ls, st, h, c, k) = o) : Gx X d M (pc, ls, st, h, c, k) r ↔ ∃ s', o = some s' ∧ Gx X d M s' r := by
  subst hs
  constructor
  · rintro ⟨n, hn⟩
    cases n with
    | zero => exact hn.elim
    | succ n =>
      have hn : (match pm_look M.1 pc with
        | none => False
        | some (i, len, L) => _) := hn
      rw [hl] at hn
      dsimp only at hn
      rw [hk] at hn
      have hn : (match pm_step X pc_Dv i len L (pc, ls, st, h, c, k) with
        | none => False
        | some s' => pm_go X pc_Dv (pm_Ev X pc_Dv (pm_T pc_MI) d) M n s' r) := hn
      split at hn
      · exact hn.elim
      · rename_i s' e
        exact ⟨s', e, n, hn⟩
  · rintro ⟨s', e, hg⟩
    exact (t_step hl (Or.inr hk) e).mpr hg
theorem t_bif {i : Instr} {len : Nat} {b : Bool} {s' : pm_S} (hl : pm_look M.1 pc = some (i, len, L)) (hk : pm_kind i L = 1) (hs : pm_step X pc_Dv i len L (pc, ls, st, h, c, k) = bif b then some s' else none) : Gx X d M (pc, ls, st, h, c, k) r ↔ b = true ∧ Gx X d M s' r := by
  refine (t_opt hl hk hs).trans ?_
  cases b with
  | true => exact ⟨fun ⟨s, e, g⟩ => ⟨rfl, by cases e; exact g⟩, fun ⟨_, g⟩ => ⟨s', rfl, g⟩⟩
  | false => exact ⟨fun ⟨s, e, g⟩ => (by cases e), fun ⟨e, _⟩ => (by cases e)⟩
theorem pm_mapb {α β : Type} (f : α → β) (b : Bool) (x : α) : (bif b then some x else none).map f = bif b then some (f x) else none := by cases b <;> rfl
theorem t_lI {a n : Nat} {i : Int32} (hl : pm_look M.1 pc = some (.iaload, 1, L)) (ha : st_aI a = some n) : Gx X d M (pc, ls, .int i :: .ref a :: st, st_h I J, c, k) r ↔ pm_in i n = true ∧ Gx X d M (pc + 1, ls, .int (I a i.toNatClampNeg) :: st, st_h I J, c, k) r := by
  refine t_bif hl rfl ?_
  show pm_on pc 1 ls (st_h I J) c k ((pm_ald (st_h I J) a 0 i).map (· :: st)) = _
  rw [st_ldI ha, pm_mapb]
  exact pm_mapb _ _ _
theorem t_lB {a n : Nat} {i : Int32} (hl : pm_look M.1 pc = some (.baload, 1, L)) (ha : st_aB a = some n) : Gx X d M (pc, ls, .int i :: .ref a :: st, st_h I J, c, k) r ↔ pm_in i n = true ∧ Gx X d M (pc + 1, ls, .int (I a i.toNatClampNeg) :: st, st_h I J, c, k) r := by
  refine t_bif hl rfl ?_
  show pm_on pc 1 ls (st_h I J) c k ((pm_ald (st_h I J) a 2 i).map (· :: st)) = _
  rw [st_ldB ha, pm_mapb]
  exact pm_mapb _ _ _
theorem t_lJ {a n : Nat} {i : Int32} (hl : pm_look M.1 pc = some (.laload, 1, L)) (ha : st_aJ a = some n) : Gx X d M (pc, ls, .int i :: .ref a :: st, st_h I J, c, k) r ↔ pm_in i n = true ∧ Gx X d M (pc + 1, ls, .long (J a i.toNatClampNeg) :: st, st_h I J, c, k) r := by
  refine t_bif hl rfl ?_
  show pm_on pc 1 ls (st_h I J) c k ((pm_ald (st_h I J) a 1 i).map (· :: st)) = _
  rw [st_ldJ ha, pm_mapb]
  exact pm_mapb _ _ _
theorem t_lD {i : Int32} (hl : pm_look M.1 pc = some (.daload, 1, L)) : Gx X d M (pc, ls, .int i :: .ref 188 :: st, st_h I J, c, k) r ↔ pm_in i 1 = true ∧ Gx X d M (pc + 1, ls, .double (J 188 i.toNatClampNeg).toUInt64 :: st, st_h I J, c, k) r := by
  refine t_bif hl rfl ?_
  show pm_on pc 1 ls (st_h I J) c k ((pm_ald (st_h I J) 188 4 i).map (· :: st)) = _
  rw [st_ldD, pm_mapb]
  exact pm_mapb _ _ _
theorem t_lR {a n b m : Nat} {i : Int32} (hl : pm_look M.1 pc = some (.aaload, 1, L)) (ha : st_aR a = some (n, b, m)) : Gx X d M (pc, ls, .int i :: .ref a :: st, st_h I J, c, k) r ↔ pm_in i n = true ∧ Gx X d M (pc + 1, ls, .ref (b + m * i.toNatClampNeg) :: st, st_h I J, c, k) r := by
  refine t_bif hl rfl ?_
  show pm_on pc 1 ls (st_h I J) c k ((pm_ald (st_h I J) a 5 i).map (· :: st)) = _
  rw [st_ldR ha, pm_mapb]
  exact pm_mapb _ _ _
theorem t_lX {t n : Nat} {f : Nat → Int32} {i : Int32} (hl : pm_look M.1 pc = some (.iaload, 1, L)) (ht : Nat.ble t 1 = true) (hX : X t = (n, f)) : Gx X d M (pc, ls, .int i :: .retAddr t :: st, h, c, k) r ↔ pm_in i n = true ∧ Gx X d M (pc + 1, ls, .int (f i.toNatClampNeg) :: st, h, c, k) r := by
  refine t_bif hl rfl ?_
  show pm_on pc 1 ls h c k ((pm_xld X t i).map (· :: st)) = _
  unfold pm_xld
  rw [ht, hX, pm_mapb]
  exact pm_mapb _ _ _
theorem t_sI {a n : Nat} {i x : Int32} (hl : pm_look M.1 pc = some (.iastore, 1, L)) (ha : st_aI a = some n) : Gx X d M (pc, ls, .int x :: .int i :: .ref a :: st, st_h I J, c, k) r ↔ pm_in i n = true ∧ Gx X d M (pc + 1, ls, st, st_h (st_w I a i.toNatClampNeg x) J, c, k) r := by
  refine t_bif hl rfl ?_
  show pm_hp pc 1 ls st c k (pm_ast (st_h I J) a 0 i (.int x)) = _
  rw [st_stI ha]
  exact pm_mapb _ _ _
theorem t_sB {a n : Nat} {i x : Int32} (hl : pm_look M.1 pc = some (.bastore, 1, L)) (ha : st_aB a = some n) : Gx X d M (pc, ls, .int x :: .int i :: .ref a :: st, st_h I J, c, k) r ↔ pm_in i n = true ∧ Gx X d M (pc + 1, ls, st, st_h (st_w I a i.toNatClampNeg (vp_nar .byte x)) J, c, k) r := by
  refine t_bif hl rfl ?_
  show pm_hp pc 1 ls st c k (pm_ast (st_h I J) a 2 i (.int x)) = _
  rw [st_stB ha]
  exact pm_mapb _ _ _
theorem t_sJ {a n : Nat} {i : Int32} {x : Int64} (hl : pm_look M.1 pc = some (.lastore, 1, L)) (ha : st_aJ a = some n) : Gx X d M (pc, ls, .long x :: .int i :: .ref a :: st, st_h I J, c, k) r ↔ pm_in i n = true ∧ Gx X d M (pc + 1, ls, st, st_h I (st_y J a i.toNatClampNeg x), c, k) r := by
  refine t_bif hl rfl ?_
  show pm_hp pc 1 ls st c k (pm_ast (st_h I J) a 1 i (.long x)) = _
  rw [st_stJ ha]
  exact pm_mapb _ _ _
theorem t_sD {i : Int32} {x : UInt64} (hl : pm_look M.1 pc = some (.dastore, 1, L)) : Gx X d M (pc, ls, .double x :: .int i :: .ref 188 :: st, st_h I J, c, k) r ↔ pm_in i 1 = true ∧ Gx X d M (pc + 1, ls, st, st_h I (st_y J 188 i.toNatClampNeg x.toInt64), c, k) r := by
  refine t_bif hl rfl ?_
  show pm_hp pc 1 ls st c k (pm_ast (st_h I J) 188 4 i (.double x)) = _
  rw [st_stD]
  exact pm_mapb _ _ _
theorem t_nJ {a n : Nat} (hl : pm_look M.1 pc = some (.arraylength, 1, L)) (ha : st_aJ a = some n) : Gx X d M (pc, ls, .ref a :: st, st_h I J, c, k) r ↔ Gx X d M (pc + 1, ls, .int (Int32.ofNat n) :: st, st_h I J, c, k) r := by
  refine t_step hl (Or.inr rfl) ?_
  show pm_on pc 1 ls (st_h I J) c k ((pm_len (st_h I J) a).map fun n => .int (Int32.ofNat n) :: st) = _
  rw [st_lnJ ha]
  rfl
theorem t_nX {t n : Nat} {f : Nat → Int32} (hl : pm_look M.1 pc = some (.arraylength, 1, L)) (ht : Nat.ble t 1 = true) (hX : X t = (n, f)) : Gx X d M (pc, ls, .retAddr t :: st, h, c, k) r ↔ Gx X d M (pc + 1, ls, .int (Int32.ofNat n) :: st, h, c, k) r := by
  refine t_step hl (Or.inr rfl) ?_
  show (bif Nat.ble t 1 then some ((pc + 1, ls, .int (Int32.ofNat (X t).1) :: st, h, c, k) : pm_S) else none) = _
  rw [ht, hX]
  rfl
def st_cpk (sp dp n : Int32) (n0 n1 : Nat) : Bool := !(decide (sp < 0)) && (!(decide (dp < 0)) && (!(decide (n < 0)) && (Nat.ble (sp.toNatClampNeg + n.toNatClampNeg) n0 && Nat.ble (dp.toNatClampNeg + n.toNatClampNeg) n1)))
theorem t_cp {w a0 a n0 n1 : Nat} {sp dp n : Int32} {v : Value} (hl : pm_look M.1 pc = some (.invokestatic w, 3, ([4], v))) (h0 : st_aJ a0 = some n0) (h1 : st_aJ a = some n1) (hw : Nat.ble (pm_wt st) 8 = true) : Gx X d M (pc, ls, .int n :: .int dp :: .ref a :: .int sp :: .ref a0 :: st, st_h I J, c, k) r ↔ st_cpk sp dp n n0 n1 = true ∧ Gx X d M (pc + 3, ls, st, st_h I (st_yr J a (va_cpy (J a0) (J a) sp.toNatClampNeg dp.toNatClampNeg n.toNatClampNeg)), c, k) r := by
  refine t_bif hl rfl ?_
  show (bif Nat.ble (pm_wt st) 8 then pm_hp pc 3 ls st c k (pm_cpy (st_h I J) a0 sp a dp n) else none) = _
  rw [hw, st_cp h0 h1]
  exact pm_mapb _ _ _
/-! branches -/
theorem t_br {p : Prop} {_ : Decidable p} {i : Instr} {len : Nat} {s1 s2 : pm_S} (hl : pm_look M.1 pc = some (i, len, L)) (hk : pm_kind i L = 1) (hs : pm_step X pc_Dv i len L (pc, ls, st, h, c, k) = some (if p then s1 else s2)) : Gx X d M (pc, ls, st, h, c, k) r ↔ if p then Gx X d M s1 r else Gx X d M s2 r := by
  refine (t_step hl (Or.inr hk) hs).trans ?_
  by_cases hp : p
  · rw [if_pos hp, if_pos hp]
  · rw [if_neg hp, if_neg hp]
section BR
variable {o : Int} {t : Nat} {v : Value} {x y : Int32}
theorem t_feq (hl : pm_look M.1 pc = some (.ifCond .eq o, 3, ([t], v))) : Gx X d M (pc, ls, .int x :: st, h, c, k) r ↔ if x = 0 then Gx X d M (t, ls, st, h, c, k) r else Gx X d M (pc + 3, ls, st, h, c, k) r := by
  refine t_br hl rfl ?_
  show some ((bif decide (x = 0) then t else pc + 3, ls, st, h, c, k) : pm_S) = _
  by_cases hp : x = 0
  · rw [if_pos hp, decide_eq_true hp]; rfl
  · rw [if_neg hp, decide_eq_false hp]; rfl
theorem t_fne (hl : pm_look M.1 pc = some (.ifCond .ne o, 3, ([t], v))) : Gx X d M (pc, ls, .int x :: st, h, c, k) r ↔ if x = 0 then Gx X d M (pc + 3, ls, st, h, c, k) r else Gx X d M (t, ls, st, h, c, k) r := by
  refine t_br hl rfl ?_
  show some ((bif !(decide (x = 0)) then t else pc + 3, ls, st, h, c, k) : pm_S) = _
  by_cases hp : x = 0
  · rw [if_pos hp, decide_eq_true hp]; rfl
  · rw [if_neg hp, decide_eq_false hp]; rfl
theorem t_flt (hl : pm_look M.1 pc = some (.ifCond .lt o, 3, ([t], v))) : Gx X d M (pc, ls, .int x :: st, h, c, k) r ↔ if x < 0 then Gx X d M (t, ls, st, h, c, k) r else Gx X d M (pc + 3, ls, st, h, c, k) r := by
  refine t_br hl rfl ?_
  show some ((bif decide (x < 0) then t else pc + 3, ls, st, h, c, k) : pm_S) = _
  by_cases hp : x < 0
  · rw [if_pos hp, decide_eq_true hp]; rfl
  · rw [if_neg hp, decide_eq_false hp]; rfl
theorem i32_not_lt {x y : Int32} : ¬ x < y ↔ y ≤ x := by
  rw [Int32.lt_iff_toInt_lt, Int32.le_iff_toInt_le]; omega
theorem t_fge (hl : pm_look M.1 pc = some (.ifCond .ge o, 3, ([t], v))) : Gx X d M (pc, ls, .int x :: st, h, c, k) r ↔ if x < 0 then Gx X d M (pc + 3, ls, st, h, c, k) r else Gx X d M (t, ls, st, h, c, k) r := by
  refine t_br hl rfl ?_
  show some ((bif decide (0 ≤ x) then t else pc + 3, ls, st, h, c, k) : pm_S) = _
  by_cases hp : x < 0
  · rw [if_pos hp, decide_eq_false (fun hq => i32_not_lt.mpr hq hp)]; rfl
  · rw [if_neg hp, decide_eq_true (i32_not_lt.mp hp)]; rfl
theorem t_fgt (hl : pm_look M.1 pc = some (.ifCond .gt o, 3, ([t], v))) : Gx X d M (pc, ls, .int x :: st, h, c, k) r ↔ if 0 < x then Gx X d M (t, ls, st, h, c, k) r else Gx X d M (pc + 3, ls, st, h, c, k) r := by
  refine t_br hl rfl ?_
  show some ((bif decide (0 < x) then t else pc + 3, ls, st, h, c, k) : pm_S) = _
  by_cases hp : 0 < x
  · rw [if_pos hp, decide_eq_true hp]; rfl
  · rw [if_neg hp, decide_eq_false hp]; rfl
theorem t_fle (hl : pm_look M.1 pc = some (.ifCond .le o, 3, ([t], v))) : Gx X d M (pc, ls, .int x :: st, h, c, k) r ↔ if 0 < x then Gx X d M (pc + 3, ls, st, h, c, k) r else Gx X d M (t, ls, st, h, c, k) r := by
  refine t_br hl rfl ?_
  show some ((bif decide (x ≤ 0) then t else pc + 3, ls, st, h, c, k) : pm_S) = _
  by_cases hp : 0 < x
  · rw [if_pos hp, decide_eq_false (fun hq => i32_not_lt.mpr hq hp)]; rfl
  · rw [if_neg hp, decide_eq_true (i32_not_lt.mp hp)]; rfl
theorem t_ieq (hl : pm_look M.1 pc = some (.if_icmp .eq o, 3, ([t], v))) : Gx X d M (pc, ls, .int y :: .int x :: st, h, c, k) r ↔ if x = y then Gx X d M (t, ls, st, h, c, k) r else Gx X d M (pc + 3, ls, st, h, c, k) r := by
  refine t_br hl rfl ?_
  show some ((bif decide (x = y) then t else pc + 3, ls, st, h, c, k) : pm_S) = _
  by_cases hp : x = y
  · rw [if_pos hp, decide_eq_true hp]; rfl
  · rw [if_neg hp, decide_eq_false hp]; rfl
theorem t_ine (hl : pm_look M.1 pc = some (.if_icmp .ne o, 3, ([t], v))) : Gx X d M (pc, ls, .int y :: .int x :: st, h, c, k) r ↔ if x = y then Gx X d M (pc + 3, ls, st, h, c, k) r else Gx X d M (t, ls, st, h, c, k) r := by
  refine t_br hl rfl ?_
  show some ((bif !(decide (x = y)) then t else pc + 3, ls, st, h, c, k) : pm_S) = _
  by_cases hp : x = y
  · rw [if_pos hp, decide_eq_true hp]; rfl
  · rw [if_neg hp, decide_eq_false hp]; rfl
theorem t_ilt (hl : pm_look M.1 pc = some (.if_icmp .lt o, 3, ([t], v))) : Gx X d M (pc, ls, .int y :: .int x :: st, h, c, k) r ↔ if x < y then Gx X d M (t, ls, st, h, c, k) r else Gx X d M (pc + 3, ls, st, h, c, k) r := by
  refine t_br hl rfl ?_
  show some ((bif decide (x < y) then t else pc + 3, ls, st, h, c, k) : pm_S) = _
  by_cases hp : x < y
  · rw [if_pos hp, decide_eq_true hp]; rfl
  · rw [if_neg hp, decide_eq_false hp]; rfl
theorem t_ige (hl : pm_look M.1 pc = some (.if_icmp .ge o, 3, ([t], v))) : Gx X d M (pc, ls, .int y :: .int x :: st, h, c, k) r ↔ if x < y then Gx X d M (pc + 3, ls, st, h, c, k) r else Gx X d M (t, ls, st, h, c, k) r := by
  refine t_br hl rfl ?_
  show some ((bif decide (y ≤ x) then t else pc + 3, ls, st, h, c, k) : pm_S) = _
  by_cases hp : x < y
  · rw [if_pos hp, decide_eq_false (fun hq => i32_not_lt.mpr hq hp)]; rfl
  · rw [if_neg hp, decide_eq_true (i32_not_lt.mp hp)]; rfl
theorem t_igt (hl : pm_look M.1 pc = some (.if_icmp .gt o, 3, ([t], v))) : Gx X d M (pc, ls, .int y :: .int x :: st, h, c, k) r ↔ if y < x then Gx X d M (t, ls, st, h, c, k) r else Gx X d M (pc + 3, ls, st, h, c, k) r := by
  refine t_br hl rfl ?_
  show some ((bif decide (y < x) then t else pc + 3, ls, st, h, c, k) : pm_S) = _
  by_cases hp : y < x
  · rw [if_pos hp, decide_eq_true hp]; rfl
  · rw [if_neg hp, decide_eq_false hp]; rfl
theorem t_ile (hl : pm_look M.1 pc = some (.if_icmp .le o, 3, ([t], v))) : Gx X d M (pc, ls, .int y :: .int x :: st, h, c, k) r ↔ if y < x then Gx X d M (pc + 3, ls, st, h, c, k) r else Gx X d M (t, ls, st, h, c, k) r := by
  refine t_br hl rfl ?_
  show some ((bif decide (x ≤ y) then t else pc + 3, ls, st, h, c, k) : pm_S) = _
  by_cases hp : y < x
  · rw [if_pos hp, decide_eq_false (fun hq => i32_not_lt.mpr hq hp)]; rfl
  · rw [if_neg hp, decide_eq_true (i32_not_lt.mp hp)]; rfl
end BR
end TT
