/-! THE PURE MACHINE IS THE REAL ONE, first piece: what works on the stack alone. -/
/-- a value of the pure machine as the real one has it: ad: where a cell lies, tk: where a given array lies -/
def pm_v (ad tk : Nat → Nat) : Value → Value
  | .ref a => .ref (ad a)
  | .retAddr t => .ref (tk t)
  | v => v
theorem pm_v_cat (ad tk : Nat → Nat) (v : Value) : (pm_v ad tk v).category = v.category := by cases v <;> rfl
/-- how long an instruction is (0: it says so itself) -/
def pm_ilen : Instr → Nat
  | .bipush _ => 2
  | .sipush _ => 3
  | .iload _ => 2
  | .lload _ => 2
  | .dload _ => 2
  | .aload _ => 2
  | .istore _ => 2
  | .lstore _ => 2
  | .dstore _ => 2
  | .astore _ => 2
  | .ldc _ => 2
  | .ldc_w _ => 3
  | .ldc2_w _ => 3
  | .iinc _ _ => 3
  | .goto _ => 3
  | .ifCond _ _ => 3
  | .if_icmp _ _ => 3
  | .getfield _ => 3
  | .putfield _ => 3
  | .getstatic _ => 3
  | .new _ => 3
  | .newarray _ => 2
  | .anewarray _ => 3
  | .multianewarray _ _ => 4
  | .invokestatic _ => 3
  | .invokespecial _ => 3
  | .invokevirtual _ => 3
  | _ => 1
theorem pm_i1_s {f : Int32 → Value} {st st' : List Value} (h : pm_i1 f st = some st') : ∃ x r, st = .int x :: r ∧ st' = f x :: r := by
  unfold pm_i1 at h
  split at h
  · cases h; exact ⟨_, _, rfl, rfl⟩
  · cases h
theorem pm_i2_s {f : Int32 → Int32 → Value} {st st' : List Value} (h : pm_i2 f st = some st') : ∃ x y r, st = .int y :: .int x :: r ∧ st' = f x y :: r := by
  unfold pm_i2 at h
  split at h
  · cases h; exact ⟨_, _, _, rfl, rfl⟩
  · cases h
theorem pm_l1_s {f : Int64 → Value} {st st' : List Value} (h : pm_l1 f st = some st') : ∃ x r, st = .long x :: r ∧ st' = f x :: r := by
  unfold pm_l1 at h
  split at h
  · cases h; exact ⟨_, _, rfl, rfl⟩
  · cases h
theorem pm_l2_s {f : Int64 → Int64 → Value} {st st' : List Value} (h : pm_l2 f st = some st') : ∃ x y r, st = .long y :: .long x :: r ∧ st' = f x y :: r := by
  unfold pm_l2 at h
  split at h
  · cases h; exact ⟨_, _, _, rfl, rfl⟩
  · cases h
theorem pm_li_s {f : Int64 → Int32 → Value} {st st' : List Value} (h : pm_li f st = some st') : ∃ x y r, st = .int y :: .long x :: r ∧ st' = f x y :: r := by
  unfold pm_li at h
  split at h
  · cases h; exact ⟨_, _, _, rfl, rfl⟩
  · cases h
theorem pm_d1_s {f : UInt64 → Value} {st st' : List Value} (h : pm_d1 f st = some st') : ∃ x r, st = .double x :: r ∧ st' = f x :: r := by
  unfold pm_d1 at h
  split at h
  · cases h; exact ⟨_, _, rfl, rfl⟩
  · cases h
theorem pm_d2_s {f : UInt64 → UInt64 → Value} {st st' : List Value} (h : pm_d2 f st = some st') : ∃ x y r, st = .double y :: .double x :: r ∧ st' = f x y :: r := by
  unfold pm_d2 at h
  split at h
  · cases h; exact ⟨_, _, _, rfl, rfl⟩
  · cases h
theorem pm_cnd {α : Type} {b : Bool} {x y : α} (h : (bif b then some x else none) = some y) : b = true ∧ x = y := by
  cases b
  · cases h
  · cases h; exact ⟨rfl, rfl⟩
theorem pm_i2c_s {g : Int32 → Int32 → Bool} {f : Int32 → Int32 → Value} {st st' : List Value} (h : pm_i2c g f st = some st') : ∃ x y r, st = .int y :: .int x :: r ∧ g x y = true ∧ st' = f x y :: r := by
  unfold pm_i2c at h
  split at h
  · obtain ⟨h1, h2⟩ := pm_cnd h; exact ⟨_, _, _, rfl, h1, h2.symm⟩
  · cases h
theorem pm_l2c_s {g : Int64 → Int64 → Bool} {f : Int64 → Int64 → Value} {st st' : List Value} (h : pm_l2c g f st = some st') : ∃ x y r, st = .long y :: .long x :: r ∧ g x y = true ∧ st' = f x y :: r := by
  unfold pm_l2c at h
  split at h
  · obtain ⟨h1, h2⟩ := pm_cnd h; exact ⟨_, _, _, rfl, h1, h2.symm⟩
  · cases h
theorem pm_n64_s {r : UInt64} (h : pm_n64 r = true) : vf_n64 r := by
  unfold vf_n64
  unfold pm_n64 at h
  exact of_decide_eq_true h
theorem pm_n32_s {r : UInt32} (h : pm_n32 r = true) : vf_n32 r := by
  unfold vf_n32
  unfold pm_n32 at h
  exact of_decide_eq_true h
theorem pm_d2c_s {f : UInt64 → UInt64 → UInt64} {st st' : List Value} (h : pm_d2c f st = some st') : ∃ x y r, st = .double y :: .double x :: r ∧ vf_n64 (f x y) ∧ st' = .double (f x y) :: r := by
  unfold pm_d2c at h
  split at h
  · obtain ⟨h1, h2⟩ := pm_cnd h; exact ⟨_, _, _, rfl, pm_n64_s h1, h2.symm⟩
  · cases h
theorem pm_d2f_s {st st' : List Value} (h : pm_d2f st = some st') : ∃ x r, st = .double x :: r ∧ vf_n32 (FP.d2f x) ∧ st' = .float (FP.d2f x) :: r := by
  unfold pm_d2f at h
  split at h
  · obtain ⟨h1, h2⟩ := pm_cnd h; exact ⟨_, _, rfl, pm_n32_s h1, h2.symm⟩
  · cases h
theorem pm_f2d_s {st st' : List Value} (h : pm_f2d st = some st') : ∃ x r, st = .float x :: r ∧ vf_n64 (FP.f2d x) ∧ st' = .double (FP.f2d x) :: r := by
  unfold pm_f2d at h
  split at h
  · obtain ⟨h1, h2⟩ := pm_cnd h; exact ⟨_, _, rfl, pm_n64_s h1, h2.symm⟩
  · cases h
theorem pm_c1_s {v : Value} (ad tk : Nat → Nat) (h : pm_c1 v = true) : (pm_v ad tk v).category = 1 := by rw [pm_v_cat]; exact Nat.eq_of_beq_eq_true h
theorem pm_c2_s {v : Value} (ad tk : Nat → Nat) (h : pm_c2 v = true) : (pm_v ad tk v).category = 2 := by rw [pm_v_cat]; exact Nat.eq_of_beq_eq_true h
theorem pm_dup_s {st st' : List Value} (h : pm_dup st = some st') : ∃ a r, st = a :: r ∧ pm_c1 a = true ∧ st' = a :: a :: r := by
  unfold pm_dup at h
  split at h
  · obtain ⟨h1, h2⟩ := pm_cnd h; exact ⟨_, _, rfl, h1, h2.symm⟩
  · cases h
theorem pm_pop_s {st st' : List Value} (h : pm_pop st = some st') : ∃ a r, st = a :: r ∧ pm_c1 a = true ∧ st' = r := by
  unfold pm_pop at h
  split at h
  · obtain ⟨h1, h2⟩ := pm_cnd h; exact ⟨_, _, rfl, h1, h2.symm⟩
  · cases h
theorem pm_pop2_s {st st' : List Value} (h : pm_pop2 st = some st') : ∃ a r, st = a :: r ∧ pm_c2 a = true ∧ st' = r := by
  unfold pm_pop2 at h
  split at h
  · obtain ⟨h1, h2⟩ := pm_cnd h; exact ⟨_, _, rfl, h1, h2.symm⟩
  · cases h
theorem pm_dup_x1_s {st st' : List Value} (h : pm_dup_x1 st = some st') : ∃ a b r, st = a :: b :: r ∧ (pm_c1 a = true ∧ pm_c1 b = true) ∧ st' = a :: b :: a :: r := by
  unfold pm_dup_x1 at h
  split at h
  · obtain ⟨h1, h2⟩ := pm_cnd h; rw [Bool.and_eq_true] at h1; exact ⟨_, _, _, rfl, h1, h2.symm⟩
  · cases h
theorem pm_dup_x2_s {st st' : List Value} (h : pm_dup_x2 st = some st') : ∃ a b d r, st = a :: b :: d :: r ∧ ((pm_c1 a = true ∧ pm_c1 b = true) ∧ pm_c1 d = true) ∧ st' = a :: b :: d :: a :: r := by
  unfold pm_dup_x2 at h
  split at h
  · obtain ⟨h1, h2⟩ := pm_cnd h; rw [Bool.and_eq_true, Bool.and_eq_true] at h1; exact ⟨_, _, _, _, rfl, h1, h2.symm⟩
  · cases h
theorem pm_dup2_x1_s {st st' : List Value} (h : pm_dup2_x1 st = some st') : ∃ a b r, st = a :: b :: r ∧ (pm_c2 a = true ∧ pm_c1 b = true) ∧ st' = a :: b :: a :: r := by
  unfold pm_dup2_x1 at h
  split at h
  · obtain ⟨h1, h2⟩ := pm_cnd h; rw [Bool.and_eq_true] at h1; exact ⟨_, _, _, rfl, h1, h2.symm⟩
  · cases h
theorem pm_dup2_x2_s {st st' : List Value} (h : pm_dup2_x2 st = some st') : ∃ a b d r, st = a :: b :: d :: r ∧ ((pm_c2 a = true ∧ pm_c1 b = true) ∧ pm_c1 d = true) ∧ st' = a :: b :: d :: a :: r := by
  unfold pm_dup2_x2 at h
  split at h
  · obtain ⟨h1, h2⟩ := pm_cnd h; rw [Bool.and_eq_true, Bool.and_eq_true] at h1; exact ⟨_, _, _, _, rfl, h1, h2.symm⟩
  · cases h
theorem pm_dup2_s {st st' : List Value} (h : pm_dup2 st = some st') : (∃ a r, st = a :: r ∧ pm_c2 a = true ∧ st' = a :: a :: r) ∨ ∃ a b r, st = a :: b :: r ∧ (pm_c1 a = true ∧ pm_c1 b = true) ∧ st' = a :: b :: a :: b :: r := by
  unfold pm_dup2 at h
  split at h
  · rename_i a b r
    cases hc : pm_c2 a
    · rw [hc] at h
      obtain ⟨h1, h2⟩ := pm_cnd h
      rw [Bool.and_eq_true] at h1
      exact Or.inr ⟨_, _, _, rfl, h1, h2.symm⟩
    · rw [hc] at h
      cases h
      exact Or.inl ⟨_, _, rfl, hc, rfl⟩
  · obtain ⟨h1, h2⟩ := pm_cnd h; exact Or.inl ⟨_, _, rfl, h1, h2.symm⟩
  · cases h
section PMO
variable {p : Program} {l : Launch} {e : Env} {R : Room} {s : State} {m : MethodId} {args : Array Value} {below : List Frame} {meth : Method} {c : Code} {H : Heap} {locs : List Loc} {cells slots : Nat} {Q : State → Prop} {cc : ByteArray} {pc : Nat} {ls : Array Slot} {ad tk : Nat → Nat}
set_option maxHeartbeats 4000000 in
theorem pm_ok_op (hx : p.tables.exec = Jvm.exec) (hb : c.code = cc) {i : Instr} {st st' : List Value} (ho : pm_op i st = some st') (hd : decode cc pc = .ok (i, pm_ilen i))
    (k : W p l e R s m args below meth c H locs cells slots Q (F0 m (pc + pm_ilen i) ls (st'.map (pm_v ad tk)))) : W p l e R s m args below meth c H locs cells slots Q (F0 m pc ls (st.map (pm_v ad tk))) := by
  cases i with
  | iconst n => cases ho; exact lv_iconst hx hb hd rfl k
  | bipush n => cases ho; exact lv_bipush hx hb hd rfl k
  | sipush n => cases ho; exact lv_sipush hx hb hd rfl k
  | lconst n => cases ho; exact lv_lconst hx hb hd rfl k
  | iadd => obtain ⟨x, y, r, rfl, rfl⟩ := pm_i2_s ho; exact lv_iadd hx hb hd k
  | isub => obtain ⟨x, y, r, rfl, rfl⟩ := pm_i2_s ho; exact lv_isub hx hb hd k
  | imul => obtain ⟨x, y, r, rfl, rfl⟩ := pm_i2_s ho; exact lv_imul hx hb hd k
  | iand => obtain ⟨x, y, r, rfl, rfl⟩ := pm_i2_s ho; exact lv_iand hx hb hd k
  | ior => obtain ⟨x, y, r, rfl, rfl⟩ := pm_i2_s ho; exact lv_ior hx hb hd k
  | ixor => obtain ⟨x, y, r, rfl, rfl⟩ := pm_i2_s ho; exact lv_ixor hx hb hd k
  | ishl => obtain ⟨x, y, r, rfl, rfl⟩ := pm_i2_s ho; exact lv_ishl hx hb hd k
  | ishr => obtain ⟨x, y, r, rfl, rfl⟩ := pm_i2_s ho; exact lv_ishr hx hb hd k
  | iushr => obtain ⟨x, y, r, rfl, rfl⟩ := pm_i2_s ho; exact lv_iushr hx hb hd rfl k
  | idiv => obtain ⟨x, y, r, rfl, hg, rfl⟩ := pm_i2c_s ho; exact lv_idiv hx hb hd (by simpa using hg) k
  | irem => obtain ⟨x, y, r, rfl, hg, rfl⟩ := pm_i2c_s ho; exact lv_irem hx hb hd (by simpa using hg) k
  | ineg => obtain ⟨x, r, rfl, rfl⟩ := pm_i1_s ho; exact lv_ineg hx hb hd k
  | ladd => obtain ⟨x, y, r, rfl, rfl⟩ := pm_l2_s ho; exact lv_ladd hx hb hd k
  | lsub => obtain ⟨x, y, r, rfl, rfl⟩ := pm_l2_s ho; exact lv_lsub hx hb hd k
  | lmul => obtain ⟨x, y, r, rfl, rfl⟩ := pm_l2_s ho; exact lv_lmul hx hb hd k
  | land => obtain ⟨x, y, r, rfl, rfl⟩ := pm_l2_s ho; exact lv_land hx hb hd k
  | lor => obtain ⟨x, y, r, rfl, rfl⟩ := pm_l2_s ho; exact lv_lor hx hb hd k
  | lxor => obtain ⟨x, y, r, rfl, rfl⟩ := pm_l2_s ho; exact lv_lxor hx hb hd k
  | ldiv => obtain ⟨x, y, r, rfl, hg, rfl⟩ := pm_l2c_s ho; exact lv_ldiv hx hb hd (by simpa using hg) k
  | lrem => obtain ⟨x, y, r, rfl, hg, rfl⟩ := pm_l2c_s ho; exact lv_lrem hx hb hd (by simpa using hg) k
  | lneg => obtain ⟨x, r, rfl, rfl⟩ := pm_l1_s ho; exact lv_lneg hx hb hd k
  | lshl => obtain ⟨x, y, r, rfl, rfl⟩ := pm_li_s ho; exact lv_lshl hx hb hd rfl k
  | lshr => obtain ⟨x, y, r, rfl, rfl⟩ := pm_li_s ho; exact lv_lshr hx hb hd rfl k
  | lushr => obtain ⟨x, y, r, rfl, rfl⟩ := pm_li_s ho; exact lv_lushr hx hb hd rfl k
  | lcmp => obtain ⟨x, y, r, rfl, rfl⟩ := pm_l2_s ho; exact W.lcmp hx hb hd k
  | i2l => obtain ⟨x, r, rfl, rfl⟩ := pm_i1_s ho; exact lv_i2l hx hb hd rfl k
  | l2i => obtain ⟨x, r, rfl, rfl⟩ := pm_l1_s ho; exact lv_l2i hx hb hd rfl k
  | i2b => obtain ⟨x, r, rfl, rfl⟩ := pm_i1_s ho; exact lv_i2b hx hb hd rfl k
  | i2s => obtain ⟨x, r, rfl, rfl⟩ := pm_i1_s ho; exact lv_i2s hx hb hd rfl k
  | i2c => obtain ⟨x, r, rfl, rfl⟩ := pm_i1_s ho; exact lv_i2c hx hb hd rfl k
  | i2d => obtain ⟨x, r, rfl, rfl⟩ := pm_i1_s ho; exact lv_i2d hx hb hd k
  | l2d => obtain ⟨x, r, rfl, rfl⟩ := pm_l1_s ho; exact lv_l2d hx hb hd k
  | d2l => obtain ⟨x, r, rfl, rfl⟩ := pm_d1_s ho; exact lv_d2l hx hb hd k
  | d2i => obtain ⟨x, r, rfl, rfl⟩ := pm_d1_s ho; exact lv_d2i hx hb hd k
  | d2f => obtain ⟨x, r, rfl, hg, rfl⟩ := pm_d2f_s ho; exact lv_d2f hx hb hd hg k
  | f2d => obtain ⟨x, r, rfl, hg, rfl⟩ := pm_f2d_s ho; exact lv_f2d hx hb hd hg k
  | dneg => obtain ⟨x, r, rfl, rfl⟩ := pm_d1_s ho; exact lv_dneg hx hb hd k
  | dadd => obtain ⟨x, y, r, rfl, hg, rfl⟩ := pm_d2c_s ho; exact lv_dadd hx hb hd hg k
  | dsub => obtain ⟨x, y, r, rfl, hg, rfl⟩ := pm_d2c_s ho; exact lv_dsub hx hb hd hg k
  | dconst d =>
    match d with
    | 0 => cases ho; exact lv_dconst0 hx hb hd k
    | 1 => cases ho; exact lv_dconst1 hx hb hd k
  | dmul => obtain ⟨x, y, r, rfl, hg, rfl⟩ := pm_d2c_s ho; exact lv_dmul hx hb hd hg k
  | ddiv => obtain ⟨x, y, r, rfl, hg, rfl⟩ := pm_d2c_s ho; exact lv_ddiv hx hb hd hg k
  | dcmp o => obtain ⟨x, y, r, rfl, rfl⟩ := pm_d2_s ho; exact lv_dcmp hx hb hd k
  | dup => obtain ⟨a, r, rfl, h1, rfl⟩ := pm_dup_s ho; exact lv_dup hx hb hd (pm_c1_s ad tk h1) k
  | pop => obtain ⟨a, r, rfl, h1, rfl⟩ := pm_pop_s ho; exact lv_pop hx hb hd (pm_c1_s ad tk h1) k
  | pop2 => obtain ⟨a, r, rfl, h1, rfl⟩ := pm_pop2_s ho; exact lv_pop2_2 hx hb hd (pm_c2_s ad tk h1) k
  | dup_x1 => obtain ⟨a, b, r, rfl, ⟨h1, h2⟩, rfl⟩ := pm_dup_x1_s ho; exact lv_dup_x1 hx hb hd (pm_c1_s ad tk h1) (pm_c1_s ad tk h2) k
  | dup_x2 => obtain ⟨a, b, d, r, rfl, ⟨⟨h1, h2⟩, h3⟩, rfl⟩ := pm_dup_x2_s ho; exact lv_dup_x2 hx hb hd (pm_c1_s ad tk h1) (pm_c1_s ad tk h2) (pm_c1_s ad tk h3) k
  | dup2 =>
    rcases pm_dup2_s ho with ⟨a, r, rfl, h1, rfl⟩ | ⟨a, b, r, rfl, ⟨h1, h2⟩, rfl⟩
    · exact lv_dup2_2 hx hb hd (pm_c2_s ad tk h1) k
    · exact lv_dup2_11 hx hb hd (pm_c1_s ad tk h1) (pm_c1_s ad tk h2) k
  | dup2_x1 => obtain ⟨a, b, r, rfl, ⟨h1, h2⟩, rfl⟩ := pm_dup2_x1_s ho; exact lv_dup2_x1_2 hx hb hd (pm_c2_s ad tk h1) (pm_c1_s ad tk h2) k
  | dup2_x2 => obtain ⟨a, b, d, r, rfl, ⟨⟨h1, h2⟩, h3⟩, rfl⟩ := pm_dup2_x2_s ho; exact lv_dup2_x2_2 hx hb hd (pm_c2_s ad tk h1) (pm_c1_s ad tk h2) (pm_c1_s ad tk h3) k
  | _ => cases ho
end PMO
