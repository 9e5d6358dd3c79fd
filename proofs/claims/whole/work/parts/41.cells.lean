/-! .. arrays, and the fields that are not ints -/
def st_aR (a : Nat) : Option (Nat × Nat × Nat) := match a with
  | 2 => some (4, 3, 1)
  | 14 => some (65, 15, 2)
  | 145 => some (16, 150, 1)
  | _ => none
theorem st_ldI {a n : Nat} (h : st_aI a = some n) (I : st_I) (J : st_J) (i : Int32) : pm_ald (st_h I J) a 0 i = bif pm_in i n then some (.int (I a i.toNatClampNeg)) else none := by
  obtain ⟨⟨ha, -⟩, h⟩ := st_aI_c h
  unfold pm_ald
  rw [st_get ha, h]
  rfl
theorem st_ldB {a n : Nat} (h : st_aB a = some n) (I : st_I) (J : st_J) (i : Int32) : pm_ald (st_h I J) a 2 i = bif pm_in i n then some (.int (I a i.toNatClampNeg)) else none := by
  obtain ⟨⟨ha, -⟩, h⟩ := st_aB_c h
  unfold pm_ald
  rw [st_get ha, h]
  rfl
theorem st_ldJ {a n : Nat} (h : st_aJ a = some n) (I : st_I) (J : st_J) (i : Int32) : pm_ald (st_h I J) a 1 i = bif pm_in i n then some (.long (J a i.toNatClampNeg)) else none := by
  obtain ⟨⟨ha, -⟩, h⟩ := st_aJ_c h
  unfold pm_ald
  rw [st_get ha, h]
  rfl
theorem st_ldD (I : st_I) (J : st_J) (i : Int32) : pm_ald (st_h I J) 188 4 i = bif pm_in i 1 then some (.double (J 188 i.toNatClampNeg).toUInt64) else none := by
  unfold pm_ald
  rw [st_get (by decide)]
  rfl
theorem pm_in_c {i : Int32} {n : Nat} (h : pm_in i n = true) : ¬ i < 0 ∧ i.toNatClampNeg < n := by
  unfold pm_in at h
  rw [Bool.not_eq_true', Bool.or_eq_false_iff] at h
  refine ⟨of_decide_eq_false h.1, ?_⟩
  have h2 := h.2
  cases hlt : decide (i.toNatClampNeg < n) with
  | true => exact of_decide_eq_true hlt
  | false =>
    have := of_decide_eq_false hlt
    rw [Nat.ble_eq_true_of_le (by omega)] at h2
    cases h2
theorem pm_in_i {i : Int32} {n : Nat} (h0 : ¬ i < 0) (h : i.toNatClampNeg < n) : pm_in i n = true := by
  unfold pm_in
  rw [decide_eq_false h0]
  cases hb : Nat.ble n i.toNatClampNeg with
  | false => rfl
  | true => have := Nat.le_of_ble_eq_true hb; omega
theorem st_ldR {a n b k : Nat} (h : st_aR a = some (n, b, k)) (I : st_I) (J : st_J) (i : Int32) : pm_ald (st_h I J) a 5 i = bif pm_in i n then some (.ref (b + k * i.toNatClampNeg)) else none := by
  have key : ∀ (t n b k : Nat), 5 ≤ t → t ≤ 7 → a < 189 → (∀ f g, st_sh a f g = st_ra t n b k) → pm_ald (st_h I J) a 5 i = bif pm_in i n then some (.ref (b + k * i.toNatClampNeg)) else none := by
    intro t n b k h5 h7 ha hs
    unfold pm_ald
    rw [st_get ha, hs]
    show (bif pm_in i n then (bif Nat.ble 5 t && Nat.ble t 7 then (bif Nat.ble (i.toNatClampNeg + 1) n then some (b + k * i.toNatClampNeg) else none).map Value.ref else none) else none) = _
    cases hi : pm_in i n with
    | false => rfl
    | true =>
      rw [Nat.ble_eq_true_of_le h5, Nat.ble_eq_true_of_le h7, Nat.ble_eq_true_of_le (pm_in_c hi).2]
      rfl
  unfold st_aR at h
  split at h
  · cases h; exact key 5 4 3 1 (by decide) (by decide) (by decide) (fun f g => rfl)
  · cases h; exact key 7 65 15 2 (by decide) (by decide) (by decide) (fun f g => rfl)
  · cases h; exact key 6 16 150 1 (by decide) (by decide) (by decide) (fun f g => rfl)
  · cases h
theorem st_stI {a n : Nat} (h : st_aI a = some n) (I : st_I) (J : st_J) (i x : Int32) : pm_ast (st_h I J) a 0 i (.int x) = bif pm_in i n then some (st_h (st_w I a i.toNatClampNeg x) J) else none := by
  obtain ⟨⟨ha, -⟩, h⟩ := st_aI_c h
  unfold pm_ast
  rw [st_get ha, h]
  show (bif pm_in i n then some ((st_h I J).set a (st_ia n (upd (I a) i.toNatClampNeg x))) else none) = _
  rw [st_set (I' := st_w I a i.toNatClampNeg x) (J' := J) (by rw [st_w_s, h]) (fun j hj => st_w_o I _ x hj) (fun _ _ => rfl)]
theorem st_stB {a n : Nat} (h : st_aB a = some n) (I : st_I) (J : st_J) (i x : Int32) : pm_ast (st_h I J) a 2 i (.int x) = bif pm_in i n then some (st_h (st_w I a i.toNatClampNeg (vp_nar .byte x)) J) else none := by
  obtain ⟨⟨ha, -⟩, h⟩ := st_aB_c h
  unfold pm_ast
  rw [st_get ha, h]
  show (bif pm_in i n then some ((st_h I J).set a (st_ba n (upd (I a) i.toNatClampNeg (vp_nar .byte x)))) else none) = _
  rw [st_set (I' := st_w I a i.toNatClampNeg (vp_nar .byte x)) (J' := J) (by rw [st_w_s, h]) (fun j hj => st_w_o I _ _ hj) (fun _ _ => rfl)]
theorem st_stJ {a n : Nat} (h : st_aJ a = some n) (I : st_I) (J : st_J) (i : Int32) (x : Int64) : pm_ast (st_h I J) a 1 i (.long x) = bif pm_in i n then some (st_h I (st_y J a i.toNatClampNeg x)) else none := by
  obtain ⟨⟨ha, -⟩, h⟩ := st_aJ_c h
  unfold pm_ast
  rw [st_get ha, h]
  show (bif pm_in i n then some ((st_h I J).set a (st_ja n (vp_updL (J a) i.toNatClampNeg x))) else none) = _
  rw [st_set (I' := I) (J' := st_y J a i.toNatClampNeg x) (by rw [st_y_s, h]) (fun _ _ => rfl) (fun j hj => st_y_o J _ x hj)]
theorem st_stD (I : st_I) (J : st_J) (i : Int32) (x : UInt64) : pm_ast (st_h I J) 188 4 i (.double x) = bif pm_in i 1 then some (st_h I (st_y J 188 i.toNatClampNeg x.toInt64)) else none := by
  unfold pm_ast
  rw [st_get (by decide)]
  show (bif pm_in i 1 then some ((st_h I J).set 188 (.inl (4, 1, .inr (.inr (.inr (.inl (vf_upd (fun k => (J 188 k).toUInt64) i.toNatClampNeg x))))))) else none) = _
  rw [st_set (I' := I) (J' := st_y J 188 i.toNatClampNeg x.toInt64) ?_ (fun _ _ => rfl) (fun j hj => st_y_o J _ _ hj)]
  rw [st_y_s]
  show _ = (.inl (4, 1, .inr (.inr (.inr (.inl (fun k => (vp_updL (J 188) i.toNatClampNeg x.toInt64 k).toUInt64))))) : va_E)
  have e : vf_upd (fun k => (J 188 k).toUInt64) i.toNatClampNeg x = fun k => (vp_updL (J 188) i.toNatClampNeg x.toInt64 k).toUInt64 := by
    funext k
    unfold vf_upd vp_updL
    by_cases hk : k = i.toNatClampNeg
    · rw [if_pos hk, if_pos hk]; rfl
    · rw [if_neg hk, if_neg hk]
  rw [e]
theorem st_lnJ {a n : Nat} (h : st_aJ a = some n) (I : st_I) (J : st_J) : pm_len (st_h I J) a = some n := by
  obtain ⟨⟨ha, -⟩, h⟩ := st_aJ_c h
  unfold pm_len
  rw [st_get ha, h]
  rfl
theorem st_cp {a0 a n0 n1 : Nat} (h0 : st_aJ a0 = some n0) (h1 : st_aJ a = some n1) (I : st_I) (J : st_J) (sp dp n : Int32) : pm_cpy (st_h I J) a0 sp a dp n = bif !(decide (sp < 0)) && (!(decide (dp < 0)) && (!(decide (n < 0)) && (Nat.ble (sp.toNatClampNeg + n.toNatClampNeg) n0 && Nat.ble (dp.toNatClampNeg + n.toNatClampNeg) n1)))
    then some (st_h I (st_yr J a (va_cpy (J a0) (J a) sp.toNatClampNeg dp.toNatClampNeg n.toNatClampNeg))) else none := by
  obtain ⟨⟨ha0, -⟩, h0⟩ := st_aJ_c h0
  obtain ⟨⟨ha1, -⟩, h1⟩ := st_aJ_c h1
  unfold pm_cpy
  rw [st_get ha0, st_get ha1, h0, h1]
  show (bif _ then some ((st_h I J).set a (st_ja n1 (va_cpy (J a0) (J a) sp.toNatClampNeg dp.toNatClampNeg n.toNatClampNeg))) else none) = _
  rw [st_set (I' := I) (J' := st_yr J a (va_cpy (J a0) (J a) sp.toNatClampNeg dp.toNatClampNeg n.toNatClampNeg)) (by rw [st_yr_s, h1]) (fun _ _ => rfl) (fun j hj => st_yr_o J _ hj)]
/-- the two rows of octets -/
def st_oi (b : Nat) : Int32 := bif Nat.beq b 146 then 0 else 1
theorem st_o_is (x : Int32) : st_isO (st_o x) = true := by
  unfold st_o
  cases decide (x = 0) <;> rfl
theorem st_o_oi {b : Nat} (h : st_isO b = true) : st_o (st_oi b) = b := by rcases st_isO_c h with rfl | rfl <;> rfl
theorem st_oc6 (I : st_I) (J : st_J) : pm_fld (st_h I J) 0 0 6 = some (.ref (st_o (I 0 6))) := by
  unfold pm_fld
  rw [st_get (by decide)]
  rfl
theorem st_oc7 (I : st_I) (J : st_J) : pm_fld (st_h I J) 0 0 7 = some (.ref (st_o (I 0 7))) := by
  unfold pm_fld
  rw [st_get (by decide)]
  rfl
theorem st_po6 {b : Nat} (hb : st_isO b = true) (I : st_I) (J : st_J) : pm_put (st_h I J) 0 0 6 2 (.ref b) = some (st_h (st_w I 0 6 (st_oi b)) J) := by
  unfold pm_put
  rw [st_get (by decide)]
  show some ((st_h I J).set 0 (.inr (0, [.ref 1, .ref 8, .ref 9, .ref 10, .ref 12, .ref 145, .ref b, .ref (st_o (I 0 7))]))) = _
  rw [st_set (I' := st_w I 0 6 (st_oi b)) (J' := J) ?_ (fun i hi => st_w_o I _ _ hi) (fun _ _ => rfl)]
  rw [st_w_s]
  show _ = (.inr (0, [.ref 1, .ref 8, .ref 9, .ref 10, .ref 12, .ref 145, .ref (st_o (st_oi b)), .ref (st_o (I 0 7))]) : va_E)
  rw [st_o_oi hb]
theorem st_po7 {b : Nat} (hb : st_isO b = true) (I : st_I) (J : st_J) : pm_put (st_h I J) 0 0 7 2 (.ref b) = some (st_h (st_w I 0 7 (st_oi b)) J) := by
  unfold pm_put
  rw [st_get (by decide)]
  show some ((st_h I J).set 0 (.inr (0, [.ref 1, .ref 8, .ref 9, .ref 10, .ref 12, .ref 145, .ref (st_o (I 0 6)), .ref b]))) = _
  rw [st_set (I' := st_w I 0 7 (st_oi b)) (J' := J) ?_ (fun i hi => st_w_o I _ _ hi) (fun _ _ => rfl)]
  rw [st_w_s]
  show _ = (.inr (0, [.ref 1, .ref 8, .ref 9, .ref 10, .ref 12, .ref 145, .ref (st_o (I 0 6)), .ref (st_o (st_oi b))]) : va_E)
  rw [st_o_oi hb]
theorem st_what (I : st_I) (J : st_J) : pm_fld (st_h I J) 8 2 3 = some (.long (J 8 3)) := by
  unfold pm_fld
  rw [st_get (by decide)]
  rfl
theorem st_pwhat (I : st_I) (J : st_J) (x : Int64) : pm_put (st_h I J) 8 2 3 1 (.long x) = some (st_h I (st_y J 8 3 x)) := by
  unfold pm_put
  rw [st_get (by decide)]
  show some ((st_h I J).set 8 (.inr (2, [.int (I 8 0), .int (I 8 1), .int (I 8 2), .long x]))) = _
  rw [st_set (I' := I) (J' := st_y J 8 3 x) (by rw [st_y_s]; rfl) (fun _ _ => rfl) (fun j hj => st_y_o J _ x hj)]
theorem st_isOb {I : st_I} {J : st_J} {b ci : Nat} {f : Nat → Int32} {g : Nat → Int64} {fs : List Value} (hb : b < 189) (hf : I b = f) (hg : J b = g) (h : st_sh b f g = .inr (ci, fs)) : pm_isO (st_h I J) b ci = true := by
  subst hf hg
  unfold pm_isO
  rw [st_get hb, h]
  exact Nat.beq_refl ci
/-- the class of the object at a place -/
def st_cls (a ci : Nat) : Bool := match ci with
  | 0 => Nat.beq a 0
  | 1 => Nat.beq a 1
  | 2 => Nat.beq a 8
  | 3 => Nat.beq a 9
  | 4 => Nat.beq a 10
  | 5 => Nat.beq a 12
  | 6 => st_isL a
  | 7 => st_isS a
  | 8 => st_isO a
  | 9 => Nat.beq a 166
  | _ => false
theorem st_cls_c {a ci : Nat} (h : st_cls a ci = true) (I : st_I) (J : st_J) : pm_isO (st_h I J) a ci = true := by
  unfold st_cls at h
  split at h
  · cases Nat.eq_of_beq_eq_true h; exact st_isOb (by decide) rfl rfl rfl
  · cases Nat.eq_of_beq_eq_true h; exact st_isOb (by decide) rfl rfl rfl
  · cases Nat.eq_of_beq_eq_true h; exact st_isOb (by decide) rfl rfl rfl
  · cases Nat.eq_of_beq_eq_true h; exact st_isOb (by decide) rfl rfl rfl
  · cases Nat.eq_of_beq_eq_true h; exact st_isOb (by decide) rfl rfl rfl
  · cases Nat.eq_of_beq_eq_true h; exact st_isOb (by decide) rfl rfl rfl
  · exact st_isOb (st_isL_n h).1 rfl rfl (st_sh_L h _ _)
  · exact st_isOb (st_isS_lt h) rfl rfl (st_sh_S h _ _)
  · exact st_isOb (by rcases st_isO_c h with rfl | rfl <;> decide) rfl rfl (st_sh_O h _ _)
  · cases Nat.eq_of_beq_eq_true h; exact st_isOb (by decide) rfl rfl rfl
  · cases h
