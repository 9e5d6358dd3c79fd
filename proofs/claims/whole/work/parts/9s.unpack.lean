/-! unpacking, by the class -/
def un2 (I : st_I) (c i : Nat) : st_I := st_w (st_w I 10 1 (Int32.ofNat c)) 10 2 (Int32.ofNat i)
theorem un2_1 (I : st_I) (c i : Nat) : un2 I c i 10 1 = Int32.ofNat c := by unfold un2; rw [st_w_e, if_neg (by omega), st_w_at]
theorem un2_2 (I : st_I) (c i : Nat) : un2 I c i 10 2 = Int32.ofNat i := by unfold un2; rw [st_w_at]
theorem un2_o (I : st_I) (c i : Nat) {a : Nat} (h : a ≠ 10) (f : Nat) : un2 I c i a f = I a f := by unfold un2; rw [st_w_e, if_neg (fun z => h z.1), st_w_e, if_neg (fun z => h z.1)]
theorem un2_w2 (I : st_I) (c i j : Nat) : st_w (un2 I c i) 10 2 (Int32.ofNat j) = un2 I c j := st_w_w _ _ _ _ _
theorem un2_w1 (I : st_I) (c i j : Nat) : st_w (un2 I c i) 10 1 (Int32.ofNat j) = un2 I j i := by
  unfold un2
  rw [st_w_cm (st_w I 10 1 (Int32.ofNat c)) (a := 10) (b := 10) 2 1 _ _ (by omega), st_w_w]
def QJ (J0 J : st_J) (A : List Int64) : Prop := (∀ a, a ≠ 11 → J a = J0 a) ∧ ∀ k, k < A.length → J 11 k = A.getD k 0
theorem gd_app8 (A B : List Int64) (j : Nat) : (A ++ B).getD j 0 = if j < A.length then A.getD j 0 else B.getD (j - A.length) 0 := by
  rw [List.getD_eq_getElem?_getD, List.getElem?_append]
  split <;> rw [List.getD_eq_getElem?_getD]
theorem QJ_s {J0 J : st_J} {A : List Int64} (w : Int64) (h : QJ J0 J A) : QJ J0 (st_y J 11 A.length w) (A ++ [w]) := by
  refine ⟨fun a ha => by rw [st_y_o _ _ _ ha, h.1 a ha], fun k hk => ?_⟩
  rw [List.length_append] at hk
  have hk' : k < A.length + 1 := hk
  rw [st_y_e, gd_app8]
  by_cases c : k = A.length
  · rw [if_pos ⟨rfl, c⟩, if_neg (by omega), c, Nat.sub_self]
    rfl
  · rw [if_neg (fun z => c z.2), if_pos (by omega)]
    exact h.2 k (by omega)
theorem a_s1 (i : Nat) : Int32.ofNat (i + 1) - 1 = Int32.ofNat i := oi_s1 i
section UP
variable {X : pm_X} {d : Nat} {I : st_I} {a L : Nat} {J0 : st_J}
theorem up_row {J : st_J} (g1 : st_isO a = true) (eL : I a 1 = Int32.ofNat L) (hL : L ≤ 1500) {c i q : Nat} (hc : c ≤ 259) (hi : i < L) (hq : q < 1500) {u3 u4 u5 : Option Value} (r : pm_R) (h : om (rgk (ocO I a) L (ocO I a i).toNatClampNeg 8 0 (i + 1) 0) (fun v => if c < 259 then (if ocO I a i = 0 ∨ ocO I a i = 255 then (if v.2 < L then Gx X (d + 3) (kc_Fr_unpack, []) (67, [some (.ref 10), some (.ref a), some (.int (Int32.ofNat q)), some (.int (ocO I a i)), some (.int (ocO I a v.2)), some (.int 0)], [], st_h (un2 I (c + 1) (v.2 + 1)) (st_y J 11 c v.1), 0, 0) r else r = (.inr 2, st_h (un2 I (c + 1) v.2) (st_y J 11 c v.1), 1, 6)) else Gx X (d + 3) (kc_Fr_unpack, []) (12, [some (.ref 10), some (.ref a), some (.int (Int32.ofNat (q + 1))), some (.int (ocO I a i)), u4, u5], [], st_h (un2 I (c + 1) v.2) (st_y J 11 c v.1), 0, 0) r) else r = (.inr 2, st_h (un2 I c v.2) J, 1, 6)) (r = (.inr 2, st_h (un2 I c L) J, 1, 6))) : Gx X (d + 3) (kc_Fr_unpack, []) (12, [some (.ref 10), some (.ref a), some (.int (Int32.ofNat q)), u3, u4, u5], [], st_h (un2 I c i) J, 0, 0) r := by
  have hO := isO_n g1
  have ha : ∀ c i f, un2 I c i a f = I a f := fun c i f => un2_o I c i (Ne.symm hO.1) f
  have ha1 : ∀ c i f, un2 I c i (a + 1) f = I (a + 1) f := fun c i f => un2_o I c i (Ne.symm hO.2) f
  have q15 : Int32.ofNat q < (1500 : Int32) := by rw [show (1500 : Int32) = Int32.ofNat 1500 from rfl, oi_lt (by omega) (by omega)]; exact hq
  have hoc : 0 ≤ (I (a + 1) i &&& 255).toInt ∧ (I (a + 1) i &&& 255).toInt < 256 := by
    have := bn_i (x := I (a + 1) i &&& 255) (bn_and32 (n := 8) 255 rfl) (by omega)
    omega
  refine ib_Fr_unpack_12 g1 r (ifp q15 (ifp (by rw [un2_2, ha, eL, oi_lt (by omega) (by omega)]; exact hi) ?_))
  rw [un2_2, a_c1, oi_n (i := i) (by omega), oi_a i, un2_w2, ha1]
  refine ⟨oi_in (by omega) (by omega), ⟨?_, hoc⟩, ?_⟩
  · rw [un2_2, ha, eL, oi_i (by omega), oi_i (by omega)]
    omega
  have en : ngo (un2 I c (i + 1)) a (I (a + 1) i &&& 255) = rgk (ocO I a) L (ocO I a i).toNatClampNeg 8 0 (i + 1) 0 := by
    unfold ngo
    rw [un2_2, ha, eL, oi_n (by omega), oi_n (by omega)]
    have eo : ocO (un2 I c (i + 1)) a = ocO I a := by
      funext k
      unfold ocO
      rw [ha1]
    rw [eo]
    rfl
  rw [en, ha, eL]
  cases hr : rgk (ocO I a) L (ocO I a i).toNatClampNeg 8 0 (i + 1) 0 with
  | none =>
    rw [hr] at h
    show r = _
    rw [un2_w2]
    exact h
  | some v =>
    rw [hr] at h
    obtain ⟨w, i1⟩ := v
    have hb := (rgk_b _ _ _ _ _ hr).2 (by omega)
    show if _ then _ else _
    have h : if _ then _ else _ := h
    dsimp only at h hb ⊢
    rw [un2_1, un2_w2, oi_a c, un2_w1, ha, eL, oi_a i1, un2_w2, ha1, a_s1, oi_n (i := i1) (by omega), oi_n (i := c) (by omega), oi_a q]
    have c59 : Int32.ofNat c < (259 : Int32) ↔ c < 259 := by rw [show (259 : Int32) = Int32.ofNat 259 from rfl, oi_lt (by omega) (by omega)]
    have l1 : (Int32.ofNat i1 < Int32.ofNat L) ↔ i1 < L := oi_lt (by omega) (by omega)
    by_cases z1 : c < 259
    · rw [if_pos z1] at h
      refine ifp (c59.mpr z1) ⟨oi_in (by omega) (by omega), ?_⟩
      by_cases z2 : ocO I a i = 0
      · rw [if_pos (Or.inl z2)] at h
        refine ifp z2 ?_
        by_cases z3 : i1 < L
        · rw [if_pos z3] at h
          exact ifp (l1.mpr z3) ⟨oi_in (by omega) (by omega), h⟩
        · rw [if_neg z3] at h
          exact ifn (fun z => z3 (l1.mp z)) h
      · refine ifn z2 ?_
        by_cases z4 : ocO I a i = 255
        · rw [if_pos (Or.inr z4)] at h
          refine ifp z4 ?_
          by_cases z3 : i1 < L
          · rw [if_pos z3] at h
            exact ifp (l1.mpr z3) ⟨oi_in (by omega) (by omega), h⟩
          · rw [if_neg z3] at h
            exact ifn (fun z => z3 (l1.mp z)) h
        · rw [if_neg (fun z => z.elim z2 z4)] at h
          exact ifn z4 h
    · rw [if_neg z1] at h
      exact ifn (fun z => z1 (c59.mp z)) h
end UP
