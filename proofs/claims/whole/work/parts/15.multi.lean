/-! new long[n][m] (the library's Stand.multianewarray2F, called) -/
theorem pm_outer (c : ClassId) (N h0 : Nat) : ∀ i : Nat, Jvm.Free.Multi.outerC c N h0 i = arrV c N (fun j => va_rf (if j < i then some (h0 + 1 + j) else none))
  | 0 => by
    show ({ cls := c, slots := Array.replicate N .null, vm := .none } : Cell) = _
    rw [arrV_new]
    refine congrArg (arrV c N) (funext fun j => ?_)
    simp [va_rf]
  | i + 1 => by
    show (Jvm.Free.Multi.outerC c N h0 i).setSlot i (.ref (h0 + 1 + i)) = _
    rw [pm_outer c N h0 i, arrV_store]
    refine congrArg (arrV c N) (funext fun j => ?_)
    by_cases q : j = i
    · subst q
      simp [updV, va_rf]
    · by_cases h : j < i
      · simp [updV, q, h, Nat.lt_succ_of_lt h]
      · simp [updV, q, h, show ¬ j < i + 1 by omega]
theorem pm_inner (c : ClassId) (K : Nat) : Jvm.Free.Multi.innerC c K (.long 0) = vp_cell c (K, .inr (.inl (fun _ => 0))) := by
  show ({ cls := c, slots := Array.replicate K (.long 0), vm := .none } : Cell) = arrV c K (fun _ => .long 0)
  exact arrV_new _ _ _
section PMM
variable {p : Program} {l : Launch} {e : Env} {R : Room} {s : State} {m : MethodId} {args : Array Value} {below : List Frame} {meth : Method} {c : Code} {Q : State → Prop} {cc : ByteArray} {pc nL ce sl : Nat} {ad tk aC : Nat → Nat} {ls : pm_V} {r : List Value} {h : pm_H} {D : va_G} {cl : List vw_C} {A : Nat → Prop} {Ts : List Cond} {own : String}
/-- the rows of a new array of arrays -/
def pm_rows (h : pm_H) (N K : Nat) : pm_H := .inl (5, N, .inr (.inr (.inr (.inr (fun i => bif Nat.ble (i + 1) N then some (h.length + 1 + i) else none))))) :: List.replicate N (pm_arr 1 K)
theorem pm_ok_newm (hx : p.tables.exec = Jvm.exec) (hb : c.code = cc) (hts : ∀ w ∈ Ts, w.before args s = true) (hown : s.vm.findClass own = some m.cls) (hK : va_K D cl (pm_tys aC) s) (hA : ∀ q, s.heap.size ≤ q → A q) {index : Nat} {n k : Int32} (hlk : Cond.classLink own index "[[J" ∈ Ts ∧ Cond.arrayOver (.array .long) ∈ Ts ∧ Cond.arrayClass .long ∈ Ts) (hc : pm_cl h ls r = true) (hn : ¬ n < 0) (hk : ¬ k < 0) (hN : n.toNatClampNeg ≤ 100000) (hM : k.toNatClampNeg ≤ 100000) (hR : ce + (1 + n.toNatClampNeg) ≤ R.cells ∧ sl + (n.toNatClampNeg + n.toNatClampNeg * k.toNatClampNeg) ≤ R.slots) (hd : decode cc pc = .ok (.multianewarray index 2, 4))
    (kk : ∀ ad' : Nat → Nat, (∀ v, v < h.length → ad' v = ad v) → pm_Pt p l e R s m args below meth c D cl A tk aC Q nL ad' (pc + 4, ls, .ref h.length :: r, h ++ pm_rows h n.toNatClampNeg k.toNatClampNeg, ce + 1 + n.toNatClampNeg, sl + n.toNatClampNeg + n.toNatClampNeg * k.toNatClampNeg)) : pm_Pt p l e R s m args below meth c D cl A tk aC Q nL ad (pc, ls, .int k :: .int n :: r, h, ce, sl) := by
  intro H locs lr hl hP hD hS
  obtain ⟨c1, c2, c3⟩ := pm_cl_s hc
  generalize hNe : n.toNatClampNeg = N at hN hR kk
  generalize hMe : k.toNatClampNeg = M at hM hR kk
  intro T hT Xs
  obtain ⟨vm₁, cA, comp, -, fA, fC, -, -, X', step⟩ := Xs.multianewarray2F (ty := .long) hx hown (hts _ hlk.1) (hts _ hlk.2.1) (hts _ hlk.2.2) (g := F0 m pc lr (.int k :: .int n :: r.map (pm_v ad tk))) rfl (by rw [hb]; exact hd) rfl hn hk (by omega) (by show k.toNatClampNeg * 8 ≤ 536870912; omega) (by omega) rfl rfl (by rw [hNe]; exact hR.1) (by rw [hNe, hMe]; exact hR.2)
  have hA5 : cA = aC 5 := by
    have h1 := (hK.2 5 _ (pm_tys_at rfl)).2
    exact Option.some.inj (fA.symm.trans h1)
  have hA1 : comp = aC 1 := by
    have h1 := (hK.2 1 _ (pm_tys_at rfl)).2
    exact Option.some.inj (fC.symm.trans h1)
  subst hA5
  subst hA1
  rw [hNe, hMe] at X' step
  have hdv : (defaultValue FieldType.long) = .long 0 := rfl
  rw [hdv] at X' step
  generalize hF : Jvm.Free.Multi.fill (T.setVm vm₁) (aC 5) (aC 1) N M (.long 0) N = F at X' step
  have hTh : (T.setVm vm₁).heap = H := hT
  obtain ⟨f1, f2, -, -⟩ := Jvm.Free.Multi.fill_facts (T.setVm vm₁) (aC 5) (aC 1) N M (.long 0) N
  rw [hF, hTh] at f1 f2
  have hold : ∀ x : Nat, x < H.size → F.heap[x]? = H[x]? := fun x hx => by
    have := Jvm.Free.Multi.fill_old (T.setVm vm₁) (aC 5) (aC 1) N M (.long 0) (a := x) (by rw [hTh]; exact hx) N
    rw [hF, hTh] at this
    exact this
  have hrow : ∀ j : Nat, j < N → F.heap[H.size + 1 + j]? = some (vp_cell (aC 1) (M, .inr (.inl (fun _ => 0)))) := fun j hj => by
    have := Jvm.Free.Multi.fill_inner (T.setVm vm₁) (aC 5) (aC 1) N M (.long 0) N j hj
    rw [hF, hTh, pm_inner] at this
    exact this
  rw [pm_outer] at f2
  obtain ⟨ad', hade⟩ : ∃ f : Nat → Nat, f = fun v => if v < h.length then ad v else H.size + (v - h.length) := ⟨_, rfl⟩
  have hag : ∀ v, v < h.length → ad' v = ad v := fun v hv => by rw [hade]; exact if_pos hv
  have hnew : ∀ j : Nat, ad' (h.length + j) = H.size + j := fun j => by
    rw [hade]
    show (if h.length + j < h.length then ad (h.length + j) else H.size + (h.length + j - h.length)) = _
    rw [if_neg (by omega), Nat.add_sub_cancel_left]
  have hP0 : va_P D cl (pm_w ad' tk aC h) F.heap := pm_P_ext hag c1 (hP.kept (fun k9 x hx => hold x.1 ((hP k9 x hx).lt)))
  have hcell : ∀ (j : Nat) (x : va_E), (pm_rows h N M)[j]? = some x → va_at D cl (H.size + j, pm_e ad' tk aC x) F.heap := by
    intro j x hj
    cases j with
    | zero =>
      cases hj
      show F.heap[H.size]? = some (vp_cell (aC 5) (N, .inr (.inr (.inr (.inr (fun i => (bif Nat.ble (i + 1) N then some (h.length + 1 + i) else none).map ad'))))))
      rw [f2, vp_cell_q]
      refine congrArg some (congrArg (arrV (aC 5) N) (funext fun i => ?_))
      by_cases q : i < N
      · rw [if_pos q, Nat.ble_eq_true_of_le q]
        show va_rf (some (H.size + 1 + i)) = va_rf (some (ad' (h.length + 1 + i)))
        have := hnew (1 + i)
        rw [← Nat.add_assoc] at this
        rw [this, Nat.add_assoc]
      · have hb9 : Nat.ble (i + 1) N = false := by
          cases hb9 : Nat.ble (i + 1) N with
          | false => rfl
          | true => exact absurd (Nat.le_of_ble_eq_true hb9) q
        rw [if_neg q, hb9]
        rfl
    | succ j =>
      have hj : (List.replicate N (pm_arr 1 M))[j]? = some x := hj
      have hlt : j < N := by
        have := (List.getElem?_eq_some_iff.mp hj).1
        rwa [List.length_replicate] at this
      rw [List.getElem?_replicate_of_lt hlt] at hj
      cases hj
      have := hrow j hlt
      rw [Nat.add_assoc, Nat.add_comm 1 j] at this
      exact this
  have hwa : ∀ (k9 : Nat) (q : Nat × va_E), (pm_w ad' tk aC (h ++ pm_rows h N M))[k9]? = some q → (k9 < h.length ∧ (pm_w ad' tk aC h)[k9]? = some q) ∨ ∃ j x, k9 = h.length + j ∧ (pm_rows h N M)[j]? = some x ∧ q = (H.size + j, pm_e ad' tk aC x) := by
    intro k9 q hq
    rw [pm_w_get] at hq
    by_cases hlt : k9 < h.length
    · rw [List.getElem?_append_left hlt] at hq
      exact Or.inl ⟨hlt, by rw [pm_w_get]; exact hq⟩
    · rw [List.getElem?_append_right (by omega)] at hq
      cases hx9 : (pm_rows h N M)[k9 - h.length]? with
      | none => rw [hx9] at hq; cases hq
      | some x =>
        rw [hx9] at hq
        cases hq
        have e9 : k9 = h.length + (k9 - h.length) := by omega
        refine Or.inr ⟨k9 - h.length, x, e9, hx9, ?_⟩
        rw [← hnew, ← e9]
  have w1 : va_P D cl (pm_w ad' tk aC (h ++ pm_rows h N M)) F.heap := by
    intro k9 q hq
    rcases hwa k9 q hq with ⟨-, h1⟩ | ⟨j, x, -, h2, rfl⟩
    · exact hP0 k9 q h1
    · exact hcell j x h2
  have hold2 : ∀ (k9 : Nat) (q : Nat × va_E), (pm_w ad' tk aC h)[k9]? = some q → ∃ q0, (pm_w ad tk aC h)[k9]? = some q0 ∧ q0.1 = q.1 := by
    intro k9 q hq
    rw [pm_w_get] at hq ⊢
    cases hx9 : h[k9]? with
    | none => rw [hx9] at hq; cases hq
    | some x =>
      rw [hx9] at hq
      cases hq
      exact ⟨_, rfl, (hag k9 (List.getElem?_eq_some_iff.mp hx9).1).symm⟩
  have w2 : va_D A (pm_w ad' tk aC (h ++ pm_rows h N M)) := by
    refine ⟨fun i j x y hi hj e9 => ?_, fun k9 q hq => ?_⟩
    · rcases hwa i x hi with ⟨-, h1⟩ | ⟨j1, x1, e1, -, rfl⟩
      · obtain ⟨x0, g1, g2⟩ := hold2 i x h1
        rcases hwa j y hj with ⟨-, h3⟩ | ⟨j2, x2, e2, -, rfl⟩
        · obtain ⟨y0, g3, g4⟩ := hold2 j y h3
          exact hD.1 i j x0 y0 g1 g3 (by rw [g2, g4]; exact e9)
        · have := (hP i x0 g1).lt
          rw [g2, e9] at this
          dsimp only at this
          omega
      · rcases hwa j y hj with ⟨-, h3⟩ | ⟨j2, x2, e2, -, rfl⟩
        · obtain ⟨y0, g3, g4⟩ := hold2 j y h3
          have := (hP j y0 g3).lt
          rw [g4, ← e9] at this
          dsimp only at this
          omega
        · dsimp only at e9
          omega
    · rcases hwa k9 q hq with ⟨-, h1⟩ | ⟨j, x, -, -, rfl⟩
      · obtain ⟨q0, g1, g2⟩ := hold2 k9 q h1
        rw [← g2]
        exact hD.2 k9 q0 g1
      · exact hA _ (Nat.le_trans hS.1 (Nat.le_add_right _ _))
  have w3 : va_S A s.heap F.heap locs := ⟨Nat.le_trans hS.1 (by rw [f1]; omega), fun q h1 h2 => by rw [hold q (Nat.lt_of_lt_of_le h1 hS.1)]; exact hS.2.1 q h1 h2, hS.2.2⟩
  have k2 := kk ad' hag F.heap locs lr (hl.ext hag c2) w1 w2 w3
  have e1 : (Value.ref h.length :: r).map (pm_v ad' tk) = .ref H.size :: r.map (pm_v ad tk) := by
    rw [List.map_cons, pm_st_ext hag c3]
    congr 1
    show Value.ref (ad' h.length) = .ref H.size
    have := hnew 0
    rw [Nat.add_zero, Nat.add_zero] at this
    rw [this]
  have k3 : W p l e R s m args below meth c F.heap locs (ce + 1 + N) (sl + N + N * M) Q (F0 m (pc + 4) lr ((Value.ref h.length :: r).map (pm_v ad' tk))) := k2
  rw [e1] at k3
  obtain ⟨t, a1, b1⟩ := k3 F rfl X'
  refine ⟨t, ?_, b1⟩
  subst hT
  exact step t a1
end PMM
