/-! THE PURE MACHINE IS THE REAL ONE: what pm_Ev says of a method is a contract of it. -/
set_option maxRecDepth 100000 in
theorem pm_sound {l : Launch} {s0 : State} {D : va_G} {cl : List vw_C} {tk aC : Nat → Nat} {Ts : List Cond} {X : pm_X} {Dv : Nat → List Value} {MI : Nat → pm_I} {na : Nat → Bool} (hB : pm_Base l s0 cl tk Ts X) (hOK : ∀ m, pm_OKm s0 Ts cl Dv MI na m) (hna : ∀ m, na m = true → pm_naM na (MI m).1) :
    ∀ (d m : Nat) (a : List Value) (h : pm_H) (q : pm_R), pm_Ev X Dv (pm_T MI) d m a h q → pm_Sem l s0 D cl tk aC Ts MI d m a h q
  | 0, _, _, _, _, hq => hq.elim
  | d + 1, mm, a, h, q, hq => by
    obtain ⟨hfit, n, hn⟩ := hq
    have ih := fun m a h q hq => pm_sound (D := D) (aC := aC) hB hOK hna d m a h q hq
    intro ad sz
    obtain ⟨hcode, hini, hplain, hy, hmax, hnp, hOKi⟩ := hOK mm
    refine pm_ofW (cc := (MI mm).2.2.2.1) (maxL := (MI mm).2.1) (ret := (MI mm).2.2.2.2.1) hplain (hcode.imp (fun z => z.1) (fun z => z.imp fun hh z => z.1)) ?_
    intro p e s m args below meth c s₁ B hml hv
    obtain ⟨rfl, hsz, hP, hD0, hK, hW, hz, hold⟩ := hv
    subst hsz
    have hts : ∀ w ∈ Ts, w.before (a.map (pm_v ad tk)).toArray s = true := atoms_spec (ws := Ts) B.pre
    have hA0 : ∀ q, va_A (pm_w ad tk aC h) s.heap.size q → s0.heap.size ≤ q := by
      intro y hy
      rcases hy with ⟨k9, e9, hy⟩ | hy
      · exact hD0.2 k9 _ hy
      · exact Nat.le_trans hz hy
    have hkeep : ∀ y : Nat, y < s0.heap.size → ¬ (fun q => s0.heap.size ≤ q) y → s.heap[y]? = s0.heap[y]? := fun y hy _ => hold y hy
    have hT : pm_TK X tk (va_A (pm_w ad tk aC h) s.heap.size) s := fun t ht => (((hB.2.2.2.2.1 t ht).moved hW.alike).kept hkeep).narrow hA0
    have hZ : va_Z "SegmentDesk" "ELEMENT_BITS" "[I" (.ref (tk 1)) (va_A (pm_w ad tk aC h) s.heap.size) s s.heap := ((hB.2.2.2.2.2.1.moved hW.alike).kept hkeep).narrow hA0
    have hcd : meth.code = some c := (Stand.of_body B).code
    have hRf9 : (headSpec Ts (pm_rm (d + 1) q)).room.frames = 4 * (d + 1) + 10 := rfl
    have hRl9 : (headSpec Ts (pm_rm (d + 1) q)).room.locals = 60 * (d + 1) + 300 := rfl
    have hb9 := hB.2.2.2.2.2.2.2.2
    have C : pm_Cx p (headSpec Ts (pm_rm (d + 1) q)).room s m (a.map (pm_v ad tk)).toArray meth c (MI mm).2.2.2.1 (MI mm).2.1 tk aC D cl (va_A (pm_w ad tk aC h) s.heap.size) Ts (MI mm).2.2.1.cls (MI mm).2.2.1.name X :=
      ⟨B.exec, B.bytes, hml, findClass_of_methodNamed B.named, hts, hK, fun y hy => Or.inr hy, (name_of_methodNamed B.named B.method).1, hT, hZ, hB.2.2.1, hB.2.2.2.1, by rw [hRf9]; omega, by rw [hRl9]; omega⟩
    have htab : pm_tabOK (MI mm).2.2.1.cls Ts (MI mm).2.2.2.1 (MI mm).2.1 c (MI mm).1.2 := by
      rcases hcode with ⟨hc, hM2⟩ | ⟨hh, hc, hH⟩
      · obtain ⟨meth', c', h1, h2, -, -, -, -, h7, -⟩ := Cond.code_spec B.named (hts _ hc)
        cases B.method.symm.trans h1
        cases hcd.symm.trans h2
        exact Or.inl ⟨by simpa using h7, hM2⟩
      · obtain ⟨m9, meth', c', hn9, h1, h2, -, -, h5, -, -, -⟩ := Cond.codeWith_spec (hts _ hc)
        cases B.named.symm.trans hn9
        cases B.method.symm.trans h1
        cases hcd.symm.trans h2
        refine Or.inr ?_
        rw [h5]
        exact hH
    rw [lg_entry_eq]
    exact pm_run (M := (MI mm).1) (ret := (MI mm).2.2.2.2.1) (d := d) hB hOK hna ih (ad0 := ad) (h0 := h) (r := q) C hOKi htab rfl rfl (by rw [hRf9]; omega) (by rw [hRl9]; omega) B.returns B.notSynchronized hW hz hold hA0 n _ hn ad (fun _ _ => rfl) (Nat.le_refl _) (fun _ => rfl)
      s.heap [] _ (pm_ent_LH (Nat.le_of_ble_eq_true hfit) ad tk) hP hD0.self va_S.rf
