theorem pm_cnd2 {α : Type} {b : Bool} {x : Option α} {y : α} (h : (bif b then x else none) = some y) : b = true ∧ x = some y := by
  cases b
  · cases h
  · exact ⟨rfl, h⟩
/-- what an array's place holds, by the instruction's type -/
theorem pm_ald_s {h : pm_H} {a t : Nat} {i : Int32} {v : Value} (hv : pm_ald h a t i = some v) : ∃ (t' n : Nat), vp_in i n ∧
    ((t = 0 ∧ t' = 0 ∧ ∃ f, h[a]? = some (.inl (t', n, .inl f)) ∧ v = .int (f i.toNatClampNeg)) ∨
     (t = 2 ∧ t' = 2 ∧ ∃ f, h[a]? = some (.inl (t', n, .inl f)) ∧ v = .int (f i.toNatClampNeg)) ∨
     (t = 1 ∧ t' = 1 ∧ ∃ f, h[a]? = some (.inl (t', n, .inr (.inl f))) ∧ v = .long (f i.toNatClampNeg)) ∨
     (t = 4 ∧ t' = 4 ∧ ∃ f, h[a]? = some (.inl (t', n, .inr (.inr (.inr (.inl f))))) ∧ v = .double (f i.toNatClampNeg)) ∨
     (t = 5 ∧ (5 ≤ t' ∧ t' ≤ 7) ∧ ∃ f y, h[a]? = some (.inl (t', n, .inr (.inr (.inr (.inr f))))) ∧ f i.toNatClampNeg = some y ∧ v = .ref y)) := by
  unfold pm_ald at hv
  split at hv
  · rename_i t' n x hg
    obtain ⟨h1, h2⟩ := pm_cnd2 hv
    refine ⟨t', n, pm_in_s h1, ?_⟩
    split at h2
    · obtain ⟨h3, h4⟩ := pm_cnd h2
      exact Or.inl ⟨rfl, Nat.eq_of_beq_eq_true h3, _, hg, h4.symm⟩
    · obtain ⟨h3, h4⟩ := pm_cnd h2
      exact Or.inr (Or.inl ⟨rfl, Nat.eq_of_beq_eq_true h3, _, hg, h4.symm⟩)
    · obtain ⟨h3, h4⟩ := pm_cnd h2
      exact Or.inr (Or.inr (Or.inl ⟨rfl, Nat.eq_of_beq_eq_true h3, _, hg, h4.symm⟩))
    · obtain ⟨h3, h4⟩ := pm_cnd h2
      exact Or.inr (Or.inr (Or.inr (Or.inl ⟨rfl, Nat.eq_of_beq_eq_true h3, _, hg, h4.symm⟩)))
    · rename_i f
      obtain ⟨h3, h4⟩ := pm_cnd2 h2
      cases hy : f i.toNatClampNeg with
      | none => rw [hy] at h4; cases h4
      | some y =>
        rw [hy] at h4
        cases h4
        rw [Bool.and_eq_true] at h3
        exact Or.inr (Or.inr (Or.inr (Or.inr ⟨rfl, ⟨Nat.le_of_ble_eq_true h3.1, Nat.le_of_ble_eq_true h3.2⟩, _, y, hg, hy, rfl⟩)))
    · cases h2
  · cases hv
theorem pm_ast_s {h h' : pm_H} {a t : Nat} {i : Int32} {v : Value} (hv : pm_ast h a t i v = some h') : ∃ (t' n : Nat), vp_in i n ∧
    ((t = 0 ∧ t' = 0 ∧ ∃ f y, h[a]? = some (.inl (t', n, .inl f)) ∧ v = .int y ∧ h' = h.set a (.inl (t', n, .inl (upd f i.toNatClampNeg y)))) ∨
     (t = 2 ∧ t' = 2 ∧ ∃ f y, h[a]? = some (.inl (t', n, .inl f)) ∧ v = .int y ∧ h' = h.set a (.inl (t', n, .inl (upd f i.toNatClampNeg (vp_nar .byte y))))) ∨
     (t = 1 ∧ t' = 1 ∧ ∃ f y, h[a]? = some (.inl (t', n, .inr (.inl f))) ∧ v = .long y ∧ h' = h.set a (.inl (t', n, .inr (.inl (vp_updL f i.toNatClampNeg y))))) ∨
     (t = 4 ∧ t' = 4 ∧ ∃ f y, h[a]? = some (.inl (t', n, .inr (.inr (.inr (.inl f))))) ∧ v = .double y ∧ h' = h.set a (.inl (t', n, .inr (.inr (.inr (.inl (vf_upd f i.toNatClampNeg y))))))) ∨
     (t = 5 ∧ ∃ f y, h[a]? = some (.inl (t', n, .inr (.inr (.inr (.inr f))))) ∧ v = .ref y ∧ ((t' = 6 ∨ t' = 7) ∧ pm_isO h y (pm_cmp t') = true) ∧ h' = h.set a (.inl (t', n, .inr (.inr (.inr (.inr (va_up f i.toNatClampNeg (some y))))))))) := by
  unfold pm_ast at hv
  split at hv
  · rename_i t' n x hg
    obtain ⟨h1, h2⟩ := pm_cnd2 hv
    refine ⟨t', n, pm_in_s h1, ?_⟩
    split at h2
    · obtain ⟨h3, h4⟩ := pm_cnd h2
      exact Or.inl ⟨rfl, Nat.eq_of_beq_eq_true h3, _, _, hg, rfl, h4.symm⟩
    · obtain ⟨h3, h4⟩ := pm_cnd h2
      exact Or.inr (Or.inl ⟨rfl, Nat.eq_of_beq_eq_true h3, _, _, hg, rfl, h4.symm⟩)
    · obtain ⟨h3, h4⟩ := pm_cnd h2
      exact Or.inr (Or.inr (Or.inl ⟨rfl, Nat.eq_of_beq_eq_true h3, _, _, hg, rfl, h4.symm⟩))
    · obtain ⟨h3, h4⟩ := pm_cnd h2
      exact Or.inr (Or.inr (Or.inr (Or.inl ⟨rfl, Nat.eq_of_beq_eq_true h3, _, _, hg, rfl, h4.symm⟩)))
    · obtain ⟨h3, h4⟩ := pm_cnd h2
      rw [Bool.and_eq_true, Bool.or_eq_true] at h3
      exact Or.inr (Or.inr (Or.inr (Or.inr ⟨rfl, _, _, hg, rfl, ⟨h3.1.imp Nat.eq_of_beq_eq_true Nat.eq_of_beq_eq_true, h3.2⟩, h4.symm⟩)))
    · cases h2
  · cases hv
theorem pm_isO_s {h : pm_H} {y ci : Nat} (hv : pm_isO h y ci = true) : ∃ fs, h[y]? = some (.inr (ci, fs)) := by
  unfold pm_isO at hv
  split at hv
  · rename_i c fs hg
    have e := Nat.eq_of_beq_eq_true hv
    subst e
    exact ⟨fs, hg⟩
  · cases hv
/-- the types of arrays, by their numbers (3 is used by nothing) -/
def pm_tyl : List FieldType := [.int, .long, .byte, .int, .double, .array .long, .object "SegmentDesk$Spot", .object "SegmentDesk$Level"]
def pm_tys (aC : Nat → Nat) : List (ClassId × FieldType) := pm_tyl.mapIdx fun t ty => (aC t, ty)
theorem pm_tys_at {aC : Nat → Nat} {t : Nat} {ty : FieldType} (h : pm_tyl[t]? = some ty) : (pm_tys aC)[t]? = some (aC t, ty) := by
  unfold pm_tys
  rw [List.getElem?_mapIdx, h]
  rfl
theorem pm_tyl_ref {t : Nat} (h5 : 5 ≤ t ∧ t ≤ 7) : ∃ ty, pm_tyl[t]? = some ty ∧ ty.isReference = true := by
  match t, h5 with
  | 5, _ => exact ⟨_, rfl, rfl⟩
  | 6, _ => exact ⟨_, rfl, rfl⟩
  | 7, _ => exact ⟨_, rfl, rfl⟩
  | k + 8, h => exact absurd h.2 (by omega)
section PMA
variable {p : Program} {l : Launch} {e : Env} {R : Room} {s : State} {m : MethodId} {args : Array Value} {below : List Frame} {meth : Method} {c : Code} {Q : State → Prop} {cc : ByteArray} {pc nL ce sl : Nat} {ad tk aC : Nat → Nat} {ls : pm_V} {r : List Value} {h : pm_H} {D : va_G} {cl : List vw_C} {A : Nat → Prop}
theorem pm_ok_ald (hx : p.tables.exec = Jvm.exec) (hb : c.code = cc) (hK : va_K D cl (pm_tys aC) s) {t a : Nat} {i : Int32} {v : Value} {ig : Instr} (hig : (t = 0 → ig = .iaload) ∧ (t = 1 → ig = .laload) ∧ (t = 2 → ig = .baload) ∧ (t = 4 → ig = .daload) ∧ (t = 5 → ig = .aaload)) (hv : pm_ald h a t i = some v) (hd : decode cc pc = .ok (ig, 1))
    (kk : pm_Pt p l e R s m args below meth c D cl A tk aC Q nL ad (pc + 1, ls, v :: r, h, ce, sl)) : pm_Pt p l e R s m args below meth c D cl A tk aC Q nL ad (pc, ls, .int i :: .ref a :: r, h, ce, sl) := by
  intro H locs lr hl hP hD hS
  have k2 := kk H locs lr hl hP hD hS
  obtain ⟨t', n, hin, h1⟩ := pm_ald_s hv
  rcases h1 with ⟨rfl, rfl, f, h2, rfl⟩ | ⟨rfl, rfl, f, h2, rfl⟩ | ⟨rfl, rfl, f, h2, rfl⟩ | ⟨rfl, rfl, f, h2, rfl⟩ | ⟨rfl, h5, f, y, h2, h3, rfl⟩
  · rw [hig.1 rfl] at hd
    exact va_iald hx hb hK hP a 0 (pm_w_at h2) (pm_tys_at rfl) hin hd k2
  · rw [hig.2.2.1 rfl] at hd
    exact va_bald hx hb hK hP a 2 (pm_w_at h2) (pm_tys_at rfl) hin hd k2
  · rw [hig.2.1 rfl] at hd
    exact va_lald hx hb hK hP a 1 (pm_w_at h2) (pm_tys_at rfl) hin hd k2
  · rw [hig.2.2.2.1 rfl] at hd
    exact va_dald hx hb hK hP a 4 (pm_w_at h2) (pm_tys_at rfl) hin hd k2
  · rw [hig.2.2.2.2 rfl] at hd
    obtain ⟨ty, hty, hrf⟩ := pm_tyl_ref h5
    have hlt : i.toNatClampNeg < n := Nat.not_le.mp fun q => hin (Or.inr q)
    have hc : H[ad a]? = some (vp_cell (aC t') (n, .inr (.inr (.inr (.inr (fun i => (f i).map ad)))))) := hP a _ (pm_w_at h2)
    refine W.aald (v := .ref (ad y)) (ty := ty) hx hb hc ((hK.2 t' _ (pm_tys_at hty)).1 n (fun j => va_rf ((f j).map ad))) hrf (fun q => by cases q) (by show ¬ (i < 0 ∨ (arrV _ _ _).slots.size ≤ _); rw [arrV_size]; exact hin) (by show (arrV _ _ _).slots[_]? = _; rw [arrV_read _ _ hlt]; show some (va_rf ((f i.toNatClampNeg).map ad)) = _; rw [h3]; rfl) rfl rfl hd k2
theorem pm_ok_ast (hx : p.tables.exec = Jvm.exec) (hb : c.code = cc) (hK : va_K D cl (pm_tys aC) s) {T6 T7 : u_T} {N6 N7 : Nat} (hc7 : cl[7]? = some ("SegmentDesk$Spot", T7, N7)) (hc6 : cl[6]? = some ("SegmentDesk$Level", T6, N6)) {t a : Nat} {i : Int32} {v : Value} {h' : pm_H} {ig : Instr} (hig : (t = 0 → ig = .iastore) ∧ (t = 1 → ig = .lastore) ∧ (t = 2 → ig = .bastore) ∧ (t = 4 → ig = .dastore) ∧ (t = 5 → ig = .aastore)) (hv : pm_ast h a t i v = some h') (hd : decode cc pc = .ok (ig, 1))
    (kk : pm_Pt p l e R s m args below meth c D cl A tk aC Q nL ad (pc + 1, ls, r, h', ce, sl)) : pm_Pt p l e R s m args below meth c D cl A tk aC Q nL ad (pc, ls, v :: .int i :: .ref a :: r, h, ce, sl) := by
  intro H locs lr hl hP hD hS
  obtain ⟨t', n, hin, h1⟩ := pm_ast_s hv
  rcases h1 with ⟨rfl, rfl, f, y, h2, rfl, rfl⟩ | ⟨rfl, rfl, f, y, h2, rfl, rfl⟩ | ⟨rfl, rfl, f, y, h2, rfl, rfl⟩ | ⟨rfl, rfl, f, y, h2, rfl, rfl⟩ | ⟨rfl, f, y, h2, rfl, ⟨h67, h3⟩, rfl⟩
  · rw [hig.1 rfl] at hd
    exact va_iast hx hb hK hP hD hS a 0 (pm_w_at h2) (pm_tys_at rfl) hin hd fun H1 locs1 q1 q2 q3 => kk H1 locs1 lr hl (by rw [pm_w_set]; exact q1) (by rw [pm_w_set]; exact q2) q3
  · rw [hig.2.2.1 rfl] at hd
    exact va_bast hx hb hK hP hD hS a 2 (pm_w_at h2) (pm_tys_at rfl) hin hd fun H1 locs1 q1 q2 q3 => kk H1 locs1 lr hl (by rw [pm_w_set]; exact q1) (by rw [pm_w_set]; exact q2) q3
  · rw [hig.2.1 rfl] at hd
    exact va_last hx hb hK hP hD hS a 1 (pm_w_at h2) (pm_tys_at rfl) hin hd fun H1 locs1 q1 q2 q3 => kk H1 locs1 lr hl (by rw [pm_w_set]; exact q1) (by rw [pm_w_set]; exact q2) q3
  · rw [hig.2.2.2.1 rfl] at hd
    exact va_dast hx hb hK hP hD hS a 4 (pm_w_at h2) (pm_tys_at rfl) hin hd fun H1 locs1 q1 q2 q3 => kk H1 locs1 lr hl (by rw [pm_w_set]; exact q1) (by rw [pm_w_set]; exact q2) q3
  · rw [hig.2.2.2.2 rfl] at hd
    obtain ⟨fs, h4⟩ := pm_isO_s h3
    have key : pm_w ad tk aC (h.set a (.inl (t', n, .inr (.inr (.inr (.inr (va_up f i.toNatClampNeg (some y)))))))) = (pm_w ad tk aC h).set a (ad a, .inl (aC t', n, .inr (.inr (.inr (.inr (va_up (fun j => (f j).map ad) i.toNatClampNeg (some (ad y)))))))) := by
      rw [pm_w_set]
      have e : (fun j => (va_up f i.toNatClampNeg (some y) j).map ad) = va_up (fun j => (f j).map ad) i.toNatClampNeg (some (ad y)) := by
        funext j
        unfold va_up
        by_cases q : j = i.toNatClampNeg
        · rw [if_pos q, if_pos q]; rfl
        · rw [if_neg q, if_neg q]
      show (pm_w ad tk aC h).set a (ad a, .inl (aC t', n, .inr (.inr (.inr (.inr (fun j => (va_up f i.toNatClampNeg (some y) j).map ad)))))) = _
      rw [e]
    rcases h67 with rfl | rfl
    · exact va_astq hx hb hK hP hD hS a 6 y 7 (r := ("SegmentDesk$Spot", T7, N7)) (pm_w_at h2) (pm_tys_at rfl) (pm_w_at h4) hc7 hin hd fun H1 locs1 q1 q2 q3 => kk H1 locs1 lr hl (by rw [key]; exact q1) (by rw [key]; exact q2) q3
    · exact va_astq hx hb hK hP hD hS a 7 y 6 (r := ("SegmentDesk$Level", T6, N6)) (pm_w_at h2) (pm_tys_at rfl) (pm_w_at h4) hc6 hin hd fun H1 locs1 q1 q2 q3 => kk H1 locs1 lr hl (by rw [key]; exact q1) (by rw [key]; exact q2) q3
end PMA
