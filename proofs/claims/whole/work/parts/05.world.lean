/-! .. third piece: the heap. The cell at the place a of the pure heap lies at ad a; aC: the class of a type of arrays. -/
def pm_e (ad tk aC : Nat → Nat) : va_E → va_E
  | .inl (t, n, .inl f) => .inl (aC t, n, .inl f)
  | .inl (t, n, .inr (.inl f)) => .inl (aC t, n, .inr (.inl f))
  | .inl (t, n, .inr (.inr (.inl f))) => .inl (aC t, n, .inr (.inr (.inl f)))
  | .inl (t, n, .inr (.inr (.inr (.inl f)))) => .inl (aC t, n, .inr (.inr (.inr (.inl f))))
  | .inl (t, n, .inr (.inr (.inr (.inr f)))) => .inl (aC t, n, .inr (.inr (.inr (.inr (fun i => (f i).map ad)))))
  | .inr (ci, fs) => .inr (ci, fs.map (pm_v ad tk))
def pm_w (ad tk aC : Nat → Nat) (h : pm_H) : va_W := h.mapIdx fun i x => (ad i, pm_e ad tk aC x)
theorem pm_w_get (ad tk aC : Nat → Nat) (h : pm_H) (a : Nat) : (pm_w ad tk aC h)[a]? = (h[a]?).map fun x => (ad a, pm_e ad tk aC x) := List.getElem?_mapIdx
theorem pm_w_at {ad tk aC : Nat → Nat} {h : pm_H} {a : Nat} {x : va_E} (hx : h[a]? = some x) : (pm_w ad tk aC h)[a]? = some (ad a, pm_e ad tk aC x) := by
  rw [pm_w_get, hx]
  rfl
theorem pm_w_set (ad tk aC : Nat → Nat) (h : pm_H) (a : Nat) (x : va_E) : pm_w ad tk aC (h.set a x) = (pm_w ad tk aC h).set a (ad a, pm_e ad tk aC x) := by
  apply List.ext_getElem?
  intro k
  rw [pm_w_get]
  by_cases e : a = k
  · subst e
    by_cases hl : a < h.length
    · rw [List.getElem?_set_self hl, List.getElem?_set_self (by unfold pm_w; rw [List.length_mapIdx]; exact hl)]
      rfl
    · rw [List.getElem?_eq_none (by rw [List.length_set]; omega), List.getElem?_eq_none (by rw [List.length_set]; unfold pm_w; rw [List.length_mapIdx]; omega)]
      rfl
  · rw [List.getElem?_set_ne e, List.getElem?_set_ne e, pm_w_get]
theorem pm_fld_s {h : pm_H} {a ci k : Nat} {v : Value} (hf : pm_fld h a ci k = some v) : ∃ fs, h[a]? = some (.inr (ci, fs)) ∧ fs[k]? = some v := by
  unfold pm_fld at hf
  split at hf
  · rename_i c fs hg
    cases hb : Nat.beq c ci
    · rw [hb] at hf; cases hf
    · rw [hb] at hf
      have e := Nat.eq_of_beq_eq_true hb
      subst e
      exact ⟨fs, hg, hf⟩
  · cases hf
theorem pm_put_s {h h' : pm_H} {a ci k t : Nat} {v : Value} (hf : pm_put h a ci k t v = some h') : ∃ fs, h[a]? = some (.inr (ci, fs)) ∧ pm_fit t v = true ∧ k < fs.length ∧ h' = h.set a (.inr (ci, fs.set k v)) := by
  unfold pm_put at hf
  split at hf
  · rename_i c fs hg
    obtain ⟨h1, h2⟩ := pm_cnd hf
    rw [Bool.and_eq_true, Bool.and_eq_true] at h1
    have e := Nat.eq_of_beq_eq_true h1.1
    subst e
    exact ⟨fs, hg, h1.2.1, Nat.le_of_ble_eq_true h1.2.2, h2.symm⟩
  · cases hf
theorem pm_in_s {i : Int32} {n : Nat} (h : pm_in i n = true) : vp_in i n := by
  unfold pm_in at h
  rw [Bool.not_eq_true', Bool.or_eq_false_iff] at h
  rintro (q | q)
  · exact absurd (decide_eq_true q) (by rw [h.1]; decide)
  · have := Nat.ble_eq_true_of_le q
    rw [h.2] at this
    cases this
