/-! .. the methods: first their entry -/
theorem pm_loc_at : ∀ (a : List Value) (i k : Nat) (v : Value), (pm_loc a)[k]? = some (some v) → ∀ ad tk : Nat → Nat, (i + k, pm_v ad tk v) ∈ lv_args i (a.map (pm_v ad tk))
  | [], i, k, v, h => by simp [pm_loc] at h
  | w :: r, i, k, v, h => by
    intro ad tk
    show (i + k, pm_v ad tk v) ∈ (i, pm_v ad tk w) :: lv_args (if (pm_v ad tk w).category = 2 then i + 2 else i + 1) (r.map (pm_v ad tk))
    rw [pm_v_cat]
    have h : (bif pm_c2 w then some w :: none :: pm_loc r else some w :: pm_loc r)[k]? = some (some v) := h
    cases hc : pm_c2 w with
    | true =>
      have hw : w.category = 2 := Nat.eq_of_beq_eq_true hc
      rw [hc] at h
      rw [if_pos hw]
      match k, h with
      | 0, h => cases h; exact List.mem_cons_self
      | 1, h => cases h
      | k + 2, h =>
        have h2 := pm_loc_at r (i + 2) k v h ad tk
        have e : i + 2 + k = i + (k + 2) := by omega
        rw [e] at h2
        exact List.mem_cons_of_mem _ h2
    | false =>
      have hw : ¬ w.category = 2 := fun q => by
        unfold pm_c2 at hc
        rw [q] at hc
        cases hc
      rw [hc] at h
      rw [if_neg hw]
      match k, h with
      | 0, h => cases h; exact List.mem_cons_self
      | k + 1, h =>
        have h2 := pm_loc_at r (i + 1) k v h ad tk
        have e : i + 1 + k = i + (k + 1) := by omega
        rw [e] at h2
        exact List.mem_cons_of_mem _ h2
theorem pm_loc_len : ∀ (a : List Value) (ad tk : Nat → Nat), (lg_sl (a.map (pm_v ad tk))).length = (pm_loc a).length
  | [], _, _ => rfl
  | w :: r, ad, tk => by
    have ih := pm_loc_len r ad tk
    show ((if (pm_v ad tk w).category = 2 then [Slot.val (pm_v ad tk w), .second] else [.val (pm_v ad tk w)]) ++ lg_sl (r.map (pm_v ad tk))).length = (bif pm_c2 w then some w :: none :: pm_loc r else some w :: pm_loc r).length
    rw [pm_v_cat, List.length_append, ih]
    cases hc : pm_c2 w with
    | true =>
      have hw : w.category = 2 := Nat.eq_of_beq_eq_true hc
      rw [if_pos hw]
      show 2 + (pm_loc r).length = (pm_loc r).length + 2
      omega
    | false =>
      have hw : ¬ w.category = 2 := fun q => by
        unfold pm_c2 at hc
        rw [q] at hc
        cases hc
      rw [if_neg hw]
      show 1 + (pm_loc r).length = (pm_loc r).length + 1
      omega
theorem pm_ent_LH {n : Nat} {a : List Value} (h : (pm_loc a).length ≤ n) (ad tk : Nat → Nat) : pm_LH ad tk ((lg_sl (a.map (pm_v ad tk)) ++ List.replicate (n - (lg_sl (a.map (pm_v ad tk))).length) Slot.unset).toArray) n (pm_ent n a) := by
  have hl := lv_entry (a.map (pm_v ad tk)) (n := n) (by rw [pm_loc_len]; exact h)
  refine ⟨hl.1, hl.2.1, ?_, fun k v hk => ?_⟩
  · unfold pm_ent
    rw [List.length_append, List.length_replicate]
    omega
  · unfold pm_ent at hk
    by_cases hlt : k < (pm_loc a).length
    · rw [List.getElem?_append_left hlt] at hk
      have h2 := pm_loc_at a 0 k v hk ad tk
      rw [Nat.zero_add] at h2
      exact hl.2.2 _ h2
    · rw [List.getElem?_append_right (by omega)] at hk
      have := List.mem_of_getElem? hk
      rw [List.mem_replicate] at this
      cases this.2
