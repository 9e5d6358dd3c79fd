theorem pm_inv_c (l : List Nat) : pm_inv l = 1 ∨ pm_inv l = 4 := by
  unfold pm_inv
  split
  · exact Or.inr rfl
  · exact Or.inl rfl
set_option maxHeartbeats 4000000 in
theorem pm_kind_c (i : Instr) (L : pm_L) : pm_kind i L = 0 ∨ pm_kind i L = 1 ∨ pm_kind i L = 2 ∨ pm_kind i L = 3 ∨ pm_kind i L = 4 := by
  cases i with
  | new n =>
    show (bif Nat.beq L.1.length 3 then 3 else 1) = 0 ∨ (bif Nat.beq L.1.length 3 then 3 else 1) = 1 ∨ (bif Nat.beq L.1.length 3 then 3 else 1) = 2 ∨ (bif Nat.beq L.1.length 3 then 3 else 1) = 3 ∨ (bif Nat.beq L.1.length 3 then 3 else 1) = 4
    cases Nat.beq L.1.length 3 <;> decide
  | invokestatic n =>
    have h := pm_inv_c L.1
    have e : pm_kind (.invokestatic n) L = pm_inv L.1 := rfl
    rw [e]
    omega
  | invokespecial n =>
    have h := pm_inv_c L.1
    have e : pm_kind (.invokespecial n) L = pm_inv L.1 := rfl
    rw [e]
    omega
  | invokevirtual n =>
    have h := pm_inv_c L.1
    have e : pm_kind (.invokevirtual n) L = pm_inv L.1 := rfl
    rw [e]
    omega
  | _ => first | exact Or.inl rfl | exact Or.inr (Or.inl rfl) | exact Or.inr (Or.inr (Or.inl rfl))
/-- what a step of the pure machine is -/
theorem pm_go_s {X : pm_X} {D : Nat → List Value} {call : Nat → List Value → pm_H → pm_R → Prop} {M : pm_M} {n : Nat} {x : pm_S} {r : pm_R} (h : pm_go X D call M (n + 1) x r) : ∃ (i : Instr) (len : Nat) (L : pm_L), pm_look M.1 x.1 = some (i, len, L) ∧
    ((pm_kind i L = 2 ∧ ∃ v, pm_ret i L x.2.2.1 = some v ∧ r = (.inl v, x.2.2.2)) ∨
     (pm_kind i L = 3 ∧ ∃ e a b, L.1 = [e, a, b] ∧ pm_wt x.2.2.1 ≤ 8 ∧ r = (.inr e, x.2.2.2.1, x.2.2.2.2.1 + 1, x.2.2.2.2.2 + 6)) ∨
     (pm_kind i L = 4 ∧ ∃ (m : Nat) (a st : List Value) (q : pm_R), pm_call x.2.2.2.1 x.2.1 L x.2.2.1 = some (m, a, st) ∧ call m a x.2.2.2.1 q ∧
       ((∃ v, q.1 = .inl v ∧ pm_go X D call M n (x.1 + len, x.2.1, v.toList ++ st, q.2.1, x.2.2.2.2.1 + q.2.2.1, x.2.2.2.2.2 + q.2.2.2) r) ∨
        (∃ e, q.1 = .inr e ∧ ((pm_catch M.2 x.1 e = none ∧ pm_free M.2 x.1 = true ∧ r = (.inr e, q.2.1, x.2.2.2.2.1 + q.2.2.1, x.2.2.2.2.2 + q.2.2.2)) ∨
          ∃ hp lo, pm_catch M.2 x.1 e = some (hp, lo) ∧ pm_go X D call M n (hp, (pm_clr x.2.1 lo).set lo none, [], q.2.1, x.2.2.2.2.1 + q.2.2.1, x.2.2.2.2.2 + q.2.2.2) r)))) ∨
     ((pm_kind i L = 0 ∨ pm_kind i L = 1) ∧ ∃ x', pm_step X D i len L x = some x' ∧ pm_go X D call M n x' r)) := by
  unfold pm_go at h
  cases hk : pm_look M.1 x.1 with
  | none => rw [hk] at h; exact h.elim
  | some w =>
    obtain ⟨i, len, L⟩ := w
    rw [hk] at h
    refine ⟨i, len, L, rfl, ?_⟩
    dsimp only at h
    have hkc := pm_kind_c i L
    split at h
    · rename_i h2
      refine Or.inl ⟨h2, ?_⟩
      cases hr : pm_ret i L x.2.2.1 with
      | none => rw [hr] at h; exact h.elim
      | some v => rw [hr] at h; exact ⟨v, rfl, h⟩
    · rename_i h3
      refine Or.inr (Or.inl ⟨h3, ?_⟩)
      split at h
      · rename_i e a b hl
        exact ⟨e, a, b, hl, Nat.le_of_ble_eq_true h.1, h.2⟩
      · exact h.elim
    · rename_i h4
      refine Or.inr (Or.inr (Or.inl ⟨h4, ?_⟩))
      cases hc : pm_call x.2.2.2.1 x.2.1 L x.2.2.1 with
      | none => rw [hc] at h; exact h.elim
      | some w =>
        obtain ⟨m, a, st⟩ := w
        rw [hc] at h
        obtain ⟨q, hq, hg⟩ := h
        refine ⟨m, a, st, q, rfl, hq, ?_⟩
        obtain ⟨o, h', c', k'⟩ := q
        cases o with
        | inl v => exact Or.inl ⟨v, rfl, hg⟩
        | inr e =>
          refine Or.inr ⟨e, rfl, ?_⟩
          dsimp only at hg ⊢
          cases hct : pm_catch M.2 x.1 e with
          | none => rw [hct] at hg; exact Or.inl ⟨rfl, hg.1, hg.2⟩
          | some w =>
            obtain ⟨hp, lo⟩ := w
            rw [hct] at hg
            exact Or.inr ⟨hp, lo, rfl, hg⟩
    · rename_i n2 n3 n4
      refine Or.inr (Or.inr (Or.inr ⟨?_, ?_⟩))
      · rcases hkc with q | q | q | q | q
        · exact Or.inl q
        · exact Or.inr q
        · exact absurd q n2
        · exact absurd q n3
        · exact absurd q n4
      · cases hs : pm_step X D i len L x with
        | none => rw [hs] at h; exact h.elim
        | some x' => rw [hs] at h; exact ⟨x', rfl, h⟩
theorem pm_step_g {X : pm_X} {D : Nat → List Value} {i : Instr} {len : Nat} {L : pm_L} {x x' : pm_S} (hk : pm_kind i L = 0 ∨ pm_kind i L = 1) (hs : pm_step X D i len L x = some x') : pm_Gr (pm_isN i L) x x' := by
  unfold pm_step at hs
  rcases hk with hk | hk
  · rw [hk] at hs
    exact pm_on_g hs
  · rw [hk] at hs
    exact pm_mem_g hk hs
theorem pm_go_c {X : pm_X} {D : Nat → List Value} {call : Nat → List Value → pm_H → pm_R → Prop} {M : pm_M} : ∀ (n : Nat) (x : pm_S) (r : pm_R), pm_go X D call M n x r → x.2.2.2.2.1 ≤ r.2.2.1 ∧ x.2.2.2.2.2 ≤ r.2.2.2
  | 0, _, _, h => h.elim
  | n + 1, x, r, h => by
    obtain ⟨i, len, L, -, h⟩ := pm_go_s h
    rcases h with ⟨-, v, -, rfl⟩ | ⟨-, e, a, b, -, -, rfl⟩ | ⟨-, m, a, st, q, -, -, ⟨v, -, hg⟩ | ⟨e, -, ⟨-, -, rfl⟩ | ⟨hp, lo, -, hg⟩⟩⟩ | ⟨hk, x', hs, hg⟩
    · exact ⟨Nat.le_refl _, Nat.le_refl _⟩
    · exact ⟨Nat.le_add_right _ _, Nat.le_add_right _ _⟩
    · have := pm_go_c n _ r hg
      dsimp only at this
      omega
    · exact ⟨Nat.le_add_right _ _, Nat.le_add_right _ _⟩
    · have := pm_go_c n _ r hg
      dsimp only at this
      omega
    · have h1 := pm_go_c n _ r hg
      have h2 := pm_step_g hk hs
      exact ⟨Nat.le_trans h2.1 h1.1, Nat.le_trans h2.2.1 h1.2⟩
/-- a code that makes nothing, and calls only what makes nothing -/
def pm_naM (na : Nat → Bool) (M : pm_M) : Prop := ∀ (pc : Nat) (i : Instr) (len : Nat) (L : pm_L), pm_look M.1 pc = some (i, len, L) → pm_isN i L = false ∧ ∀ (m n kd ci : Nat), L.1 = [m, n, kd, ci] → pm_kind i L = 4 → na m = true
theorem pm_call_s {h : pm_H} {ls : pm_V} {L : pm_L} {st : List Value} {m : Nat} {a r : List Value} (hc : pm_call h ls L st = some (m, a, r)) : ∃ n kd ci, L.1 = [m, n, kd, ci] ∧ pm_args n [] st = some (a, r) ∧ pm_wt r ≤ 8 ∧ (kd = 0 ∨ pm_cl h ls r = true) ∧ pm_rcv h ci a = true := by
  unfold pm_call at hc
  split at hc
  · rename_i m' n kd ci v
    cases hp : pm_args n [] st with
    | none => rw [hp] at hc; cases hc
    | some w =>
      obtain ⟨a', r'⟩ := w
      rw [hp] at hc
      obtain ⟨h1, h2⟩ := pm_cnd hc
      cases h2
      rw [Bool.and_eq_true, Bool.and_eq_true, Bool.or_eq_true] at h1
      exact ⟨n, kd, ci, rfl, hp, Nat.le_of_ble_eq_true h1.1, h1.2.1.imp Nat.eq_of_beq_eq_true id, h1.2.2⟩
  · cases hc
theorem pm_go_l {X : pm_X} {D : Nat → List Value} {call : Nat → List Value → pm_H → pm_R → Prop} {M : pm_M} {na : Nat → Bool} (hM : pm_naM na M) (hcall : ∀ m a h q, na m = true → call m a h q → q.2.1.length = h.length) : ∀ (n : Nat) (x : pm_S) (r : pm_R), pm_go X D call M n x r → r.2.1.length = x.2.2.2.1.length
  | 0, _, _, h => h.elim
  | n + 1, x, r, h => by
    obtain ⟨i, len, L, hk, h⟩ := pm_go_s h
    obtain ⟨h1, h2⟩ := hM _ _ _ _ hk
    rcases h with ⟨-, v, -, rfl⟩ | ⟨-, e, a, b, -, -, rfl⟩ | ⟨h4, m, a, st, q, hc, hq, ⟨v, -, hg⟩ | ⟨e, -, ⟨-, -, rfl⟩ | ⟨hp, lo, -, hg⟩⟩⟩ | ⟨hk, x', hs, hg⟩
    · rfl
    · rfl
    · obtain ⟨n', kd, ci, hl, -⟩ := pm_call_s hc
      exact (pm_go_l hM hcall n _ r hg).trans (hcall m a _ q (h2 _ _ _ _ hl h4) hq)
    · obtain ⟨n', kd, ci, hl, -⟩ := pm_call_s hc
      exact hcall m a _ q (h2 _ _ _ _ hl h4) hq
    · obtain ⟨n', kd, ci, hl, -⟩ := pm_call_s hc
      exact (pm_go_l hM hcall n _ r hg).trans (hcall m a _ q (h2 _ _ _ _ hl h4) hq)
    · exact (pm_go_l hM hcall n _ r hg).trans ((pm_step_g hk hs).2.2.1 h1)
theorem pm_Ev_l {X : pm_X} {D : Nat → List Value} {T : Nat → pm_M × Nat} {na : Nat → Bool} (hT : ∀ m, na m = true → pm_naM na (T m).1) : ∀ (d m : Nat) (a : List Value) (h : pm_H) (q : pm_R), na m = true → pm_Ev X D T d m a h q → q.2.1.length = h.length
  | 0, _, _, _, _, _, hq => hq.elim
  | d + 1, m, a, h, q, hm, hq => by
    obtain ⟨-, n, hn⟩ := hq
    exact pm_go_l (hT m hm) (fun m a h q hm hq => pm_Ev_l hT d m a h q hm hq) n _ q hn
/-- the heap never loses a cell -/
theorem pm_go_h {X : pm_X} {D : Nat → List Value} {call : Nat → List Value → pm_H → pm_R → Prop} {M : pm_M} (hcall : ∀ m a h q, call m a h q → h.length ≤ q.2.1.length) : ∀ (n : Nat) (x : pm_S) (r : pm_R), pm_go X D call M n x r → x.2.2.2.1.length ≤ r.2.1.length
  | 0, _, _, h => h.elim
  | n + 1, x, r, h => by
    obtain ⟨i, len, L, hk, h⟩ := pm_go_s h
    rcases h with ⟨-, v, -, rfl⟩ | ⟨-, e, a, b, -, -, rfl⟩ | ⟨h4, m, a, st, q, hc, hq, ⟨v, -, hg⟩ | ⟨e, -, ⟨-, -, rfl⟩ | ⟨hp, lo, -, hg⟩⟩⟩ | ⟨hk, x', hs, hg⟩
    · exact Nat.le_refl _
    · exact Nat.le_refl _
    · exact Nat.le_trans (hcall m a _ q hq) (pm_go_h hcall n _ r hg)
    · exact hcall m a _ q hq
    · exact Nat.le_trans (hcall m a _ q hq) (pm_go_h hcall n _ r hg)
    · exact Nat.le_trans (pm_step_g hk hs).2.2.2 (pm_go_h hcall n _ r hg)
theorem pm_Ev_h {X : pm_X} {D : Nat → List Value} {T : Nat → pm_M × Nat} : ∀ (d m : Nat) (a : List Value) (h : pm_H) (q : pm_R), pm_Ev X D T d m a h q → h.length ≤ q.2.1.length
  | 0, _, _, _, _, hq => hq.elim
  | d + 1, m, a, h, q, hq => by
    obtain ⟨-, n, hn⟩ := hq
    exact pm_go_h (fun m a h q hq => pm_Ev_h d m a h q hq) n _ q hn
