/-! .. ends, calls, switches -/
section TE
variable {X : pm_X} {d : Nat} {M : pm_M} {pc : Nat} {ls : pm_V} {st : List Value} {h : pm_H} {c k : Nat} {r : pm_R} {I : st_I} {J : st_J} {L : pm_L}
theorem t_rt {i : Instr} {len : Nat} {o : Option Value} (hl : pm_look M.1 pc = some (i, len, L)) (hk : pm_kind i L = 2) (ho : pm_ret i L st = some o) : Gx X d M (pc, ls, st, h, c, k) r ↔ r = (.inl o, h, c, k) := by
  refine pm_er fun n => ?_
  show (match pm_look M.1 pc with
    | none => False
    | some (i, len, L) => _) = _
  rw [hl]
  dsimp only
  rw [hk]
  have e : (match pm_ret i L st with
    | none => False
    | some v => r = (.inl v, h, c, k)) = (r = (.inl o, h, c, k)) := by rw [ho]
  exact e
theorem t_rI {v : Value} {x : Int32} (hl : pm_look M.1 pc = some (.ireturn, 1, ([], v))) : Gx X d M (pc, ls, [.int x], h, c, k) r ↔ r = (.inl (some (.int x)), h, c, k) := t_rt hl rfl rfl
theorem t_rJ {x : Int64} (hl : pm_look M.1 pc = some (.lreturn, 1, L)) : Gx X d M (pc, ls, [.long x], h, c, k) r ↔ r = (.inl (some (.long x)), h, c, k) := t_rt hl rfl rfl
theorem t_rD {x : UInt64} (hl : pm_look M.1 pc = some (.dreturn, 1, L)) : Gx X d M (pc, ls, [.double x], h, c, k) r ↔ r = (.inl (some (.double x)), h, c, k) := t_rt hl rfl rfl
theorem t_rV (hl : pm_look M.1 pc = some (.return_, 1, L)) : Gx X d M (pc, ls, [], h, c, k) r ↔ r = (.inl none, h, c, k) := t_rt hl rfl rfl
theorem t_rZ {v : Value} {x : Int32} (hl : pm_look M.1 pc = some (.ireturn, 1, ([1], v))) : Gx X d M (pc, ls, [.int x], h, c, k) r ↔ (x = 0 ∨ x = 1) ∧ r = (.inl (some (.int x)), h, c, k) := by
  by_cases hx : x = 0 ∨ x = 1
  · refine (t_rt hl rfl (o := some (.int x)) ?_).trans ⟨fun h => ⟨hx, h⟩, fun h => h.2⟩
    show (bif decide (x = 0) || decide (x = 1) then some (some (Value.int x)) else none) = _
    rcases hx with rfl | rfl <;> rfl
  · refine ⟨fun ⟨n, hn⟩ => ?_, fun h => absurd h.1 hx⟩
    cases n with
    | zero => exact hn.elim
    | succ n =>
      have hn : (match pm_look M.1 pc with
        | none => False
        | some (i, len, L) => _) := hn
      rw [hl] at hn
      have hn : (match (bif decide (x = 0) || decide (x = 1) then some (some (.int x)) else none : Option (Option Value)) with
        | none => False
        | some v => r = (.inl v, h, c, k)) := hn
      rw [decide_eq_false (fun z => hx (Or.inl z)), decide_eq_false (fun z => hx (Or.inr z))] at hn
      exact hn.elim
theorem t_th {n e : Nat} {v : Value} (hl : pm_look M.1 pc = some (.new n, 3, ([e, 1, 6], v))) (hw : Nat.ble (pm_wt st) 8 = true) : Gx X d M (pc, ls, st, h, c, k) r ↔ r = (.inr e, h, c + 1, k + 6) := by
  refine pm_er fun n => ?_
  show (match pm_look M.1 pc with
    | none => False
    | some (i, len, L) => _) = _
  rw [hl]
  have e : (Nat.ble (pm_wt st) 8 = true ∧ r = (.inr e, h, c + 1, k + 6)) = (r = (.inr e, h, c + 1, k + 6)) := propext ⟨fun h => h.2, fun h => ⟨hw, h⟩⟩
  exact e
/-! calls -/
def Kx (X : pm_X) (d : Nat) (M : pm_M) (pc : Nat) (ls : pm_V) (st : List Value) (c k : Nat) (r q : pm_R) : Prop := match q with
  | (.inl v, h, c1, k1) => Gx X d M (pc + 3, ls, v.toList ++ st, h, c + c1, k + k1) r
  | (.inr e, h, c1, k1) => match pm_catch M.2 pc e with
    | none => pm_free M.2 pc = true ∧ r = (.inr e, h, c + c1, k + k1)
    | some (hp, lo) => Gx X d M (hp, (pm_clr ls lo).set lo none, [], h, c + c1, k + k1) r
theorem t_ca {i : Instr} {m : Nat} {a st' : List Value} (hl : pm_look M.1 pc = some (i, 3, L)) (hk : pm_kind i L = 4) (hc : pm_call h ls L st = some (m, a, st')) : Gx X d M (pc, ls, st, h, c, k) r ↔ ∃ q, Ex X d m a h q ∧ Kx X d M pc ls st' c k r q := by
  constructor
  · rintro ⟨n, hn⟩
    cases n with
    | zero => exact hn.elim
    | succ n =>
      have hn : (match pm_look M.1 pc with
        | none => False
        | some (i, len, L) => _) := hn
      rw [hl] at hn
      dsimp only at hn
      rw [hk] at hn
      have hn : (match pm_call h ls L st with
        | none => False
        | some (m, a, st) => _) := hn
      rw [hc] at hn
      obtain ⟨q, h1, h2⟩ := hn
      refine ⟨q, h1, ?_⟩
      obtain ⟨q1, h', c1, k1⟩ := q
      cases q1 with
      | inl v => exact ⟨n, h2⟩
      | inr e =>
        dsimp only at h2
        unfold Kx
        dsimp only
        split at h2
        · rename_i e1; rw [e1]; exact h2
        · rename_i hp lo e1; rw [e1]; exact ⟨n, h2⟩
  · rintro ⟨q, h1, h2⟩
    obtain ⟨q1, h', c1, k1⟩ := q
    have key : ∀ n, (∃ q : pm_R, Ex X d m a h q ∧ match q with
          | (.inl v, h, c1, k1) => pm_go X pc_Dv (pm_Ev X pc_Dv (pm_T pc_MI) d) M n (pc + 3, ls, v.toList ++ st', h, c + c1, k + k1) r
          | (.inr e, h, c1, k1) => match pm_catch M.2 pc e with
            | none => pm_free M.2 pc = true ∧ r = (.inr e, h, c + c1, k + k1)
            | some (hp, lo) => pm_go X pc_Dv (pm_Ev X pc_Dv (pm_T pc_MI) d) M n (hp, (pm_clr ls lo).set lo none, [], h, c + c1, k + k1) r) → Gx X d M (pc, ls, st, h, c, k) r := by
      intro n hn
      refine ⟨n + 1, ?_⟩
      show (match pm_look M.1 pc with
        | none => False
        | some (i, len, L) => _)
      rw [hl]
      dsimp only
      rw [hk]
      show (match pm_call h ls L st with
        | none => False
        | some (m, a, st) => _)
      rw [hc]
      exact hn
    cases q1 with
    | inl v =>
      obtain ⟨n, hn⟩ : Gx X d M (pc + 3, ls, v.toList ++ st', h', c + c1, k + k1) r := h2
      exact key n ⟨_, h1, hn⟩
    | inr e =>
      unfold Kx at h2
      dsimp only at h2
      cases hct : pm_catch M.2 pc e with
      | none =>
        rw [hct] at h2
        exact key 0 ⟨_, h1, by dsimp only; rw [hct]; exact h2⟩
      | some w =>
        obtain ⟨hp, lo⟩ := w
        rw [hct] at h2
        obtain ⟨n, hn⟩ := h2
        exact key n ⟨_, h1, by dsimp only; rw [hct]; exact hn⟩
theorem t_kq {m : Nat} {a st' : List Value} {q0 : pm_R} (hq : ∀ q, Ex X d m a h q ↔ q = q0) (hg : Gx X d M (pc, ls, st, h, c, k) r ↔ ∃ q, Ex X d m a h q ∧ Kx X d M pc ls st' c k r q) : Gx X d M (pc, ls, st, h, c, k) r ↔ Kx X d M pc ls st' c k r q0 :=
  hg.trans ⟨fun ⟨q, h1, h2⟩ => by rw [(hq q).mp h1] at h2; exact h2, fun h2 => ⟨q0, (hq q0).mpr rfl, h2⟩⟩
/-- a static method's call -/
theorem t_cS {w m n : Nat} {v : Value} {a st' : List Value} {q0 : pm_R} (hl : pm_look M.1 pc = some (.invokestatic w, 3, ([m, n, 0, 0], v))) (ha : pm_args n [] st = some (a, st')) (hw : Nat.ble (pm_wt st') 8 = true) (hq : ∀ q, Ex X d m a h q ↔ q = q0) : Gx X d M (pc, ls, st, h, c, k) r ↔ Kx X d M pc ls st' c k r q0 := by
  refine t_kq hq (t_ca hl rfl ?_)
  show (match pm_args n [] st with
    | some (a, r) => bif Nat.ble (pm_wt r) 8 && ((Nat.beq 0 0 || pm_cl h ls r) && pm_rcv h 0 a) then some (m, a, r) else none
    | none => none) = _
  rw [ha]
  show (bif Nat.ble (pm_wt st') 8 && _ then some (m, a, st') else none) = _
  rw [hw]
  rfl
/-- a call on an object of the state -/
theorem t_cV {w m n ci b : Nat} {v : Value} {a st' : List Value} {q0 : pm_R} (hl : pm_look M.1 pc = some (.invokevirtual w, 3, ([m, n, 0, ci + 1], v))) (ha : pm_args n [] st = some (.ref b :: a, st')) (hw : Nat.ble (pm_wt st') 8 = true) (hb : st_cls b ci = true) (hq : ∀ q, Ex X d m (.ref b :: a) (st_h I J) q ↔ q = q0) : Gx X d M (pc, ls, st, st_h I J, c, k) r ↔ Kx X d M pc ls st' c k r q0 := by
  refine t_kq hq (t_ca hl rfl ?_)
  show (match pm_args n [] st with
    | some (a, r) => bif Nat.ble (pm_wt r) 8 && ((Nat.beq 0 0 || pm_cl (st_h I J) ls r) && pm_rcv (st_h I J) (ci + 1) a) then some (m, a, r) else none
    | none => none) = _
  rw [ha]
  show (bif Nat.ble (pm_wt st') 8 && (_ && pm_isO (st_h I J) b ci) then some (m, .ref b :: a, st') else none) = _
  rw [hw, st_cls_c hb]
  rfl
theorem K_v {v : Value} {c1 k1 : Nat} : Kx X d M pc ls st c k r (.inl (some v), h, c1, k1) = Gx X d M (pc + 3, ls, v :: st, h, c + c1, k + k1) r := rfl
theorem K_0 {c1 k1 : Nat} : Kx X d M pc ls st c k r (.inl none, h, c1, k1) = Gx X d M (pc + 3, ls, st, h, c + c1, k + k1) r := rfl
theorem K_x {co : List (Nat × Instr × Nat × pm_L)} {e c1 k1 : Nat} : Kx X d (co, []) pc ls st c k r (.inr e, h, c1, k1) = (r = (.inr e, h, c + c1, k + k1)) := propext ⟨fun h => h.2, fun h => ⟨rfl, h⟩⟩
theorem K_h {e c1 k1 hp lo : Nat} (hc : pm_catch M.2 pc e = some (hp, lo)) : Kx X d M pc ls st c k r (.inr e, h, c1, k1) = Gx X d M (hp, (pm_clr ls lo).set lo none, [], h, c + c1, k + k1) r := by
  unfold Kx
  dsimp only
  rw [hc]
theorem K_i {p : Prop} [Decidable p] {q1 q2 : pm_R} : Kx X d M pc ls st c k r (if p then q1 else q2) = if p then Kx X d M pc ls st c k r q1 else Kx X d M pc ls st c k r q2 := by
  by_cases hp : p
  · rw [if_pos hp, if_pos hp]
  · rw [if_neg hp, if_neg hp]
/-! switches; comparisons of longs -/
theorem t_sw {df lo hi : Int} {offs : Array Int} {len dd : Nat} {ts : List Nat} {v : Value} {x : Int32} (hl : pm_look M.1 pc = some (.tableswitch df lo hi offs, len, (dd :: ts, v))) : Gx X d M (pc, ls, .int x :: st, h, c, k) r ↔ Gx X d M (bif decide (x.toInt < lo) then dd else ts.getD (x.toInt - lo).toNat dd, ls, st, h, c, k) r := t_step hl (Or.inr rfl) rfl
theorem lc_eq (x y : Int64) : (lg_cmp x y = 0) = (x = y) := by
  unfold lg_cmp
  by_cases h1 : x > y
  · rw [if_pos h1]
    refine propext ⟨fun h => absurd h (by decide), fun h => ?_⟩
    subst h
    rw [gt_iff_lt, Int64.lt_iff_toInt_lt] at h1
    omega
  · rw [if_neg h1]
    by_cases h2 : x = y
    · rw [if_pos h2]; exact propext ⟨fun _ => h2, fun _ => rfl⟩
    · rw [if_neg h2]; exact propext ⟨fun h => absurd h (by decide), fun h => absurd h h2⟩
theorem lc_lt (x y : Int64) : (lg_cmp x y < 0) = (x < y) := by
  unfold lg_cmp
  by_cases h1 : x > y
  · rw [if_pos h1]
    refine propext ⟨fun h => absurd h (by decide), fun h => ?_⟩
    rw [gt_iff_lt, Int64.lt_iff_toInt_lt] at h1
    rw [Int64.lt_iff_toInt_lt] at h
    omega
  · rw [if_neg h1]
    by_cases h2 : x = y
    · rw [if_pos h2]
      subst h2
      exact propext ⟨fun h => absurd h (by decide), fun h => absurd h h1⟩
    · rw [if_neg h2]
      refine propext ⟨fun _ => ?_, fun _ => by decide⟩
      rw [gt_iff_lt, Int64.lt_iff_toInt_lt] at h1
      rw [Int64.lt_iff_toInt_lt]
      have : x.toInt ≠ y.toInt := fun h => h2 (Int64.toInt_inj.mp h)
      omega
theorem lc_gt (x y : Int64) : (0 < lg_cmp x y) = (y < x) := by
  unfold lg_cmp
  by_cases h1 : x > y
  · rw [if_pos h1]
    exact propext ⟨fun _ => h1, fun _ => by decide⟩
  · rw [if_neg h1]
    by_cases h2 : x = y
    · rw [if_pos h2]
      exact propext ⟨fun h => absurd h (by decide), fun h => absurd h h1⟩
    · rw [if_neg h2]
      exact propext ⟨fun h => absurd h (by decide), fun h => absurd h h1⟩
theorem if_c {p q : Prop} {_ : Decidable p} {_ : Decidable q} {A B : Prop} (h : p = q) : (if p then A else B) ↔ (if q then A else B) := by
  by_cases hq : q
  · rw [if_pos hq, if_pos (h ▸ hq)]
  · rw [if_neg hq, if_neg (h ▸ hq)]
section LC
variable {o : Int} {t : Nat} {v : Value} {x y : Int64}
theorem t_Leq (hl : pm_look M.1 pc = some (.ifCond .eq o, 3, ([t], v))) : Gx X d M (pc, ls, .int (lg_cmp x y) :: st, h, c, k) r ↔ if x = y then Gx X d M (t, ls, st, h, c, k) r else Gx X d M (pc + 3, ls, st, h, c, k) r := (t_feq hl).trans (if_c (lc_eq x y))
theorem t_Lne (hl : pm_look M.1 pc = some (.ifCond .ne o, 3, ([t], v))) : Gx X d M (pc, ls, .int (lg_cmp x y) :: st, h, c, k) r ↔ if x = y then Gx X d M (pc + 3, ls, st, h, c, k) r else Gx X d M (t, ls, st, h, c, k) r := (t_fne hl).trans (if_c (lc_eq x y))
theorem t_Llt (hl : pm_look M.1 pc = some (.ifCond .lt o, 3, ([t], v))) : Gx X d M (pc, ls, .int (lg_cmp x y) :: st, h, c, k) r ↔ if x < y then Gx X d M (t, ls, st, h, c, k) r else Gx X d M (pc + 3, ls, st, h, c, k) r := (t_flt hl).trans (if_c (lc_lt x y))
theorem t_Lge (hl : pm_look M.1 pc = some (.ifCond .ge o, 3, ([t], v))) : Gx X d M (pc, ls, .int (lg_cmp x y) :: st, h, c, k) r ↔ if x < y then Gx X d M (pc + 3, ls, st, h, c, k) r else Gx X d M (t, ls, st, h, c, k) r := (t_fge hl).trans (if_c (lc_lt x y))
theorem t_Lgt (hl : pm_look M.1 pc = some (.ifCond .gt o, 3, ([t], v))) : Gx X d M (pc, ls, .int (lg_cmp x y) :: st, h, c, k) r ↔ if y < x then Gx X d M (t, ls, st, h, c, k) r else Gx X d M (pc + 3, ls, st, h, c, k) r := (t_fgt hl).trans (if_c (lc_gt x y))
theorem t_Lle (hl : pm_look M.1 pc = some (.ifCond .le o, 3, ([t], v))) : Gx X d M (pc, ls, .int (lg_cmp x y) :: st, h, c, k) r ↔ if y < x then Gx X d M (pc + 3, ls, st, h, c, k) r else Gx X d M (t, ls, st, h, c, k) r := (t_fle hl).trans (if_c (lc_gt x y))
end LC
end TE
/-! a method ends in one way alone -/
theorem pm_go_det {X : pm_X} {D : Nat → List Value} {call : Nat → List Value → pm_H → pm_R → Prop} {M : pm_M} (hc : ∀ m a h q q', call m a h q → call m a h q' → q = q') : ∀ (n n' : Nat) (s : pm_S) (r r' : pm_R), pm_go X D call M n s r → pm_go X D call M n' s r' → r = r'
  | 0, _, _, _, _, h, _ => h.elim
  | _ + 1, 0, _, _, _, _, h => h.elim
  | n + 1, n' + 1, s, r, r', h, h' => by
    obtain ⟨i, len, L, hk, h⟩ := pm_go_s h
    obtain ⟨i', len', L', hk', h'⟩ := pm_go_s h'
    rw [hk] at hk'
    cases hk'
    rcases h with ⟨k1, v, e1, rfl⟩ | ⟨k1, e, a, b, e1, -, rfl⟩ | ⟨k1, m, a, st, q, e1, e2, e3⟩ | ⟨k1, x', e1, e2⟩
    · rcases h' with ⟨k2, v', f1, rfl⟩ | ⟨k2, -⟩ | ⟨k2, -⟩ | ⟨k2, -⟩
      · rw [e1] at f1; cases f1; rfl
      · omega
      · omega
      · omega
    · rcases h' with ⟨k2, -⟩ | ⟨k2, e', a', b', f1, -, rfl⟩ | ⟨k2, -⟩ | ⟨k2, -⟩
      · omega
      · rw [e1] at f1; cases f1; rfl
      · omega
      · omega
    · rcases h' with ⟨k2, -⟩ | ⟨k2, -⟩ | ⟨k2, m', a', st', q', f1, f2, f3⟩ | ⟨k2, -⟩
      · omega
      · omega
      · rw [e1] at f1
        cases f1
        cases hc _ _ _ _ _ e2 f2
        rcases e3 with ⟨v, e4, e5⟩ | ⟨e, e4, e5⟩
        · rcases f3 with ⟨v', f4, f5⟩ | ⟨e', f4, f5⟩
          · rw [e4] at f4; cases f4; exact pm_go_det hc n n' _ _ _ e5 f5
          · rw [e4] at f4; cases f4
        · rcases f3 with ⟨v', f4, f5⟩ | ⟨e', f4, f5⟩
          · rw [e4] at f4; cases f4
          · rw [e4] at f4
            cases f4
            rcases e5 with ⟨e6, -, rfl⟩ | ⟨hp, lo, e6, e7⟩
            · rcases f5 with ⟨f6, -, rfl⟩ | ⟨hp', lo', f6, f7⟩
              · rfl
              · rw [e6] at f6; cases f6
            · rcases f5 with ⟨f6, -, rfl⟩ | ⟨hp', lo', f6, f7⟩
              · rw [e6] at f6; cases f6
              · rw [e6] at f6; cases f6; exact pm_go_det hc n n' _ _ _ e7 f7
      · omega
    · rcases h' with ⟨k2, -⟩ | ⟨k2, -⟩ | ⟨k2, -⟩ | ⟨k2, x'', f1, f2⟩
      · omega
      · omega
      · omega
      · rw [e1] at f1; cases f1; exact pm_go_det hc n n' _ _ _ e2 f2
theorem pm_Ev_det {X : pm_X} {D : Nat → List Value} {T : Nat → pm_M × Nat} : ∀ (d m : Nat) (a : List Value) (h : pm_H) (q q' : pm_R), pm_Ev X D T d m a h q → pm_Ev X D T d m a h q' → q = q'
  | 0, _, _, _, _, _, h, _ => h.elim
  | d + 1, m, a, h, q, q', ⟨_, n, h1⟩, ⟨_, n', h2⟩ => pm_go_det (fun m a h q q' => pm_Ev_det d m a h q q') n n' _ _ _ h1 h2
/-- one end is all ends -/
theorem Ex_of {X : pm_X} {d m : Nat} {a : List Value} {h : pm_H} {q0 : pm_R} (h0 : Ex X d m a h q0) : ∀ q, Ex X d m a h q ↔ q = q0 := fun q => ⟨fun hq => pm_Ev_det d m a h q q0 hq h0, fun e => e ▸ h0⟩
