/-! .. contracts, put in at calls -/
def eb : Nat → Int32 := fun i => match i with
  | 1 => 1
  | 2 => 8
  | 3 => 16
  | 4 => 32
  | 5 => 64
  | 6 => 64
  | _ => 0
theorem and_t {p B : Prop} (h : p) : (p ∧ B) ↔ B := ⟨fun z => z.2, fun z => ⟨h, z⟩⟩
/-- of an answer that may fail -/
def om {α : Type} (o : Option α) (f : α → Prop) (g : Prop) : Prop := match o with
  | some v => f v
  | none => g
theorem ex_o {α : Type} {o : Option α} {P : α → pm_R → Prop} {Q K : pm_R → Prop} : (∃ q, om o (fun v => P v q) (Q q) ∧ K q) ↔ om o (fun v => ∃ q, P v q ∧ K q) (∃ q, Q q ∧ K q) := by
  cases o <;> exact Iff.rfl
theorem cgo {α : Type} {C : Prop} {o : Option α} {A A' : α → Prop} {B B' : Prop} (h0 : C ↔ om o A B) (h1 : ∀ v, A v ↔ A' v) (h2 : B ↔ B') : C ↔ om o A' B' := by
  refine h0.trans ?_
  cases o with
  | some v => exact h1 v
  | none => exact h2
/-- the words of the class's message -/
def cw (J : st_J) : Nat → Nat → Int64 := fun s k => match s with
  | 0 => J 3 k
  | 1 => J 4 k
  | 2 => J 5 k
  | _ => J 6 k
theorem bzT {p : Prop} {dp : Decidable p} (h : p) : ¬ bz p = 0 := by rw [bz_t h]; decide
theorem bzF {p : Prop} {dp : Decidable p} (h : ¬ p) : bz p = 0 := bz_f h
theorem bzT1 {p : Prop} {dp : Decidable p} (h : p) : bz p = 1 := bz_t h
theorem bzF1 {p : Prop} {dp : Decidable p} (h : ¬ p) : ¬ bz p = 1 := by rw [bz_f h]; decide
theorem tr_a {A : Prop} : A ↔ True ∧ A := ⟨fun h => ⟨trivial, h⟩, fun h => h.2⟩
section CG
variable {p A B C A' B' : Prop} {dp : Decidable p} {r : pm_R} {hh : pm_H} {cc kk : Nat}
theorem cgd (h0 : C ↔ if p then A else B) (h1 : p → (A ↔ A')) (h2 : ¬ p → (B ↔ B')) : C ↔ if p then A' else B' := by
  refine h0.trans ?_
  by_cases hp : p
  · rw [if_pos hp, if_pos hp]; exact h1 hp
  · rw [if_neg hp, if_neg hp]; exact h2 hp
theorem cgT (h0 : C ↔ if p then A else B) (hp : p) (h1 : A ↔ A') : C ↔ A' := by
  refine h0.trans ?_
  rw [if_pos hp]; exact h1
theorem cgF (h0 : C ↔ if p then A else B) (hp : ¬ p) (h1 : B ↔ B') : C ↔ B' := by
  refine h0.trans ?_
  rw [if_neg hp]; exact h1
theorem cgB (h0 : C ↔ if bz p = 0 then A else B) : C ↔ if p then B else A := by
  refine h0.trans ?_
  by_cases hp : p
  · rw [if_pos hp, if_neg (bzT hp)]
  · rw [if_neg hp, if_pos (bzF hp)]
theorem cgN {q : Decidable (¬ p)} (h0 : C ↔ @ite _ (¬ p) q A B) : C ↔ if p then B else A := by
  refine h0.trans ?_
  by_cases hp : p
  · rw [if_pos hp, if_neg (fun z => z hp)]
  · rw [if_neg hp, if_pos hp]
theorem cgBN {q : Decidable (¬ p)} (h0 : C ↔ if @bz (¬ p) q = 0 then A else B) : C ↔ if p then A else B := by
  refine h0.trans ?_
  by_cases hp : p
  · rw [if_pos hp, if_pos (bzF (fun z => z hp))]
  · rw [if_neg hp, if_neg (bzT hp)]
theorem drgI {x y z : Int32} (h0 : C ↔ if p then A else B) (e : (if p then x else y) = z) (h1 : p → (A ↔ r = (.inl (some (.int x)), hh, cc, kk))) (h2 : ¬ p → (B ↔ r = (.inl (some (.int y)), hh, cc, kk))) : C ↔ r = (.inl (some (.int z)), hh, cc, kk) := by
  subst e
  refine h0.trans ?_
  by_cases hp : p
  · rw [if_pos hp, if_pos hp]; exact h1 hp
  · rw [if_neg hp, if_neg hp]; exact h2 hp
theorem drgJ {x y : Int64} (h0 : C ↔ if p then A else B) (h1 : p → (A ↔ r = (.inl (some (.long x)), hh, cc, kk))) (h2 : ¬ p → (B ↔ r = (.inl (some (.long y)), hh, cc, kk))) : C ↔ r = (.inl (some (.long (if p then x else y))), hh, cc, kk) := by
  refine h0.trans ?_
  by_cases hp : p
  · rw [if_pos hp, if_pos hp]; exact h1 hp
  · rw [if_neg hp, if_neg hp]; exact h2 hp
theorem drgD {x y : UInt64} (h0 : C ↔ if p then A else B) (h1 : p → (A ↔ r = (.inl (some (.double x)), hh, cc, kk))) (h2 : ¬ p → (B ↔ r = (.inl (some (.double y)), hh, cc, kk))) : C ↔ r = (.inl (some (.double (if p then x else y))), hh, cc, kk) := by
  refine h0.trans ?_
  by_cases hp : p
  · rw [if_pos hp, if_pos hp]; exact h1 hp
  · rw [if_neg hp, if_neg hp]; exact h2 hp
theorem rk_ {a b R R1 R2 : Prop} (h0 : C ↔ if p then A else B) (h1 : p → (A ↔ a ∧ R1)) (h2 : ¬ p → (B ↔ b ∧ R2)) (e1 : p → R1 = R) (e2 : ¬ p → R2 = R) : C ↔ ((p → a) ∧ (¬ p → b)) ∧ R := by
  refine h0.trans ?_
  by_cases hp : p
  · rw [if_pos hp, h1 hp, e1 hp]
    exact ⟨fun h => ⟨⟨fun _ => h.1, fun n => absurd hp n⟩, h.2⟩, fun h => ⟨h.1.1 hp, h.2⟩⟩
  · rw [if_neg hp, h2 hp, e2 hp]
    exact ⟨fun h => ⟨⟨fun n => absurd n hp, fun _ => h.1⟩, h.2⟩, fun h => ⟨h.1.2 hp, h.2⟩⟩
theorem rkp_ {a R R1 R2 : Prop} (h0 : C ↔ if p then A else B) (h1 : p → (A ↔ a ∧ R1)) (h2 : ¬ p → (B ↔ R2)) (e1 : p → R1 = R) (e2 : ¬ p → R2 = R) : C ↔ (p → a) ∧ R := by
  refine h0.trans ?_
  by_cases hp : p
  · rw [if_pos hp, h1 hp, e1 hp]
    exact ⟨fun h => ⟨fun _ => h.1, h.2⟩, fun h => ⟨h.1 hp, h.2⟩⟩
  · rw [if_neg hp, h2 hp, e2 hp]
    exact ⟨fun h => ⟨fun n => absurd n hp, h⟩, fun h => h.2⟩
theorem rkn_ {b R R1 R2 : Prop} (h0 : C ↔ if p then A else B) (h1 : p → (A ↔ R1)) (h2 : ¬ p → (B ↔ b ∧ R2)) (e1 : p → R1 = R) (e2 : ¬ p → R2 = R) : C ↔ (¬ p → b) ∧ R := by
  refine h0.trans ?_
  by_cases hp : p
  · rw [if_pos hp, h1 hp, e1 hp]
    exact ⟨fun h => ⟨fun n => absurd hp n, h⟩, fun h => h.2⟩
  · rw [if_neg hp, h2 hp, e2 hp]
    exact ⟨fun h => ⟨fun _ => h.1, h.2⟩, fun h => ⟨h.1 hp, h.2⟩⟩
theorem rkI {a b : Prop} {x y z : Int32} (h0 : C ↔ if p then A else B) (e : (if p then x else y) = z) (h1 : p → (A ↔ a ∧ r = (.inl (some (.int x)), hh, cc, kk))) (h2 : ¬ p → (B ↔ b ∧ r = (.inl (some (.int y)), hh, cc, kk))) : C ↔ ((p → a) ∧ (¬ p → b)) ∧ r = (.inl (some (.int z)), hh, cc, kk) :=
  rk_ h0 h1 h2 (fun hp => by rw [← e, if_pos hp]) (fun hp => by rw [← e, if_neg hp])
theorem rkJ {a b : Prop} {x y : Int64} (h0 : C ↔ if p then A else B) (h1 : p → (A ↔ a ∧ r = (.inl (some (.long x)), hh, cc, kk))) (h2 : ¬ p → (B ↔ b ∧ r = (.inl (some (.long y)), hh, cc, kk))) : C ↔ ((p → a) ∧ (¬ p → b)) ∧ r = (.inl (some (.long (if p then x else y))), hh, cc, kk) :=
  rk_ h0 h1 h2 (fun hp => by rw [if_pos hp]) (fun hp => by rw [if_neg hp])
theorem rkD {a b : Prop} {x y : UInt64} (h0 : C ↔ if p then A else B) (h1 : p → (A ↔ a ∧ r = (.inl (some (.double x)), hh, cc, kk))) (h2 : ¬ p → (B ↔ b ∧ r = (.inl (some (.double y)), hh, cc, kk))) : C ↔ ((p → a) ∧ (¬ p → b)) ∧ r = (.inl (some (.double (if p then x else y))), hh, cc, kk) :=
  rk_ h0 h1 h2 (fun hp => by rw [if_pos hp]) (fun hp => by rw [if_neg hp])
theorem rkpI {a : Prop} {x y z : Int32} (h0 : C ↔ if p then A else B) (e : (if p then x else y) = z) (h1 : p → (A ↔ a ∧ r = (.inl (some (.int x)), hh, cc, kk))) (h2 : ¬ p → (B ↔ r = (.inl (some (.int y)), hh, cc, kk))) : C ↔ (p → a) ∧ r = (.inl (some (.int z)), hh, cc, kk) :=
  rkp_ h0 h1 h2 (fun hp => by rw [← e, if_pos hp]) (fun hp => by rw [← e, if_neg hp])
theorem rkpJ {a : Prop} {x y : Int64} (h0 : C ↔ if p then A else B) (h1 : p → (A ↔ a ∧ r = (.inl (some (.long x)), hh, cc, kk))) (h2 : ¬ p → (B ↔ r = (.inl (some (.long y)), hh, cc, kk))) : C ↔ (p → a) ∧ r = (.inl (some (.long (if p then x else y))), hh, cc, kk) :=
  rkp_ h0 h1 h2 (fun hp => by rw [if_pos hp]) (fun hp => by rw [if_neg hp])
theorem rkpD {a : Prop} {x y : UInt64} (h0 : C ↔ if p then A else B) (h1 : p → (A ↔ a ∧ r = (.inl (some (.double x)), hh, cc, kk))) (h2 : ¬ p → (B ↔ r = (.inl (some (.double y)), hh, cc, kk))) : C ↔ (p → a) ∧ r = (.inl (some (.double (if p then x else y))), hh, cc, kk) :=
  rkp_ h0 h1 h2 (fun hp => by rw [if_pos hp]) (fun hp => by rw [if_neg hp])
theorem rknI {b : Prop} {x y z : Int32} (h0 : C ↔ if p then A else B) (e : (if p then x else y) = z) (h1 : p → (A ↔ r = (.inl (some (.int x)), hh, cc, kk))) (h2 : ¬ p → (B ↔ b ∧ r = (.inl (some (.int y)), hh, cc, kk))) : C ↔ (¬ p → b) ∧ r = (.inl (some (.int z)), hh, cc, kk) :=
  rkn_ h0 h1 h2 (fun hp => by rw [← e, if_pos hp]) (fun hp => by rw [← e, if_neg hp])
theorem rknJ {b : Prop} {x y : Int64} (h0 : C ↔ if p then A else B) (h1 : p → (A ↔ r = (.inl (some (.long x)), hh, cc, kk))) (h2 : ¬ p → (B ↔ b ∧ r = (.inl (some (.long y)), hh, cc, kk))) : C ↔ (¬ p → b) ∧ r = (.inl (some (.long (if p then x else y))), hh, cc, kk) :=
  rkn_ h0 h1 h2 (fun hp => by rw [if_pos hp]) (fun hp => by rw [if_neg hp])
theorem rknD {b : Prop} {x y : UInt64} (h0 : C ↔ if p then A else B) (h1 : p → (A ↔ r = (.inl (some (.double x)), hh, cc, kk))) (h2 : ¬ p → (B ↔ b ∧ r = (.inl (some (.double y)), hh, cc, kk))) : C ↔ (¬ p → b) ∧ r = (.inl (some (.double (if p then x else y))), hh, cc, kk) :=
  rkn_ h0 h1 h2 (fun hp => by rw [if_pos hp]) (fun hp => by rw [if_neg hp])
end CG
theorem clS {b : Nat} (h : st_isS b = true) : st_cls b 7 = true := h
theorem clL {b : Nat} (h : st_isL b = true) : st_cls b 6 = true := h
theorem clO {b : Nat} (h : st_isO b = true) : st_cls b 8 = true := h
theorem siW1 {i : Int32} (h : pm_in i 4 = true) : st_aJ (3 + i.toNatClampNeg) = some 64 := by
  have e := siW h
  rw [Nat.one_mul] at e
  exact e
theorem siS1 {i : Int32} (h : pm_in i 16 = true) : st_isS (150 + i.toNatClampNeg) = true := by
  have e := siS h
  rw [Nat.one_mul] at e
  exact e
section EX
variable {X : pm_X} {d : Nat} {M : pm_M} {pc : Nat} {ls : pm_V} {st : List Value} {h : pm_H} {c k : Nat} {r : pm_R} {I : st_I} {J : st_J} {p : Prop} {dp : Decidable p}
theorem t_lR1 {L : pm_L} {a n b : Nat} {i : Int32} (hl : pm_look M.1 pc = some (.aaload, 1, L)) (ha : st_aR a = some (n, b, 1)) : Gx X d M (pc, ls, .int i :: .ref a :: st, st_h I J, c, k) r ↔ pm_in i n = true ∧ Gx X d M (pc + 1, ls, .ref (b + i.toNatClampNeg) :: st, st_h I J, c, k) r := by
  have e := t_lR (X := X) (d := d) (r := r) (I := I) (J := J) (ls := ls) (st := st) (c := c) (k := k) (i := i) hl ha
  rw [Nat.one_mul] at e
  exact e
theorem t_cQ {w m n : Nat} {v : Value} {a st' : List Value} {P : pm_R → Prop} (hl : pm_look M.1 pc = some (.invokestatic w, 3, ([m, n, 0, 0], v))) (ha : pm_args n [] st = some (a, st')) (hw : Nat.ble (pm_wt st') 8 = true) (hq : ∀ q, Ex X d m a h q ↔ P q) : Gx X d M (pc, ls, st, h, c, k) r ↔ ∃ q, P q ∧ Kx X d M pc ls st' c k r q := by
  have e : pm_call h ls ([m, n, 0, 0], v) st = some (m, a, st') := by
    show (match pm_args n [] st with
      | some (a, r) => bif Nat.ble (pm_wt r) 8 && ((Nat.beq 0 0 || pm_cl h ls r) && pm_rcv h 0 a) then some (m, a, r) else none
      | none => none) = _
    rw [ha]
    show (bif Nat.ble (pm_wt st') 8 && _ then some (m, a, st') else none) = _
    rw [hw]
    rfl
  refine (t_ca hl rfl e).trans ?_
  exact ⟨fun ⟨q, h1, h2⟩ => ⟨q, (hq q).mp h1, h2⟩, fun ⟨q, h1, h2⟩ => ⟨q, (hq q).mpr h1, h2⟩⟩
theorem t_cW {w m n ci b : Nat} {v : Value} {a st' : List Value} {P : pm_R → Prop} (hl : pm_look M.1 pc = some (.invokevirtual w, 3, ([m, n, 0, ci + 1], v))) (ha : pm_args n [] st = some (.ref b :: a, st')) (hw : Nat.ble (pm_wt st') 8 = true) (hb : st_cls b ci = true) (hq : ∀ q, Ex X d m (.ref b :: a) (st_h I J) q ↔ P q) : Gx X d M (pc, ls, st, st_h I J, c, k) r ↔ ∃ q, P q ∧ Kx X d M pc ls st' c k r q := by
  have e : pm_call (st_h I J) ls ([m, n, 0, ci + 1], v) st = some (m, .ref b :: a, st') := by
    show (match pm_args n [] st with
      | some (a, r) => bif Nat.ble (pm_wt r) 8 && ((Nat.beq 0 0 || pm_cl (st_h I J) ls r) && pm_rcv (st_h I J) (ci + 1) a) then some (m, a, r) else none
      | none => none) = _
    rw [ha]
    show (bif Nat.ble (pm_wt st') 8 && (_ && pm_isO (st_h I J) b ci) then some (m, .ref b :: a, st') else none) = _
    rw [hw, st_cls_c hb]
    rfl
  refine (t_ca hl rfl e).trans ?_
  exact ⟨fun ⟨q, h1, h2⟩ => ⟨q, (hq q).mp h1, h2⟩, fun ⟨q, h1, h2⟩ => ⟨q, (hq q).mpr h1, h2⟩⟩
theorem ex_q {q0 : pm_R} : (∃ q, q = q0 ∧ Kx X d M pc ls st c k r q) ↔ Kx X d M pc ls st c k r q0 := ⟨fun ⟨q, e, h⟩ => e ▸ h, fun h => ⟨q0, rfl, h⟩⟩
theorem ex_x {co : List (Nat × Instr × Nat × pm_L)} {e c1 k1 : Nat} : (∃ q, q = (.inr e, h, c1, k1) ∧ Kx X d (co, []) pc ls st c k r q) ↔ r = (.inr e, h, c + c1, k + k1) := ex_q.trans (Iff.of_eq K_x)
theorem ex_h {e c1 k1 hp lo : Nat} (hc : pm_catch M.2 pc e = some (hp, lo)) : (∃ q, q = (.inr e, h, c1, k1) ∧ Kx X d M pc ls st c k r q) ↔ Gx X d M (hp, (pm_clr ls lo).set lo none, [], h, c + c1, k + k1) r := ex_q.trans (Iff.of_eq (K_h hc))
theorem ex_i {P1 P2 K : pm_R → Prop} : (∃ q, (if p then P1 q else P2 q) ∧ K q) ↔ if p then (∃ q, P1 q ∧ K q) else (∃ q, P2 q ∧ K q) := by
  by_cases hp : p
  · rw [if_pos hp]
    exact ⟨fun ⟨q, h1, h2⟩ => ⟨q, by rw [if_pos hp] at h1; exact h1, h2⟩, fun ⟨q, h1, h2⟩ => ⟨q, by rw [if_pos hp]; exact h1, h2⟩⟩
  · rw [if_neg hp]
    exact ⟨fun ⟨q, h1, h2⟩ => ⟨q, by rw [if_neg hp] at h1; exact h1, h2⟩, fun ⟨q, h1, h2⟩ => ⟨q, by rw [if_neg hp]; exact h1, h2⟩⟩
theorem ex_a {C : Prop} {P K : pm_R → Prop} : (∃ q, (C ∧ P q) ∧ K q) ↔ C ∧ ∃ q, P q ∧ K q := ⟨fun ⟨q, ⟨h1, h2⟩, h3⟩ => ⟨h1, q, h2, h3⟩, fun ⟨h1, q, h2, h3⟩ => ⟨q, ⟨h1, h2⟩, h3⟩⟩
/-! doubles; switches -/
variable {L : pm_L} {x y : UInt64}
theorem t_opt0 {i : Instr} {len : Nat} {o : Option pm_S} (hl : pm_look M.1 pc = some (i, len, L)) (hk : pm_kind i L = 0) (hs : pm_step X pc_Dv i len L (pc, ls, st, h, c, k) = o) : Gx X d M (pc, ls, st, h, c, k) r ↔ ∃ s', o = some s' ∧ Gx X d M s' r := by
  subst hs
  constructor
  · rintro ⟨n, hn⟩
    cases n with
    | zero => exact hn.elim
    | succ n =>
      have hn : (match pm_look M.1 pc with
        | none => False
        | some (i, len, L) => _) := hn
      rw [hl] at hn
      dsimp only at hn
      rw [hk] at hn
      have hn : (match pm_step X pc_Dv i len L (pc, ls, st, h, c, k) with
        | none => False
        | some s' => pm_go X pc_Dv (pm_Ev X pc_Dv (pm_T pc_MI) d) M n s' r) := hn
      split at hn
      · exact hn.elim
      · rename_i s' e
        exact ⟨s', e, n, hn⟩
  · rintro ⟨s', e, hg⟩
    exact (t_step hl (Or.inl hk) e).mpr hg
theorem t_bif0 {i : Instr} {len : Nat} {b : Bool} {s' : pm_S} (hl : pm_look M.1 pc = some (i, len, L)) (hk : pm_kind i L = 0) (hs : pm_step X pc_Dv i len L (pc, ls, st, h, c, k) = bif b then some s' else none) : Gx X d M (pc, ls, st, h, c, k) r ↔ b = true ∧ Gx X d M s' r := by
  refine (t_opt0 hl hk hs).trans ?_
  cases b with
  | true => exact ⟨fun ⟨s, e, g⟩ => ⟨rfl, by cases e; exact g⟩, fun ⟨_, g⟩ => ⟨s', rfl, g⟩⟩
  | false => exact ⟨fun ⟨s, e, g⟩ => (by cases e), fun ⟨e, _⟩ => (by cases e)⟩
theorem t_k0 {i : Instr} {len : Nat} (hk : pm_kind i L = 0) : pm_step X pc_Dv i len L (pc, ls, st, h, c, k) = pm_on pc len ls h c k (pm_op i st) := by
  unfold pm_step
  rw [hk]
  rfl
theorem t_d2 (f : UInt64 → UInt64 → UInt64) {i : Instr} (hl : pm_look M.1 pc = some (i, 1, L)) (hk : pm_kind i L = 0) (hf : pm_op i = pm_d2c f) : Gx X d M (pc, ls, .double y :: .double x :: st, h, c, k) r ↔ pm_n64 (f x y) = true ∧ Gx X d M (pc + 1, ls, .double (f x y) :: st, h, c, k) r := by
  refine t_bif0 hl hk ?_
  rw [t_k0 hk, hf]
  exact pm_mapb _ _ _
theorem t_df (hl : pm_look M.1 pc = some (.d2f, 1, L)) : Gx X d M (pc, ls, .double x :: st, h, c, k) r ↔ pm_n32 (FP.d2f x) = true ∧ Gx X d M (pc + 1, ls, .float (FP.d2f x) :: st, h, c, k) r := by
  refine t_bif0 hl rfl ?_
  rw [t_k0 rfl]
  exact pm_mapb _ _ _
theorem t_fd {x : UInt32} (hl : pm_look M.1 pc = some (.f2d, 1, L)) : Gx X d M (pc, ls, .float x :: st, h, c, k) r ↔ pm_n64 (FP.f2d x) = true ∧ Gx X d M (pc + 1, ls, .double (FP.f2d x) :: st, h, c, k) r := by
  refine t_bif0 hl rfl ?_
  rw [t_k0 rfl]
  exact pm_mapb _ _ _
def swp (x : Int32) (lo : Int) (ts : List Nat) (dd : Nat) : Nat := bif decide (x.toInt < lo) then dd else ts.getD (x.toInt - lo).toNat dd
theorem t_sx {df lo hi : Int} {offs : Array Int} {len dd : Nat} {ts : List Nat} {v : Value} {x : Int32} (hl : pm_look M.1 pc = some (.tableswitch df lo hi offs, len, (dd :: ts, v))) : Gx X d M (pc, ls, .int x :: st, h, c, k) r ↔ Gx X d M (swp x lo ts dd, ls, st, h, c, k) r := t_sw hl
theorem t_s0 {x : Int32} {lo : Int} {dd : Nat} : Gx X d M (swp x lo [] dd, ls, st, h, c, k) r ↔ Gx X d M (dd, ls, st, h, c, k) r := by
  have e : swp x lo [] dd = dd := by
    unfold swp
    cases decide (x.toInt < lo) <;> rfl
  rw [e]
theorem t_s1 {x n : Int32} {lo : Int} {dd t : Nat} {ts : List Nat} (hn : n.toInt = lo) : Gx X d M (swp x lo (t :: ts) dd, ls, st, h, c, k) r ↔ if x = n then Gx X d M (t, ls, st, h, c, k) r else Gx X d M (swp x (lo + 1) ts dd, ls, st, h, c, k) r := by
  by_cases hx : x = n
  · subst hx
    rw [if_pos rfl]
    have e : swp x lo (t :: ts) dd = t := by
      unfold swp
      rw [hn, decide_eq_false (by omega), Int.sub_self]
      rfl
    rw [e]
  · rw [if_neg hx]
    have hne : x.toInt ≠ lo := fun h => hx (Int32.toInt_inj.mp (h.trans hn.symm))
    have e : swp x lo (t :: ts) dd = swp x (lo + 1) ts dd := by
      unfold swp
      by_cases h1 : x.toInt < lo
      · rw [decide_eq_true h1, decide_eq_true (by omega)]
        rfl
      · rw [decide_eq_false h1, decide_eq_false (by omega)]
        obtain ⟨m, hm⟩ : ∃ m : Nat, (x.toInt - lo).toNat = m + 1 := ⟨(x.toInt - lo).toNat - 1, by omega⟩
        rw [hm, show (x.toInt - (lo + 1)).toNat = m by omega]
        rfl
    rw [e]
end EX
