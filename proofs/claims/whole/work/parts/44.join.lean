/-! .. joins, truths as ints, names of shifts -/
def bz (p : Prop) [Decidable p] : Int32 := if p then 1 else 0
theorem bz_t {p : Prop} [Decidable p] (h : p) : bz p = 1 := if_pos h
theorem bz_f {p : Prop} [Decidable p] (h : ¬ p) : bz p = 0 := if_neg h
theorem bz_0 {p : Prop} [Decidable p] : (bz p = 0) = ¬ p := by
  by_cases h : p
  · rw [bz_t h]; exact propext ⟨fun e => absurd e (by decide), fun e => absurd h e⟩
  · rw [bz_f h]; exact propext ⟨fun _ => h, fun _ => rfl⟩
theorem bz_1 {p : Prop} [Decidable p] : (bz p = 1) = p := by
  by_cases h : p
  · rw [bz_t h]; exact propext ⟨fun _ => h, fun _ => rfl⟩
  · rw [bz_f h]; exact propext ⟨fun e => absurd e (by decide), fun e => absurd e h⟩
theorem bz_01 {p : Prop} [Decidable p] : bz p = 0 ∨ bz p = 1 := by
  by_cases h : p
  · exact Or.inr (bz_t h)
  · exact Or.inl (bz_f h)
theorem bz_fit {p : Prop} [Decidable p] : pm_fit 4 (.int (bz p)) = true := by
  by_cases h : p
  · rw [bz_t h]; rfl
  · rw [bz_f h]; rfl
/-! how a join's value is written: of the condition p, what stands on both sides -/
section BZ
variable {p a b : Prop} {dp : Decidable p} {da : Decidable a} {db : Decidable b}
theorem bj_10 : (if p then (1 : Int32) else 0) = bz p := rfl
theorem bj_01 : (if p then (0 : Int32) else 1) = bz (¬ p) := by
  by_cases h : p
  · rw [if_pos h, bz_f (fun z => z h)]
  · rw [if_neg h, bz_t h]
theorem bj_1b : (if p then (1 : Int32) else bz b) = bz (p ∨ b) := by
  by_cases h : p
  · rw [if_pos h, bz_t (Or.inl h)]
  · rw [if_neg h]
    by_cases hb : b
    · rw [bz_t hb, bz_t (Or.inr hb)]
    · rw [bz_f hb, bz_f (fun z => z.elim h hb)]
theorem bj_0b : (if p then (0 : Int32) else bz b) = bz (¬ p ∧ b) := by
  by_cases h : p
  · rw [if_pos h, bz_f (fun z => z.1 h)]
  · rw [if_neg h]
    by_cases hb : b
    · rw [bz_t hb, bz_t ⟨h, hb⟩]
    · rw [bz_f hb, bz_f (fun z => hb z.2)]
theorem bj_b0 : (if p then bz a else (0 : Int32)) = bz (p ∧ a) := by
  by_cases h : p
  · rw [if_pos h]
    by_cases hb : a
    · rw [bz_t hb, bz_t ⟨h, hb⟩]
    · rw [bz_f hb, bz_f (fun z => hb z.2)]
  · rw [if_neg h, bz_f (fun z => h z.1)]
theorem bj_b1 : (if p then bz a else (1 : Int32)) = bz (¬ p ∨ a) := by
  by_cases h : p
  · rw [if_pos h]
    by_cases hb : a
    · rw [bz_t hb, bz_t (Or.inr hb)]
    · rw [bz_f hb, bz_f (fun z => z.elim (fun z => z h) hb)]
  · rw [if_neg h, bz_t (Or.inl h)]
theorem bj_bb : (if p then bz a else bz b) = bz ((p ∧ a) ∨ (¬ p ∧ b)) := by
  by_cases h : p
  · rw [if_pos h]
    by_cases hb : a
    · rw [bz_t hb, bz_t (Or.inl ⟨h, hb⟩)]
    · rw [bz_f hb, bz_f (fun z => z.elim (fun z => hb z.2) (fun z => z.1 h))]
  · rw [if_neg h]
    by_cases hb : b
    · rw [bz_t hb, bz_t (Or.inr ⟨h, hb⟩)]
    · rw [bz_f hb, bz_f (fun z => z.elim (fun z => h z.1) (fun z => hb z.2))]
theorem bj_11 : (if p then (1 : Int32) else 1) = 1 := by
  by_cases h : p
  · rw [if_pos h]
  · rw [if_neg h]
theorem bj_00 : (if p then (0 : Int32) else 0) = 0 := by
  by_cases h : p
  · rw [if_pos h]
  · rw [if_neg h]
end BZ
section JN
variable {X : pm_X} {d : Nat} {M : pm_M} {pc : Nat} {ls : pm_V} {st : List Value} {h : pm_H} {c k : Nat} {r : pm_R} {p : Prop} {dp : Decidable p} {A B C : Prop}
theorem mgI {x y z : Int32} (h0 : A ↔ if p then B else C) (e : (if p then x else y) = z) (h1 : B ↔ Gx X d M (pc, ls, .int x :: st, h, c, k) r) (h2 : C ↔ Gx X d M (pc, ls, .int y :: st, h, c, k) r) : A ↔ Gx X d M (pc, ls, .int z :: st, h, c, k) r := by
  subst e
  refine h0.trans ?_
  by_cases hp : p
  · rw [if_pos hp, if_pos hp]; exact h1
  · rw [if_neg hp, if_neg hp]; exact h2
theorem mgJ {x y : Int64} (h0 : A ↔ if p then B else C) (h1 : B ↔ Gx X d M (pc, ls, .long x :: st, h, c, k) r) (h2 : C ↔ Gx X d M (pc, ls, .long y :: st, h, c, k) r) : A ↔ Gx X d M (pc, ls, .long (if p then x else y) :: st, h, c, k) r := by
  refine h0.trans ?_
  by_cases hp : p
  · rw [if_pos hp, if_pos hp]; exact h1
  · rw [if_neg hp, if_neg hp]; exact h2
theorem mgD {x y : UInt64} (h0 : A ↔ if p then B else C) (h1 : B ↔ Gx X d M (pc, ls, .double x :: st, h, c, k) r) (h2 : C ↔ Gx X d M (pc, ls, .double y :: st, h, c, k) r) : A ↔ Gx X d M (pc, ls, .double (if p then x else y) :: st, h, c, k) r := by
  refine h0.trans ?_
  by_cases hp : p
  · rw [if_pos hp, if_pos hp]; exact h1
  · rw [if_neg hp, if_neg hp]; exact h2
theorem cg {A' B' : Prop} (h0 : C ↔ if p then A else B) (h1 : A ↔ A') (h2 : B ↔ B') : C ↔ if p then A' else B' := by
  refine h0.trans ?_
  by_cases hp : p
  · rw [if_pos hp, if_pos hp]; exact h1
  · rw [if_neg hp, if_neg hp]; exact h2
/-- returns of both sides are one return -/
theorem rgI {x y z : Int32} {hh : pm_H} {cc kk : Nat} (h0 : C ↔ if p then A else B) (e : (if p then x else y) = z) (h1 : A ↔ r = (.inl (some (.int x)), hh, cc, kk)) (h2 : B ↔ r = (.inl (some (.int y)), hh, cc, kk)) : C ↔ r = (.inl (some (.int z)), hh, cc, kk) := by
  subst e
  refine h0.trans ?_
  by_cases hp : p
  · rw [if_pos hp, if_pos hp]; exact h1
  · rw [if_neg hp, if_neg hp]; exact h2
theorem rgJ {x y : Int64} {hh : pm_H} {cc kk : Nat} (h0 : C ↔ if p then A else B) (h1 : A ↔ r = (.inl (some (.long x)), hh, cc, kk)) (h2 : B ↔ r = (.inl (some (.long y)), hh, cc, kk)) : C ↔ r = (.inl (some (.long (if p then x else y))), hh, cc, kk) := by
  refine h0.trans ?_
  by_cases hp : p
  · rw [if_pos hp, if_pos hp]; exact h1
  · rw [if_neg hp, if_neg hp]; exact h2
theorem rgD {x y : UInt64} {hh : pm_H} {cc kk : Nat} (h0 : C ↔ if p then A else B) (h1 : A ↔ r = (.inl (some (.double x)), hh, cc, kk)) (h2 : B ↔ r = (.inl (some (.double y)), hh, cc, kk)) : C ↔ r = (.inl (some (.double (if p then x else y))), hh, cc, kk) := by
  refine h0.trans ?_
  by_cases hp : p
  · rw [if_pos hp, if_pos hp]; exact h1
  · rw [if_neg hp, if_neg hp]; exact h2
theorem rz {x : Int32} {B : Prop} (h0 : C ↔ (x = 0 ∨ x = 1) ∧ B) (hx : x = 0 ∨ x = 1) : C ↔ B := h0.trans ⟨fun h => h.2, fun h => ⟨hx, h⟩⟩
variable {o : Int} {t : Nat} {v : Value}
theorem t_bne (hl : pm_look M.1 pc = some (.ifCond .ne o, 3, ([t], v))) : Gx X d M (pc, ls, .int (bz p) :: st, h, c, k) r ↔ if p then Gx X d M (t, ls, st, h, c, k) r else Gx X d M (pc + 3, ls, st, h, c, k) r := by
  refine (t_fne hl).trans ?_
  by_cases hp : p
  · rw [if_pos hp, if_neg (by rw [bz_t hp]; decide)]
  · rw [if_neg hp, if_pos (bz_f hp)]
theorem t_beq (hl : pm_look M.1 pc = some (.ifCond .eq o, 3, ([t], v))) : Gx X d M (pc, ls, .int (bz p) :: st, h, c, k) r ↔ if p then Gx X d M (pc + 3, ls, st, h, c, k) r else Gx X d M (t, ls, st, h, c, k) r := by
  refine (t_feq hl).trans ?_
  by_cases hp : p
  · rw [if_pos hp, if_neg (by rw [bz_t hp]; decide)]
  · rw [if_neg hp, if_pos (bz_f hp)]
end JN
/-! shifts, by their names -/
def il (x y : Int32) : Int32 := x <<< (y &&& 31)
def ir (x y : Int32) : Int32 := x >>> (y &&& 31)
def iu (x y : Int32) : Int32 := (x.toUInt32 >>> (y.toUInt32 &&& Int32.toUInt32 31)).toInt32
def irm (x y : Int32) : Int32 := x - x / y * y
def jl (x : Int64) (y : Int32) : Int64 := x <<< (y.toInt64 &&& 63)
def jr (x : Int64) (y : Int32) : Int64 := x >>> (y.toInt64 &&& 63)
def ju (x : Int64) (y : Int32) : Int64 := (x.toUInt64 >>> (y.toInt64.toUInt64 &&& Int64.toUInt64 63)).toInt64
def jrm (x y : Int64) : Int64 := x - x / y * y
/-! what stands at a place that is not known by its number -/
theorem sfS {a f : Nat} (h : st_isS a = true) (hf : Nat.ble f 8 = true) : st_fI a 7 f = true := by show (st_isS a && Nat.ble f 8) = true; rw [h, hf]; rfl
theorem sfL {a f : Nat} (h : st_isL a = true) (h1 : Nat.ble 1 f = true) (h7 : Nat.ble f 7 = true) : st_fI a 6 f = true := by show (st_isL a && (Nat.ble 1 f && Nat.ble f 7)) = true; rw [h, h1, h7]; rfl
theorem sfO {a : Nat} (h : st_isO a = true) : st_fI a 8 1 = true := by show (st_isO a && Nat.beq 1 1) = true; rw [h]; rfl
theorem srL {a : Nat} (h : st_isL a = true) : st_fR a 6 0 = some (a + 1) := by show (bif st_isL a && Nat.beq 0 0 then some (a + 1) else none) = _; rw [h]; rfl
theorem srO {a : Nat} (h : st_isO a = true) : st_fR a 8 0 = some (a + 1) := by show (bif st_isO a && Nat.beq 0 0 then some (a + 1) else none) = _; rw [h]; rfl
theorem saO {a : Nat} (h : st_isO a = true) : st_aB (a + 1) = some 1500 := by rcases st_isO_c h with rfl | rfl <;> rfl
theorem siW {i : Int32} (h : pm_in i 4 = true) : st_aJ (3 + 1 * i.toNatClampNeg) = some 64 := by
  have h := (pm_in_c h).2
  generalize i.toNatClampNeg = n at h
  match n, h with
  | 0, _ => rfl
  | 1, _ => rfl
  | 2, _ => rfl
  | 3, _ => rfl
  | n + 4, h => exact absurd h (by omega)
theorem siL {i : Int32} (h : pm_in i 65 = true) : st_isL (15 + 2 * i.toNatClampNeg) = true := by
  have h := (pm_in_c h).2
  generalize i.toNatClampNeg = n at h
  unfold st_isL
  rw [Nat.ble_eq_true_of_le (show 15 ≤ 15 + 2 * n by omega), Nat.ble_eq_true_of_le (show 15 + 2 * n ≤ 144 by omega), show (15 + 2 * n) % 2 = 1 by omega]
  rfl
theorem siS {i : Int32} (h : pm_in i 16 = true) : st_isS (150 + 1 * i.toNatClampNeg) = true := by
  have h := (pm_in_c h).2
  generalize i.toNatClampNeg = n at h
  unfold st_isS
  rw [Nat.ble_eq_true_of_le (show 150 ≤ 150 + 1 * n by omega), Nat.ble_eq_true_of_le (show 150 + 1 * n ≤ 165 by omega), Bool.and_true, Bool.or_true]
