/-! one way: answers with conditions joined -/
section IK
variable {p A B C : Prop} {dp : Decidable p} {r : pm_R} {hh : pm_H} {cc kk : Nat}
theorem i_rkI {a b : Prop} {x y z : Int32} (h0 : C ↔ if p then A else B) (e : (if p then x else y) = z) (h1 : p → a ∧ r = (.inl (some (.int x)), hh, cc, kk) → A) (h2 : ¬ p → b ∧ r = (.inl (some (.int y)), hh, cc, kk) → B) : ((p → a) ∧ (¬ p → b)) ∧ r = (.inl (some (.int z)), hh, cc, kk) → C := by
  intro h
  refine h0.mpr ?_
  by_cases hp : p
  · rw [if_pos hp]; exact h1 hp ⟨h.1.1 hp, by rw [h.2, ← e, if_pos hp]⟩
  · rw [if_neg hp]; exact h2 hp ⟨h.1.2 hp, by rw [h.2, ← e, if_neg hp]⟩
theorem i_rkJ {a b : Prop} {x y : Int64} (h0 : C ↔ if p then A else B) (h1 : p → a ∧ r = (.inl (some (.long x)), hh, cc, kk) → A) (h2 : ¬ p → b ∧ r = (.inl (some (.long y)), hh, cc, kk) → B) : ((p → a) ∧ (¬ p → b)) ∧ r = (.inl (some (.long (if p then x else y))), hh, cc, kk) → C := by
  intro h
  refine h0.mpr ?_
  by_cases hp : p
  · rw [if_pos hp]; exact h1 hp ⟨h.1.1 hp, by rw [h.2, if_pos hp]⟩
  · rw [if_neg hp]; exact h2 hp ⟨h.1.2 hp, by rw [h.2, if_neg hp]⟩
theorem i_rkD {a b : Prop} {x y : UInt64} (h0 : C ↔ if p then A else B) (h1 : p → a ∧ r = (.inl (some (.double x)), hh, cc, kk) → A) (h2 : ¬ p → b ∧ r = (.inl (some (.double y)), hh, cc, kk) → B) : ((p → a) ∧ (¬ p → b)) ∧ r = (.inl (some (.double (if p then x else y))), hh, cc, kk) → C := by
  intro h
  refine h0.mpr ?_
  by_cases hp : p
  · rw [if_pos hp]; exact h1 hp ⟨h.1.1 hp, by rw [h.2, if_pos hp]⟩
  · rw [if_neg hp]; exact h2 hp ⟨h.1.2 hp, by rw [h.2, if_neg hp]⟩
theorem i_rkpI {a : Prop} {x y z : Int32} (h0 : C ↔ if p then A else B) (e : (if p then x else y) = z) (h1 : p → a ∧ r = (.inl (some (.int x)), hh, cc, kk) → A) (h2 : ¬ p → r = (.inl (some (.int y)), hh, cc, kk) → B) : (p → a) ∧ r = (.inl (some (.int z)), hh, cc, kk) → C := by
  intro h
  refine h0.mpr ?_
  by_cases hp : p
  · rw [if_pos hp]; exact h1 hp ⟨h.1 hp, by rw [h.2, ← e, if_pos hp]⟩
  · rw [if_neg hp]; exact h2 hp (by rw [h.2, ← e, if_neg hp])
theorem i_rkpJ {a : Prop} {x y : Int64} (h0 : C ↔ if p then A else B) (h1 : p → a ∧ r = (.inl (some (.long x)), hh, cc, kk) → A) (h2 : ¬ p → r = (.inl (some (.long y)), hh, cc, kk) → B) : (p → a) ∧ r = (.inl (some (.long (if p then x else y))), hh, cc, kk) → C := by
  intro h
  refine h0.mpr ?_
  by_cases hp : p
  · rw [if_pos hp]; exact h1 hp ⟨h.1 hp, by rw [h.2, if_pos hp]⟩
  · rw [if_neg hp]; exact h2 hp (by rw [h.2, if_neg hp])
theorem i_rkpD {a : Prop} {x y : UInt64} (h0 : C ↔ if p then A else B) (h1 : p → a ∧ r = (.inl (some (.double x)), hh, cc, kk) → A) (h2 : ¬ p → r = (.inl (some (.double y)), hh, cc, kk) → B) : (p → a) ∧ r = (.inl (some (.double (if p then x else y))), hh, cc, kk) → C := by
  intro h
  refine h0.mpr ?_
  by_cases hp : p
  · rw [if_pos hp]; exact h1 hp ⟨h.1 hp, by rw [h.2, if_pos hp]⟩
  · rw [if_neg hp]; exact h2 hp (by rw [h.2, if_neg hp])
theorem i_rknI {b : Prop} {x y z : Int32} (h0 : C ↔ if p then A else B) (e : (if p then x else y) = z) (h1 : p → r = (.inl (some (.int x)), hh, cc, kk) → A) (h2 : ¬ p → b ∧ r = (.inl (some (.int y)), hh, cc, kk) → B) : (¬ p → b) ∧ r = (.inl (some (.int z)), hh, cc, kk) → C := by
  intro h
  refine h0.mpr ?_
  by_cases hp : p
  · rw [if_pos hp]; exact h1 hp (by rw [h.2, ← e, if_pos hp])
  · rw [if_neg hp]; exact h2 hp ⟨h.1 hp, by rw [h.2, ← e, if_neg hp]⟩
theorem i_rknJ {b : Prop} {x y : Int64} (h0 : C ↔ if p then A else B) (h1 : p → r = (.inl (some (.long x)), hh, cc, kk) → A) (h2 : ¬ p → b ∧ r = (.inl (some (.long y)), hh, cc, kk) → B) : (¬ p → b) ∧ r = (.inl (some (.long (if p then x else y))), hh, cc, kk) → C := by
  intro h
  refine h0.mpr ?_
  by_cases hp : p
  · rw [if_pos hp]; exact h1 hp (by rw [h.2, if_pos hp])
  · rw [if_neg hp]; exact h2 hp ⟨h.1 hp, by rw [h.2, if_neg hp]⟩
theorem i_rknD {b : Prop} {x y : UInt64} (h0 : C ↔ if p then A else B) (h1 : p → r = (.inl (some (.double x)), hh, cc, kk) → A) (h2 : ¬ p → b ∧ r = (.inl (some (.double y)), hh, cc, kk) → B) : (¬ p → b) ∧ r = (.inl (some (.double (if p then x else y))), hh, cc, kk) → C := by
  intro h
  refine h0.mpr ?_
  by_cases hp : p
  · rw [if_pos hp]; exact h1 hp (by rw [h.2, if_pos hp])
  · rw [if_neg hp]; exact h2 hp ⟨h.1 hp, by rw [h.2, if_neg hp]⟩
end IK
