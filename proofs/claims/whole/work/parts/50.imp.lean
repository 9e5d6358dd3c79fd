/-! one way alone: from what is said to the run -/
section IM
variable {A B C D A' B' p T : Prop} {dp : Decidable p} {r : pm_R} {hh : pm_H} {cc kk : Nat}
theorem ic (h : A ↔ B) (g : T → B) : T → A := fun t => h.mpr (g t)
theorem ip (h : B → A) (g : T → B) : T → A := fun t => h (g t)
theorem i_an (h1 : A ↔ p ∧ B) (h2 : p → T → B) : p ∧ T → A := fun h => h1.mpr ⟨h.1, h2 h.1 h.2⟩
theorem i_cg (h0 : C ↔ if p then A else B) (h1 : A' → A) (h2 : B' → B) : (if p then A' else B') → C := by
  intro h
  refine h0.mpr ?_
  by_cases hp : p
  · rw [if_pos hp] at h ⊢; exact h1 h
  · rw [if_neg hp] at h ⊢; exact h2 h
theorem i_cgd (h0 : C ↔ if p then A else B) (h1 : p → A' → A) (h2 : ¬ p → B' → B) : (if p then A' else B') → C := by
  intro h
  refine h0.mpr ?_
  by_cases hp : p
  · rw [if_pos hp] at h ⊢; exact h1 hp h
  · rw [if_neg hp] at h ⊢; exact h2 hp h
theorem i_cgT (h0 : C ↔ if p then A else B) (hp : p) (h1 : A' → A) : A' → C := fun h => h0.mpr (by rw [if_pos hp]; exact h1 h)
theorem i_cgF (h0 : C ↔ if p then A else B) (hp : ¬ p) (h1 : B' → B) : B' → C := fun h => h0.mpr (by rw [if_neg hp]; exact h1 h)
theorem i_drgI {x y z : Int32} (h0 : C ↔ if p then A else B) (e : (if p then x else y) = z) (h1 : p → r = (.inl (some (.int x)), hh, cc, kk) → A) (h2 : ¬ p → r = (.inl (some (.int y)), hh, cc, kk) → B) : r = (.inl (some (.int z)), hh, cc, kk) → C := by
  subst e
  intro h
  refine h0.mpr ?_
  by_cases hp : p
  · rw [if_pos hp] at h ⊢; exact h1 hp h
  · rw [if_neg hp] at h ⊢; exact h2 hp h
theorem i_drgJ {x y : Int64} (h0 : C ↔ if p then A else B) (h1 : p → r = (.inl (some (.long x)), hh, cc, kk) → A) (h2 : ¬ p → r = (.inl (some (.long y)), hh, cc, kk) → B) : r = (.inl (some (.long (if p then x else y))), hh, cc, kk) → C := by
  intro h
  refine h0.mpr ?_
  by_cases hp : p
  · rw [if_pos hp] at h ⊢; exact h1 hp h
  · rw [if_neg hp] at h ⊢; exact h2 hp h
theorem i_drgD {x y : UInt64} (h0 : C ↔ if p then A else B) (h1 : p → r = (.inl (some (.double x)), hh, cc, kk) → A) (h2 : ¬ p → r = (.inl (some (.double y)), hh, cc, kk) → B) : r = (.inl (some (.double (if p then x else y))), hh, cc, kk) → C := by
  intro h
  refine h0.mpr ?_
  by_cases hp : p
  · rw [if_pos hp] at h ⊢; exact h1 hp h
  · rw [if_neg hp] at h ⊢; exact h2 hp h
theorem i_cgo {α : Type} {o : Option α} {A A' : α → Prop} (h0 : C ↔ om o A B) (h1 : ∀ v, A' v → A v) (h2 : B' → B) : om o A' B' → C := by
  intro h
  refine h0.mpr ?_
  cases o with
  | some v => exact h1 v h
  | none => exact h2 h
end IM
section IC
variable {X : pm_X} {d : Nat} {M : pm_M} {pc : Nat} {ls : pm_V} {st : List Value} {h : pm_H} {c k : Nat} {r : pm_R} {I : st_I} {J : st_J}
theorem i_cQ {w m n : Nat} {v : Value} {a st' : List Value} {P : pm_R → Prop} (hl : pm_look M.1 pc = some (.invokestatic w, 3, ([m, n, 0, 0], v))) (ha : pm_args n [] st = some (a, st')) (hw : Nat.ble (pm_wt st') 8 = true) (hq : ∀ q, P q → Ex X d m a h q) : (∃ q, P q ∧ Kx X d M pc ls st' c k r q) → Gx X d M (pc, ls, st, h, c, k) r :=
  fun ⟨q, h1, h2⟩ => (t_cQ (P := fun q => Ex X d m a h q) hl ha hw (fun q => Iff.rfl)).mpr ⟨q, hq q h1, h2⟩
theorem i_cW {w m n ci b : Nat} {v : Value} {a st' : List Value} {P : pm_R → Prop} (hl : pm_look M.1 pc = some (.invokevirtual w, 3, ([m, n, 0, ci + 1], v))) (ha : pm_args n [] st = some (.ref b :: a, st')) (hw : Nat.ble (pm_wt st') 8 = true) (hb : st_cls b ci = true) (hq : ∀ q, P q → Ex X d m (.ref b :: a) (st_h I J) q) : (∃ q, P q ∧ Kx X d M pc ls st' c k r q) → Gx X d M (pc, ls, st, st_h I J, c, k) r :=
  fun ⟨q, h1, h2⟩ => (t_cW (P := fun q => Ex X d m (.ref b :: a) (st_h I J) q) hl ha hw hb (fun q => Iff.rfl)).mpr ⟨q, hq q h1, h2⟩
end IC
/-! counters -/
theorem oi_i {i : Nat} (h : i < 2 ^ 31) : (Int32.ofNat i).toInt = i := by
  show (BitVec.ofNat 32 i).toInt = i
  rw [BitVec.toInt_eq_toNat_of_lt] <;> rw [BitVec.toNat_ofNat, Nat.mod_eq_of_lt (by omega)] <;> omega
theorem oi_a (i : Nat) : Int32.ofNat i + 1 = Int32.ofNat (i + 1) := by
  apply Int32.toBitVec_inj.mp
  show BitVec.ofNat 32 i + 1#32 = BitVec.ofNat 32 (i + 1)
  rw [BitVec.ofNat_add]
theorem oi_lt {i n : Nat} (h : i < 2 ^ 31) (hn : n < 2 ^ 31) : (Int32.ofNat i < Int32.ofNat n) ↔ i < n := by
  rw [Int32.lt_iff_toInt_lt, oi_i h, oi_i hn]; omega
theorem oi_n {i : Nat} (h : i < 2 ^ 31) : (Int32.ofNat i).toNatClampNeg = i := by
  show (Int32.ofNat i).toInt.toNat = i
  rw [oi_i h]; rfl
theorem oi_in {i n : Nat} (h : i < n) (hn : n ≤ 2 ^ 31) : pm_in (Int32.ofNat i) n = true := by
  refine pm_in_i ?_ ?_
  · rw [Int32.lt_iff_toInt_lt, oi_i (by omega)]; show ¬ (i : Int) < 0; omega
  · rw [oi_n (by omega)]; exact h
theorem oi_of {x : Int32} (h : 0 ≤ x.toInt) : x = Int32.ofNat x.toNatClampNeg := by
  apply Int32.toInt_inj.mp
  have := x.toInt_lt
  have e : x.toNatClampNeg = x.toInt.toNat := rfl
  rw [oi_i (by omega)]; omega
/-- a loop that counts up -/
theorem lp {G : Nat → Prop} : ∀ (n : Nat), (∀ i, i < n → (G i ↔ G (i + 1))) → (G 0 ↔ G n)
  | 0, _ => Iff.rfl
  | n + 1, h => (lp n (fun i hi => h i (by omega))).trans (h n (by omega))
section IH
variable {X : pm_X} {d : Nat} {M : pm_M} {pc : Nat} {ls : pm_V} {st : List Value} {h : pm_H} {c k : Nat} {r q0 : pm_R} {I : st_I} {J : st_J} {T : Prop}
theorem i_hQ {w m n : Nat} {v : Value} {a st' : List Value} (hl : pm_look M.1 pc = some (.invokestatic w, 3, ([m, n, 0, 0], v))) (ha : pm_args n [] st = some (a, st')) (hw : Nat.ble (pm_wt st') 8 = true) (g : T → Kx X d M pc ls st' c k r q0) : Ex X d m a h q0 ∧ T → Gx X d M (pc, ls, st, h, c, k) r :=
  fun ⟨h1, h2⟩ => i_cQ (P := fun q => q = q0) hl ha hw (fun q e => by rw [e]; exact h1) ⟨q0, rfl, g h2⟩
theorem i_hW {w m n ci b : Nat} {v : Value} {a st' : List Value} (hl : pm_look M.1 pc = some (.invokevirtual w, 3, ([m, n, 0, ci + 1], v))) (ha : pm_args n [] st = some (.ref b :: a, st')) (hw : Nat.ble (pm_wt st') 8 = true) (hb : st_cls b ci = true) (g : T → Kx X d M pc ls st' c k r q0) : Ex X d m (.ref b :: a) (st_h I J) q0 ∧ T → Gx X d M (pc, ls, st, st_h I J, c, k) r :=
  fun ⟨h1, h2⟩ => i_cW (P := fun q => q = q0) hl ha hw hb (fun q e => by rw [e]; exact h1) ⟨q0, rfl, g h2⟩
end IH
