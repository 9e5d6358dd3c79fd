/-! copying, by the class -/
def FR (D : Nat) (I I' : st_I) (J J' : st_J) : Prop := (∀ a f, a ≠ 8 → ¬ (a = 12 ∧ f = 1) → ¬ (15 ≤ a ∧ a ≤ 16 + 2 * D) → I' a f = I a f) ∧ (∀ a, a ≠ 8 → a ≠ 13 → J' a = J a)
theorem FR_t {D : Nat} {I I1 I2 : st_I} {J J1 J2 : st_J} (h1 : FR D I I1 J J1) (h2 : FR D I1 I2 J1 J2) : FR D I I2 J J2 := ⟨fun a f q1 q2 q3 => (h2.1 a f q1 q2 q3).trans (h1.1 a f q1 q2 q3), fun a q1 q2 => (h2.2 a q1 q2).trans (h1.2 a q1 q2)⟩
theorem FR_m {D D' : Nat} {I I1 : st_I} {J J1 : st_J} (h : FR D I I1 J J1) (hD : D ≤ D') : FR D' I I1 J J1 := ⟨fun a f q1 q2 q3 => h.1 a f q1 q2 (by omega), h.2⟩
theorem FR_0 (D : Nat) (I : st_I) (J : st_J) : FR D I I J J := ⟨fun _ _ _ _ _ => rfl, fun _ _ _ => rfl⟩
def CS (I : st_I) (J : st_J) (g : CR) : Prop := (I 8 0 = Int32.ofNat g.1 ∧ g.1 ≤ 100000) ∧ (I 12 1 = Int32.ofNat g.2.1 ∧ g.2.1 ≤ 64) ∧ J 13 = g.2.2
def CG (D : Nat) (I : st_I) (J : st_J) (o : CO) (G : pm_R → Prop) (H : st_I → st_J → pm_R → Prop) : Prop := match o with
  | .inl g => ∃ I' J', FR D I I' J J' ∧ CS I' J' g ∧ ∀ r, H I' J' r → G r
  | .inr x => ∃ I' J', FR D I I' J J' ∧ (I' 8 0 = Int32.ofNat x.2 ∧ x.2 ≤ 100000) ∧ ((x.1 = 2 ∧ G (.inr 2, st_h I' J', 1, 6)) ∨ (x.1 = 3 ∧ G (.inr 3, st_h I' J', 1, 6)))
theorem ld_0 {W : Nat → Nat → Int64} {U : Nat → Nat} {S A s k : Nat} {v : V8 × Nat} (h : ld W U S A s k 0 = some v) : v.1.1 = 0 := by
  unfold ld at h
  split at h
  · injection h with h
    rw [← h]
  · split at h
    · cases h
    · rw [if_pos rfl] at h
      cases h
/-- where the pointers of what was laid down lie, there and here -/
theorem ly_b {U : Nat → Nat} {R : Nat → Int64} {kd dp sg pl db pt ct cd n : Nat} (hv : vk U (v98 (kd, dp, sg, pl, db, pt, ct, cd))) (hU : U sg ≤ 64) (h0 : kd ≠ 0) (hn : n + lyn R (kd, dp, sg, pl, db, pt, ct, cd) n ≤ 64) : (lyp R (kd, dp, sg, pl, db, pt, ct, cd) n).1 ≤ 64 ∧ (∀ e j, e < (lyp R (kd, dp, sg, pl, db, pt, ct, cd) n).1 → j < (lyp R (kd, dp, sg, pl, db, pt, ct, cd) n).2.2.2.2.2.2 → (lyp R (kd, dp, sg, pl, db, pt, ct, cd) n).2.1 + e * ((lyp R (kd, dp, sg, pl, db, pt, ct, cd) n).2.2.1 + (lyp R (kd, dp, sg, pl, db, pt, ct, cd) n).2.2.2.1) + (lyp R (kd, dp, sg, pl, db, pt, ct, cd) n).2.2.1 + j < 64 ∧ (lyp R (kd, dp, sg, pl, db, pt, ct, cd) n).2.2.2.2.1 + e * ((lyp R (kd, dp, sg, pl, db, pt, ct, cd) n).2.2.2.2.2.1 + (lyp R (kd, dp, sg, pl, db, pt, ct, cd) n).2.2.2.2.2.2) + (lyp R (kd, dp, sg, pl, db, pt, ct, cd) n).2.2.2.2.2.1 + j < n + lyn R (kd, dp, sg, pl, db, pt, ct, cd) n) ∧ (lyp R (kd, dp, sg, pl, db, pt, ct, cd) n).1 * (lyp R (kd, dp, sg, pl, db, pt, ct, cd) n).2.2.2.2.2.2 ≤ lyn R (kd, dp, sg, pl, db, pt, ct, cd) n ∧ (lyp R (kd, dp, sg, pl, db, pt, ct, cd) n).2.2.2.2.2.2 ≤ 64 := by
  have hc := hv.2.2.2.2
  dsimp only [v98] at hc
  unfold lyn lyp at *
  dsimp only at hn ⊢
  by_cases k1 : kd = 1
  · simp only [if_pos k1] at hn ⊢
    have n1 := nd_le R pl (db / 64)
    have n2 := nd_le R (pl + db / 64) pt
    generalize nd R pl (db / 64) = D at *
    generalize nd R (pl + db / 64) pt = P at *
    have hb : pl + db / 64 + pt ≤ 64 := by
      rcases hc with q | q | q
      · omega
      · obtain ⟨q1, q2, q3, q4, q5 | q5⟩ := q
        · omega
        · omega
      · omega
    refine ⟨by omega, fun e j he hj => ?_, by rw [Nat.one_mul]; omega, by omega⟩
    rw [show e = 0 by omega, Nat.zero_mul, Nat.zero_mul]
    omega
  · simp only [if_neg k1] at hn ⊢
    by_cases c7 : cd = 7
    · simp only [if_pos c7] at hn ⊢
      have hb : pl + 1 + ct * (db / 64 + pt) ≤ 64 ∧ ct ≤ 100000 := by
        rcases hc with q | q | q
        · omega
        · omega
        · obtain ⟨q1, q2, q3, q4 | q4 | q4⟩ := q
          · omega
          · omega
          · have e : ct * (db + 64 * pt) = 64 * (ct * (db / 64 + pt)) := by
              rw [show db + 64 * pt = 64 * (db / 64 + pt) by omega, Nat.mul_left_comm]
            omega
      have hE : (if db + pt = 0 then 0 else ct) ≤ ct := by split <;> omega
      have hE0 : db + pt = 0 → (if db + pt = 0 then 0 else ct) = 0 := fun z => if_pos z
      generalize (if db + pt = 0 then 0 else ct) = E at *
      have n1 : mx (fun e => nd R (pl + 1 + e * (db / 64 + pt)) (db / 64)) E ≤ db / 64 := mx_le (fun e => nd_le _ _ _) E
      have n2 : mx (fun e => nd R (pl + 1 + e * (db / 64 + pt) + db / 64) pt) E ≤ pt := mx_le (fun e => nd_le _ _ _) E
      have hP0 : E = 0 → mx (fun e => nd R (pl + 1 + e * (db / 64 + pt) + db / 64) pt) E = 0 := fun z => by rw [z]; rfl
      generalize mx (fun e => nd R (pl + 1 + e * (db / 64 + pt)) (db / 64)) E = D at *
      generalize mx (fun e => nd R (pl + 1 + e * (db / 64 + pt) + db / 64) pt) E = P at *
      have hdb : db % 64 = 0 := by
        rcases hc with q | q | q
        · omega
        · omega
        · obtain ⟨q1, q2, q3, q4 | q4 | q4⟩ := q
          · omega
          · omega
          · exact q4.2.1
      have hE64 : E ≤ 64 := by
        by_cases z : db + pt = 0
        · have := hE0 z; omega
        · have h1 : E * 1 ≤ ct * (db / 64 + pt) := Nat.mul_le_mul hE (by omega)
          omega
      have hp64 : E = 0 ∨ pt ≤ 64 := by
        by_cases z : E = 0
        · exact Or.inl z
        · have h1 : 1 * (db / 64 + pt) ≤ ct * (db / 64 + pt) := Nat.mul_le_mul_right _ (by omega)
          omega
      refine ⟨hE64, fun e j he hj => ?_, ?_, ?_⟩
      · have h1 : (e + 1) * (db / 64 + pt) ≤ ct * (db / 64 + pt) := Nat.mul_le_mul_right _ (by omega)
        have h2 : (e + 1) * (D + P) ≤ E * (D + P) := Nat.mul_le_mul_right _ (by omega)
        rw [Nat.succ_mul] at h1 h2
        omega
      · have h1 : E * P ≤ E * (D + P) := Nat.mul_le_mul_left _ (by omega)
        omega
      · rcases hp64 with z | z
        · have := hP0 z
          omega
        · omega
    · simp only [if_neg c7] at hn ⊢
      by_cases c6 : cd = 6
      · simp only [if_pos c6] at hn ⊢
        have hb : pl + ct ≤ 64 := by
          rcases hc with q | q | q
          · omega
          · omega
          · obtain ⟨q1, q2, q3, q4 | q4 | q4⟩ := q
            · omega
            · omega
            · omega
        refine ⟨by omega, fun e j he hj => ?_, by omega, by omega⟩
        omega
      · simp only [if_neg c6] at hn ⊢
        exact ⟨by omega, fun e j he hj => absurd he (Nat.not_lt_zero e), by rw [Nat.zero_mul]; omega, by omega⟩
