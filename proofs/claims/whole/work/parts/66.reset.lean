/-! segment, begin: all is new -/
theorem cr_0 {I : st_I} {c : Nat} (h1 : ∀ f, f < 9 → I (150 + c) f = 0) (h2 : ∀ a, 173 ≤ a → a ≤ 182 → I a c = 0) : cr I c := by
  refine ⟨(0, 0, 0, 0, 0, 0, 0, 0, 0), fun f hf => ?_, ?_, ?_⟩
  · rw [h1 f hf]
    match f, hf with
    | 0, _ => rfl
    | 1, _ => rfl
    | 2, _ => rfl
    | 3, _ => rfl
    | 4, _ => rfl
    | 5, _ => rfl
    | 6, _ => rfl
    | 7, _ => rfl
    | 8, _ => rfl
    | f + 9, h => exact absurd h (by omega)
  · intro a ha hb
    rw [h2 a ha hb]
    rcases (show a = 173 ∨ a = 174 ∨ a = 175 ∨ a = 176 ∨ a = 177 ∨ a = 178 ∨ a = 179 ∨ a = 180 ∨ a = 181 ∨ a = 182 by omega) with e | e | e | e | e | e | e | e | e | e <;> subst e <;> rfl
  · exact ⟨by decide, by decide, by decide, by decide, Or.inl ⟨rfl, rfl, rfl, rfl, rfl, rfl, rfl, rfl, rfl⟩⟩
def lz4 (J : st_J) : st_J := st_lz (st_lz (st_lz (st_lz J 0 64) 1 64) 2 64) 3 64
def fl4 (J : st_J) : st_J := st_fl (st_fl (st_fl (st_fl J 3 64 (0 : Int64)) 4 64 (0 : Int64)) 5 64 (0 : Int64)) 6 64 (0 : Int64)
theorem lz4_w (J : st_J) {s k : Nat} (hs : s < 4) (hk : k < 64) : lz4 J 167 (64 * s + k) = 0 := by
  unfold lz4 st_lz
  repeat' split
  all_goals first | rfl | omega
theorem lz4_o (J : st_J) {a : Nat} (h : a ≠ 167) (k : Nat) : lz4 J a k = J a k := by
  unfold lz4 st_lz
  rw [if_neg (fun z => h z.1), if_neg (fun z => h z.1), if_neg (fun z => h z.1), if_neg (fun z => h z.1)]
theorem fl4_w (J : st_J) {s k : Nat} (hs : s < 4) (hk : k < 64) : fl4 J (3 + s) k = 0 := by
  unfold fl4 st_fl
  repeat' split
  all_goals first | rfl | omega
theorem c4 {p : Nat → Prop} (h0 : p 0) (h1 : p 1) (h2 : p 2) (h3 : p 3) : ∀ s, s < 4 → p s := fun s hs => match s, hs with
  | 0, _ => h0
  | 1, _ => h1
  | 2, _ => h2
  | 3, _ => h3
  | s + 4, h => absurd h (by omega)
/-- the cells that a new message leaves alone -/
theorem mz_o (K : st_I) (n : Nat) {a f : Nat} (h : ¬ (173 ≤ a ∧ a ≤ 182)) : st_mz K n a f = K a f := if_neg (fun z => h ⟨z.1, z.2.1⟩)
theorem cz_o (K : st_I) (n : Nat) {a f : Nat} (h : ¬ (150 ≤ a ∧ a < 150 + n)) : st_cz K n a f = K a f := if_neg (fun z => h ⟨z.1, z.2.1⟩)
theorem mz_z (K : st_I) {a c : Nat} (h : 173 ≤ a) (h' : a ≤ 182) (hc : c < 17) : st_mz K 17 a c = 0 := if_pos ⟨h, h', hc⟩
theorem cz_z (K : st_I) {c f : Nat} (hc : c < 16) (hf : f < 9) : st_cz K 16 (150 + c) f = 0 := if_pos ⟨by omega, by omega, hf⟩
theorem s_segment {X : pm_X} {d : Nat} {I : st_I} {J : st_J} {p1 p2 p3 p4 p5 : Int32} (h : RR I J) : StpV X (d + 5) 10 [.ref 0, .int p1, .int p2, .int p3, .int p4, .int p5] 170 [.ref 166, .int p1, .int p2, .int p3, .int p4, .int p5] I J := by
  have e1 : (1 : Int32).toInt = 1 := rfl
  have e2 : (2 : Int32).toInt = 2 := rfl
  have e3 : (3 : Int32).toInt = 3 := rfl
  have e4 : (4 : Int32).toInt = 4 := rfl
  have e64 : (64 : Int32).toInt = 64 := rfl
  have f1 : (1 : Int64).toInt = 1 := rfl
  have f4 : (4 : Int64).toInt = 4 := rfl
  have f64 : (64 : Int64).toInt = 64 := rfl
  by_cases c : (1 ≤ p1.toInt ∧ p1.toInt ≤ 4) ∧ (0 ≤ p2.toInt ∧ p2.toInt ≤ 64) ∧ (p1.toInt < 2 ∨ (0 ≤ p3.toInt ∧ p3.toInt ≤ 64)) ∧ (p1.toInt < 3 ∨ (0 ≤ p4.toInt ∧ p4.toInt ≤ 64)) ∧ (p1.toInt < 4 ∨ (0 ≤ p5.toInt ∧ p5.toInt ≤ 64))
  · obtain ⟨hm, hz, ho, hc⟩ := h
    obtain ⟨⟨a1, a2, a3⟩, b1, b2, b3, b4, b5⟩ := hm
    refine ⟨_, _, 0, 0, 0, iv_L_segment _ (by
      rw [if_neg (by rw [i32_lt, i32_lt, e1, e4]; omega), if_neg (by simp only [i32_lt, i0, e1, e64]; omega), if_neg (by simp only [i32_lt, i0, e2, e3, e64]; omega)]), by omega, by omega, _, _, iv_M_segment (d := d + 2) _ (by
      rw [if_pos (by simp only [i64_lt, i32_lt, tl, j0, f1, f4, f64, e2, e3, e4]; omega)]), rfl, ?_⟩
    have g1 : (if (1 : Int32) < p1 then p3 else (0 : Int32)) = if 1 < p1.toInt then p3 else 0 := by simp only [i32_lt, e1]
    have g2 : (if (2 : Int32) < p1 then p4 else (0 : Int32)) = if 2 < p1.toInt then p4 else 0 := by simp only [i32_lt, e2]
    have g3 : (if (3 : Int32) < p1 then p5 else (0 : Int32)) = if 3 < p1.toInt then p5 else 0 := by simp only [i32_lt, e3]
    refine ⟨⟨⟨c.1, c4 ?_ ?_ ?_ ?_, a3⟩, rfl, c4 rfl rfl rfl rfl, b3, ?_, c4 ?_ ?_ ?_ ?_⟩, Or.inl ⟨rfl, rfl⟩, ?_, ?_⟩
    · exact c.2.1
    · show 0 ≤ (if (1 : Int32) < p1 then p3 else (0 : Int32)).toInt ∧ (if (1 : Int32) < p1 then p3 else (0 : Int32)).toInt ≤ 64
      rw [g1]
      split
      · omega
      · exact ⟨by decide, by decide⟩
    · show 0 ≤ (if (2 : Int32) < p1 then p4 else (0 : Int32)).toInt ∧ (if (2 : Int32) < p1 then p4 else (0 : Int32)).toInt ≤ 64
      rw [g2]
      split
      · omega
      · exact ⟨by decide, by decide⟩
    · show 0 ≤ (if (3 : Int32) < p1 then p5 else (0 : Int32)).toInt ∧ (if (3 : Int32) < p1 then p5 else (0 : Int32)).toInt ≤ 64
      rw [g3]
      split
      · omega
      · exact ⟨by decide, by decide⟩
    · intro s k hs hk
      show lz4 (fl4 J) 167 (64 * s + k) = lz4 (fl4 J) (3 + s) k
      rw [lz4_w _ hs hk, lz4_o _ (by omega), fl4_w _ hs hk]
    · intro hl
      have hl : p1.toInt ≤ ((0 : Nat) : Int) := hl
      omega
    · intro hl
      have hl : p1.toInt ≤ ((1 : Nat) : Int) := hl
      show (if (1 : Int32) < p1 then p3 else (0 : Int32)) = 0
      rw [g1, if_neg (by omega)]
    · intro hl
      have hl : p1.toInt ≤ ((2 : Nat) : Int) := hl
      show (if (2 : Int32) < p1 then p4 else (0 : Int32)) = 0
      rw [g2, if_neg (by omega)]
    · intro hl
      have hl : p1.toInt ≤ ((3 : Nat) : Int) := hl
      show (if (3 : Int32) < p1 then p5 else (0 : Int32)) = 0
      rw [g3, if_neg (by omega)]
    · refine Ro_cg ho rfl rfl (fun a f h1 h2 => ?_) rfl (fun f => rfl)
      rw [mz_o _ _ (by omega)]
      simp only [st_w_e]
      repeat rw [if_neg (by omega)]
      rw [cz_o _ _ (by omega)]
      simp only [st_w_e]
      repeat rw [if_neg (by omega)]
    · intro c hc'
      refine cr_0 (fun f hf => ?_) (fun a h1 h2 => mz_z _ h1 h2 (by omega))
      rw [mz_o _ _ (by omega)]
      simp only [st_w_e]
      repeat rw [if_neg (by omega)]
      exact cz_z _ hc' hf
  · refine ⟨I, J, 1, 1, 6, iv_L_segment _ ?_, by omega, by omega, st_w (st_w I 166 10 0) 166 10 1, J, iv_M_segment (d := d + 2) _ (by rw [if_neg (by simp only [i64_lt, i32_lt, tl, j0, f1, f4, f64, e2, e3, e4]; omega)]), e_o _ _ _, RR_ee h (fun _ _ _ => rfl)⟩
    simp only [i32_lt, i0, e1, e2, e3, e4, e64]
    by_cases q1 : p1.toInt < 1 ∨ 4 < p1.toInt
    · rw [if_pos q1]; trivial
    · rw [if_neg q1]
      by_cases q2 : (¬ ((¬ (p2.toInt < 0)) ∧ (¬ (64 < p2.toInt)))) ∨ ((1 < p1.toInt) ∧ (¬ ((¬ (p3.toInt < 0)) ∧ (¬ (64 < p3.toInt)))))
      · rw [if_pos q2]; trivial
      · rw [if_neg q2, if_pos (by omega)]; trivial
theorem s_begin {X : pm_X} {d : Nat} {I : st_I} {J : st_J} {p1 : Int32} (h : RR I J) : StpV X (d + 5) 89 [.ref 0, .int p1] 206 [.ref 166, .int p1] I J := by
  have e1 : (1 : Int32).toInt = 1 := rfl
  have e64 : (64 : Int32).toInt = 64 := rfl
  have f1 : (1 : Int64).toInt = 1 := rfl
  have f64 : (64 : Int64).toInt = 64 := rfl
  by_cases c : 1 ≤ p1.toInt ∧ p1.toInt ≤ 64
  · obtain ⟨hm, hz, ho, hc⟩ := h
    obtain ⟨⟨a1, a2, a3⟩, b1, b2, b3, b4, b5⟩ := hm
    refine ⟨_, _, 0, 0, 0, iv_L_begin _ (by
      rw [if_neg (by rw [i32_lt, i32_lt, e1, e64]; omega)]), by omega, by omega, _, _, hc_M_begin (d := d + 2) _ (by
      rw [if_pos (by rw [i64_lt, i64_lt, tl, f1, f64]; omega)]), rfl, ?_⟩
    have d14 : 1 ≤ (1 : Int32).toInt ∧ (1 : Int32).toInt ≤ 4 := by decide
    have d1 : 0 ≤ (1 : Int32).toInt ∧ (1 : Int32).toInt ≤ 64 := by decide
    have d0 : 0 ≤ (0 : Int32).toInt ∧ (0 : Int32).toInt ≤ 64 := by decide
    refine ⟨⟨⟨d14, c4 d1 d0 d0 d0, a3⟩, rfl, c4 rfl rfl rfl rfl, b3, ?_, c4 (fun hl => absurd (show (1 : Int32).toInt ≤ ((0 : Nat) : Int) from hl) (by decide)) (fun _ => rfl) (fun _ => rfl) (fun _ => rfl)⟩, Or.inr ⟨rfl, rfl, c⟩, ?_, ?_⟩
    · intro s k hs hk
      show lz4 (fl4 J) 167 (64 * s + k) = lz4 (fl4 J) (3 + s) k
      rw [lz4_w _ hs hk, lz4_o _ (by omega), fl4_w _ hs hk]
    · refine Ro_cg ho rfl rfl (fun a f h1 h2 => ?_) rfl (fun f => rfl)
      rw [mz_o _ _ (by omega)]
      simp only [st_w_e]
      repeat rw [if_neg (by omega)]
      rw [cz_o _ _ (by omega)]
      simp only [st_w_e]
      repeat rw [if_neg (by omega)]
    · intro c hc'
      refine cr_0 (fun f hf => ?_) (fun a h1 h2 => mz_z _ h1 h2 (by omega))
      rw [mz_o _ _ (by omega)]
      simp only [st_w_e]
      repeat rw [if_neg (by omega)]
      exact cz_z _ hc' hf
  · exact ⟨I, J, 1, 1, 6, iv_L_begin _ (by rw [if_pos (by rw [i32_lt, i32_lt, e1, e64]; omega)]), by omega, by omega, st_w (st_w I 166 10 0) 166 10 1, J, hc_M_begin (d := d + 2) _ (by rw [if_neg (by rw [i64_lt, i64_lt, tl, f1, f64]; omega)]), e_o _ _ _, RR_ee h (fun _ _ _ => rfl)⟩
