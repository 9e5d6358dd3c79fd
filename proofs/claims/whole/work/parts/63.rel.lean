/-! THE RELATION between what the class holds and what the reference holds -/
/-- kind, depth, segment, place, shift, data bits, pointers, count, code -/
abbrev V9 : Type := Nat × Nat × Nat × Nat × Nat × Nat × Nat × Nat × Nat
def sp9 (v : V9) : Nat → Int32 := g9 (Int32.ofNat v.1) (Int32.ofNat v.2.1) (Int32.ofNat v.2.2.1) (Int32.ofNat v.2.2.2.1) (Int32.ofNat v.2.2.2.2.1) (Int32.ofNat v.2.2.2.2.2.1) (Int32.ofNat v.2.2.2.2.2.2.1) (Int32.ofNat v.2.2.2.2.2.2.2.1) (Int32.ofNat v.2.2.2.2.2.2.2.2)
def mc9 (v : V9) : Nat → Int32 := fun a => match a with
  | 173 => Int32.ofNat v.1
  | 174 => Int32.ofNat v.2.1
  | 175 => Int32.ofNat v.2.2.1
  | 176 => Int32.ofNat (64 * v.2.2.2.1 + v.2.2.2.2.1)
  | 177 => if v.1 = 1 then Int32.ofNat v.2.2.2.2.2.1 else 0
  | 178 => if v.1 = 1 then Int32.ofNat v.2.2.2.2.2.2.1 else 0
  | 179 => Int32.ofNat v.2.2.2.2.2.2.2.1
  | 180 => Int32.ofNat v.2.2.2.2.2.2.2.2
  | 181 => if v.1 = 2 ∧ v.2.2.2.2.2.2.2.2 = 7 then Int32.ofNat (v.2.2.2.2.2.1 / 64) else 0
  | 182 => if v.1 = 2 ∧ v.2.2.2.2.2.2.2.2 = 7 then Int32.ofNat v.2.2.2.2.2.2.1 else 0
  | _ => 0
/-- a cursor that stands within its segment's words -/
def vk (U : Nat → Nat) (v : V9) : Prop := match v with
  | (kd, dp, sg, pl, sh, db, pt, ct, cd) => dp ≤ 64 ∧ sg < 4 ∧ pl ≤ 64 ∧ sh < 64 ∧
    ((kd = 0 ∧ dp = 0 ∧ sg = 0 ∧ pl = 0 ∧ sh = 0 ∧ db = 0 ∧ pt = 0 ∧ ct = 0 ∧ cd = 0) ∨
     (kd = 1 ∧ ct = 0 ∧ cd = 0 ∧ 64 * pl + sh + db + 64 * pt ≤ 64 * U sg ∧ (pt = 0 ∨ (sh = 0 ∧ db % 64 = 0))) ∨
     (kd = 2 ∧ sh = 0 ∧ ct ≤ 100000 ∧ ((cd ≤ 5 ∧ db = ebn cd ∧ pt = 0 ∧ 64 * pl + ct * db ≤ 64 * U sg) ∨ (cd = 6 ∧ db = 0 ∧ pt = 1 ∧ pl + ct ≤ U sg) ∨ (cd = 7 ∧ db % 64 = 0 ∧ 64 * (pl + 1) + ct * (db + 64 * pt) ≤ 64 * U sg ∧ db ≤ 4194240 ∧ pt ≤ 65535))))
def cr (I : st_I) (c : Nat) : Prop := ∃ v : V9, (∀ f, f < 9 → I (150 + c) f = sp9 v f) ∧ (∀ a, 173 ≤ a → a ≤ 182 → I a c = mc9 v a) ∧ vk (un (I 7)) v
def Rm (I : st_I) (J : st_J) : Prop := wfm I ∧ I 166 6 = I 1 2 ∧ (∀ s, s < 4 → I 170 s = I 7 s) ∧ I 166 8 = I 8 0 ∧ (∀ s k, s < 4 → k < 64 → J 167 (64 * s + k) = J (3 + s) k) ∧ (∀ s : Nat, s < 4 → (I 1 2).toInt ≤ (s : Int) → I 7 s = 0)
def Rz (I : st_I) : Prop := (I 166 11 = 0 ∧ I 1 3 = 0) ∨ (I 166 11 = 1 ∧ I 166 9 = I 1 3 ∧ 1 ≤ (I 1 3).toInt ∧ (I 1 3).toInt ≤ 64)
def Ro (I : st_I) : Prop := ((I 0 6 = 0 ∧ I 0 7 = 1) ∨ (I 0 6 = 1 ∧ I 0 7 = 0)) ∧ I (st_o (I 0 6)) 1 = I 166 7 ∧ 0 ≤ (I 166 7).toInt ∧ (I 166 7).toInt ≤ 1500 ∧ ∀ k, k < (I 166 7).toNatClampNeg → (I (st_o (I 0 6) + 1) k &&& 255) = I 171 k
def Rc (I : st_I) : Prop := ∀ c, c < 16 → cr I c
def RR (I : st_I) (J : st_J) : Prop := Rm I J ∧ Rz I ∧ Ro I ∧ Rc I
/-! what it speaks of -/
def rI (a f : Nat) : Prop := (a = 0 ∧ (f = 6 ∨ f = 7)) ∨ (a = 1 ∧ (f = 2 ∨ f = 3)) ∨ a = 7 ∨ (a = 8 ∧ f = 0) ∨ (146 ≤ a ∧ a ≤ 165) ∨ (a = 166 ∧ (f = 6 ∨ f = 7 ∨ f = 8 ∨ f = 9 ∨ f = 11)) ∨ a = 170 ∨ a = 171 ∨ (173 ≤ a ∧ a ≤ 182 ∧ f ≠ 16)
def rJ (a : Nat) : Prop := (3 ≤ a ∧ a ≤ 6) ∨ a = 167
theorem Rm_cg {I I' : st_I} {J J' : st_J} (h : Rm I J) (h1 : I' 1 2 = I 1 2) (h2 : ∀ s, s < 4 → I' 7 s = I 7 s) (h3 : I' 8 0 = I 8 0) (h4 : I' 166 6 = I 166 6) (h5 : I' 166 8 = I 166 8) (h6 : ∀ s, s < 4 → I' 170 s = I 170 s) (h7 : ∀ a k, rJ a → J' a k = J a k) : Rm I' J' := by
  obtain ⟨⟨a1, a2, a3⟩, b1, b2, b3, b4, b5⟩ := h
  refine ⟨⟨by rw [h1]; exact a1, fun s hs => by rw [h2 s hs]; exact a2 s hs, by rw [h3]; exact a3⟩, by rw [h4, h1]; exact b1, fun s hs => by rw [h6 s hs, h2 s hs]; exact b2 s hs, by rw [h5, h3]; exact b3, fun s k hs hk => ?_, fun s hs hl => ?_⟩
  · rw [h7 167 _ (Or.inr rfl), h7 (3 + s) _ (Or.inl (by omega))]
    exact b4 s k hs hk
  · rw [h2 s hs]
    exact b5 s hs (by rw [h1] at hl; exact hl)
theorem Rz_cg {I I' : st_I} (h : Rz I) (h1 : I' 1 3 = I 1 3) (h2 : I' 166 9 = I 166 9) (h3 : I' 166 11 = I 166 11) : Rz I' := by
  unfold Rz
  rw [h1, h2, h3]
  exact h
theorem st_o_c (x : Int32) : st_o x = 146 ∨ st_o x = 148 := by
  unfold st_o
  cases decide (x = 0)
  · exact Or.inr rfl
  · exact Or.inl rfl
theorem Ro_cg {I I' : st_I} (h : Ro I) (h1 : I' 0 6 = I 0 6) (h2 : I' 0 7 = I 0 7) (h3 : ∀ a f, 146 ≤ a → a ≤ 149 → I' a f = I a f) (h4 : I' 166 7 = I 166 7) (h5 : ∀ f, I' 171 f = I 171 f) : Ro I' := by
  have hc := st_o_c (I 0 6)
  unfold Ro
  rw [h1, h2, h4, h3 (st_o (I 0 6)) 1 (by omega) (by omega)]
  refine ⟨h.1, h.2.1, h.2.2.1, h.2.2.2.1, fun k hk => ?_⟩
  rw [h3 (st_o (I 0 6) + 1) k (by omega) (by omega), h5]
  exact h.2.2.2.2 k hk
theorem vk_cg {U U' : Nat → Nat} {v : V9} (h : vk U v) (hU : ∀ s, s < 4 → U' s = U s) : vk U' v := by
  obtain ⟨kd, dp, sg, pl, sh, db, pt, ct, cd⟩ := v
  unfold vk at h ⊢
  dsimp only at h ⊢
  rw [hU sg h.2.1]
  exact h
theorem cr_cg {I I' : st_I} {c : Nat} (h : cr I c) (h1 : ∀ f, f < 9 → I' (150 + c) f = I (150 + c) f) (h2 : ∀ a, 173 ≤ a → a ≤ 182 → I' a c = I a c) (h3 : ∀ s, s < 4 → I' 7 s = I 7 s) : cr I' c := by
  obtain ⟨v, a, b, e⟩ := h
  refine ⟨v, fun f hf => (h1 f hf).trans (a f hf), fun x hx hy => (h2 x hx hy).trans (b x hx hy), vk_cg e fun s hs => ?_⟩
  unfold un
  rw [h3 s hs]
theorem RR_cg {I I' : st_I} {J J' : st_J} (h : RR I J) (hI : ∀ a f, rI a f → I' a f = I a f) (hJ : ∀ a k, rJ a → J' a k = J a k) : RR I' J' := by
  have q : ∀ a f, rI a f → I' a f = I a f := hI
  unfold rI at q
  refine ⟨Rm_cg h.1 (q 1 2 (by omega)) (fun s _ => q 7 s (by omega)) (q 8 0 (by omega)) (q 166 6 (by omega)) (q 166 8 (by omega)) (fun s _ => q 170 s (by omega)) hJ, Rz_cg h.2.1 (q 1 3 (by omega)) (q 166 9 (by omega)) (q 166 11 (by omega)), Ro_cg h.2.2.1 (q 0 6 (by omega)) (q 0 7 (by omega)) (fun a f h1 h2 => q a f (by omega)) (q 166 7 (by omega)) (fun f => q 171 f (by omega)), fun c hc => cr_cg (h.2.2.2 c hc) (fun f _ => q (150 + c) f (by omega)) (fun a h1 h2 => q a c (by omega)) (fun s _ => q 7 s (by omega))⟩
/-- the 8 numbers of a pointer's target, without a shift -/
def v98 (v : Nat × Nat × Nat × Nat × Nat × Nat × Nat × Nat) : V9 := (v.1, v.2.1, v.2.2.1, v.2.2.2.1, 0, v.2.2.2.2.1, v.2.2.2.2.2.1, v.2.2.2.2.2.2.1, v.2.2.2.2.2.2.2)
theorem v98_s (v : Nat × Nat × Nat × Nat × Nat × Nat × Nat × Nat) : sp9 (v98 v) = spv v := rfl
theorem v98_m (v : Nat × Nat × Nat × Nat × Nat × Nat × Nat × Nat) : mc9 (v98 v) = mcv v := rfl
theorem lds_vk {W : Nat → Nat → Int64} {U : Nat → Nat} {n dp A : Nat} {z : Int} {x : Int64} {kd db pt ct cd ch : Nat} (h : lds W U n z x A = some (kd, db, pt, ct, cd, ch)) (hn : n < 4) (hU : U n ≤ 64) (hA : A ≤ 100000) (hd : dp ≤ 64) : vk U (kd, dp, n, z.toNat, 0, db, pt, ct, cd) ∧ ch ≤ A := by
  unfold lds at h
  unfold vk
  dsimp only
  split at h
  · split at h
    · rename_i q
      injection h with h
      simp only [Prod.mk.injEq] at h
      obtain ⟨rfl, rfl, rfl, rfl, rfl, rfl⟩ := h
      exact ⟨⟨hd, hn, by omega, by omega, Or.inr (Or.inl ⟨rfl, rfl, rfl, by omega, Or.inr ⟨rfl, by omega⟩⟩)⟩, q.2.2⟩
    · cases h
  · split at h
    · generalize W n z.toNat = t at h
      by_cases q : 0 ≤ z ∧ z + (we x + 1 : Nat) ≤ U n ∧ wk t = 0 ∧ 0 ≤ wo t ∧ (wo t).toNat * (wd t + wp t) ≤ we x ∧ we x + 1 + (if wd t + wp t = 0 then (wo t).toNat else 0) ≤ A
      · rw [if_pos q] at h
        injection h with h
        simp only [Prod.mk.injEq] at h
        obtain ⟨rfl, rfl, rfl, rfl, rfl, rfl⟩ := h
        obtain ⟨q1, q2, q3, q4, q5, q6⟩ := q
        generalize wo t = o at q4 q5 q6 ⊢
        have e : o.toNat * (wd t * 64 + 64 * wp t) = 64 * (o.toNat * (wd t + wp t)) := by
          rw [show wd t * 64 + 64 * wp t = 64 * (wd t + wp t) by omega, Nat.mul_left_comm]
        refine ⟨⟨hd, hn, by omega, by omega, Or.inr (Or.inr ⟨rfl, rfl, ?_, Or.inr (Or.inr ⟨rfl, by omega, ?_, by have := wd_lt t; omega, by have := wp_lt t; omega⟩)⟩)⟩, q6⟩
        · by_cases w0 : wd t + wp t = 0
          · rw [if_pos w0] at q6
            omega
          · have : o.toNat * 1 ≤ o.toNat * (wd t + wp t) := Nat.mul_le_mul_left _ (by omega)
            omega
        · rw [e]
          generalize o.toNat * (wd t + wp t) = y at *
          omega
      · rw [if_neg q] at h
        cases h
    · rename_i c7
      by_cases q : 0 ≤ z ∧ z + ((we x * ebn (wc x) + 63) / 64 : Nat) ≤ U n ∧ (if wc x = 0 then we x else (we x * ebn (wc x) + 63) / 64) ≤ A
      · rw [if_pos q] at h
        injection h with h
        simp only [Prod.mk.injEq] at h
        obtain ⟨rfl, rfl, rfl, rfl, rfl, rfl⟩ := h
        obtain ⟨q1, q2, q3⟩ := q
        have hc8 := wc_lt x
        refine ⟨⟨hd, hn, by omega, by omega, Or.inr (Or.inr ⟨rfl, rfl, ?_, ?_⟩)⟩, q3⟩
        · by_cases c0 : wc x = 0
          · rw [if_pos c0] at q3
            omega
          · have h1 : 1 ≤ ebn (wc x) := by
              generalize wc x = c at *
              match c, hc8 with
              | 0, _ => exact absurd rfl c0
              | 1, _ => decide
              | 2, _ => decide
              | 3, _ => decide
              | 4, _ => decide
              | 5, _ => decide
              | 6, _ => decide
              | 7, _ => exact absurd rfl c7
              | c + 8, h => exact absurd h (by omega)
            have : we x * 1 ≤ we x * ebn (wc x) := Nat.mul_le_mul_left _ h1
            generalize we x * ebn (wc x) = y at *
            omega
        · by_cases c5 : wc x ≤ 5
          · rw [if_pos c5, if_neg (show ¬ wc x = 6 by omega)]
            refine Or.inl ⟨c5, rfl, rfl, ?_⟩
            generalize we x * ebn (wc x) = y at *
            omega
          · rw [if_neg c5, if_pos (show wc x = 6 by omega)]
            have e6 : wc x = 6 := by omega
            rw [e6] at q2
            have q2 : z + ((we x * 64 + 63) / 64 : Nat) ≤ U n := q2
            exact Or.inr (Or.inl ⟨e6, rfl, rfl, by omega⟩)
      · rw [if_neg q] at h
        cases h
theorem ld_vk {W : Nat → Nat → Int64} {U : Nat → Nat} {S A s k dp : Nat} {v : Nat × Nat × Nat × Nat × Nat × Nat × Nat × Nat} {ch : Nat} (h : ld W U S A s k dp = some (v, ch)) (hS : S ≤ 4) (hs : s < 4) (hk : k < 64) (hU : ∀ s, s < 4 → U s ≤ 64) (hA : A ≤ 100000) (hd : dp ≤ 64) : vk U (v98 v) ∧ ch ≤ A := by
  unfold ld at h
  split at h
  · injection h with h
    injection h with h1 h2
    subst h1 h2
    exact ⟨⟨by decide, by decide, by decide, by decide, Or.inl ⟨rfl, rfl, rfl, rfl, rfl, rfl, rfl, rfl, rfl⟩⟩, Nat.zero_le _⟩
  · split at h
    · cases h
    · rename_i n z x hf
      obtain ⟨n4, -⟩ := fnd_b hf hS hs hk
      split at h
      · cases h
      · split at h
        · cases h
        · rename_i kd db pt ct cd c2 hl
          injection h with h
          injection h with h1 h2
          subst h1 h2
          exact lds_vk (dp := dp - 1) hl n4 (hU n n4) hA (by omega)
/-! only words within the segments count -/
theorem fnd_cg {W W' : Nat → Nat → Int64} {U U' : Nat → Nat} {S s k : Nat} {w : Int64} (hW : ∀ s k, s < 4 → k < 64 → W' s k = W s k) (hU : ∀ s, s < 4 → U' s = U s ∧ U s ≤ 64) (hS : S ≤ 4) : fnd W' U' S s k w = fnd W U S s k w := by
  unfold fnd
  by_cases c1 : wk w = 2
  · rw [if_pos c1, if_pos c1]
    by_cases c2 : ws w < S
    · rw [(hU (ws w) (by omega)).1]
      have h64 := (hU (ws w) (by omega)).2
      by_cases c3 : wf w + wt w < U (ws w)
      · have hp : ws w < S ∧ wf w + wt w < U (ws w) := ⟨c2, c3⟩
        rw [if_pos hp, if_pos hp, hW (ws w) (wf w) (by omega) (by omega)]
        by_cases c4 : wt w = 0
        · rw [if_pos c4, if_pos c4]
        · rw [if_neg c4, if_neg c4, hW (ws w) (wf w + 1) (by omega) (by have := wt_lt w; omega)]
      · have hp : ¬ (ws w < S ∧ wf w + wt w < U (ws w)) := fun z => c3 z.2
        rw [if_neg hp, if_neg hp]
    · have hp : ¬ (ws w < S ∧ wf w + wt w < U (ws w)) := fun z => c2 z.1
      have hp' : ¬ (ws w < S ∧ wf w + wt w < U' (ws w)) := fun z => c2 z.1
      rw [if_neg hp, if_neg hp']
  · rw [if_neg c1, if_neg c1]
theorem lds_cg {W W' : Nat → Nat → Int64} {U U' : Nat → Nat} {n A : Nat} {z : Int} {x : Int64} (hW : ∀ s k, s < 4 → k < 64 → W' s k = W s k) (hU : U' n = U n) (h64 : U n ≤ 64) (hn : n < 4) : lds W' U' n z x A = lds W U n z x A := by
  unfold lds
  rw [hU]
  by_cases c1 : wk x = 0
  · rw [if_pos c1, if_pos c1]
  · rw [if_neg c1, if_neg c1]
    by_cases c2 : wc x = 7
    · rw [if_pos c2, if_pos c2]
      by_cases c3 : 0 ≤ z ∧ z + (we x + 1 : Nat) ≤ U n
      · rw [hW n z.toNat hn (by omega)]
      · rw [if_neg (fun q => c3 ⟨q.1, q.2.1⟩), if_neg (fun q => c3 ⟨q.1, q.2.1⟩)]
    · rw [if_neg c2, if_neg c2]
theorem ld_cg {W W' : Nat → Nat → Int64} {U U' : Nat → Nat} {S A s k dp : Nat} (hW : ∀ s k, s < 4 → k < 64 → W' s k = W s k) (hU : ∀ s, s < 4 → U' s = U s ∧ U s ≤ 64) (hS : S ≤ 4) (hs : s < 4) (hk : k < 64) : ld W' U' S A s k dp = ld W U S A s k dp := by
  unfold ld
  rw [hW s k hs hk, fnd_cg hW hU hS]
  by_cases c0 : W s k = 0
  · rw [if_pos c0, if_pos c0]
  · rw [if_neg c0, if_neg c0]
    cases hf : fnd W U S s k (W s k) with
    | none => rfl
    | some v =>
      obtain ⟨n, z, x⟩ := v
      have n4 := (fnd_b hf hS hs hk).1
      dsimp only
      rw [lds_cg hW (hU n n4).1 (hU n n4).2 n4]
