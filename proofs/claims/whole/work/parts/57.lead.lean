/-! the class follows a pointer -/
theorem fnd_b {W : Nat → Nat → Int64} {U : Nat → Nat} {S s k : Nat} {w : Int64} {n : Nat} {z : Int} {x : Int64} (h : fnd W U S s k w = some (n, z, x)) (hS : S ≤ 4) (hs : s < 4) (hk : k < 64) : n < 4 ∧ -2147483648 ≤ z ∧ z < 2147483648 ∧ wk x < 2 := by
  unfold fnd at h
  have b := wfo_b
  split at h
  · split at h
    · rename_i h1
      split at h
      · split at h
        · rename_i h2 h3
          injection h with h
          injection h with e1 h
          injection h with e2 e3
          subst e1 e2 e3
          exact ⟨by omega, (b w _).1, (b w _).2, h3.2⟩
        · cases h
      · split at h
        · rename_i h2 h3
          injection h with h
          injection h with e1 h
          injection h with e2 e3
          subst e1 e2 e3
          have := wf_lt (W (ws w) (wf w))
          exact ⟨by omega, by omega, by omega, h3.2.2.2.1⟩
        · cases h
    · cases h
  · split at h
    · rename_i h3
      injection h with h
      injection h with e1 h
      injection h with e2 e3
      subst e1 e2 e3
      have := wo_b w
      exact ⟨hs, by omega, by omega, h3⟩
    · cases h
/-- a spot's fields -/
def st_sq (I : st_I) (a : Nat) (g : Nat → Int32) : st_I := fun i f => if i = a ∧ f < 9 then g f else I i f
def g9 (a b c d e f g h j : Int32) : Nat → Int32 := fun n => match n with
  | 0 => a
  | 1 => b
  | 2 => c
  | 3 => d
  | 4 => e
  | 5 => f
  | 6 => g
  | 7 => h
  | _ => j
def spv (v : Nat × Nat × Nat × Nat × Nat × Nat × Nat × Nat) : Nat → Int32 := g9 (Int32.ofNat v.1) (Int32.ofNat v.2.1) (Int32.ofNat v.2.2.1) (Int32.ofNat v.2.2.2.1) 0 (Int32.ofNat v.2.2.2.2.1) (Int32.ofNat v.2.2.2.2.2.1) (Int32.ofNat v.2.2.2.2.2.2.1) (Int32.ofNat v.2.2.2.2.2.2.2)
theorem sp_11 (K : st_I) (p : Nat) (a0 a1 a2 a3 b5 b6 : Int32) : st_w (st_w (st_w (st_w (st_w (st_w (st_w (st_w (st_w (st_w (st_w K p 0 a0) p 2 a2) p 3 a3) p 1 a1) p 4 (0 : Int32)) p 5 (0 : Int32)) p 6 (0 : Int32)) p 7 (0 : Int32)) p 8 (0 : Int32)) p 5 b5) p 6 b6 = st_sq K p (g9 a0 a1 a2 a3 0 b5 b6 0 0) := by
  funext i f
  unfold st_sq
  by_cases hi : i = p
  · subst hi
    match f with
    | 0 => simp [st_w_e, g9]
    | 1 => simp [st_w_e, g9]
    | 2 => simp [st_w_e, g9]
    | 3 => simp [st_w_e, g9]
    | 4 => simp [st_w_e, g9]
    | 5 => simp [st_w_e, g9]
    | 6 => simp [st_w_e, g9]
    | 7 => simp [st_w_e, g9]
    | 8 => simp [st_w_e, g9]
    | f + 9 => rw [if_neg (fun z => absurd z.2 (by omega))]; simp [st_w_e]
  · simp [st_w_e, hi]
theorem sp_13 (K : st_I) (p : Nat) (a0 a1 a2 a3 b5 b6 b7 b8 : Int32) : st_w (st_w (st_w (st_w (st_w (st_w (st_w (st_w (st_w (st_w (st_w (st_w (st_w K p 0 a0) p 2 a2) p 3 a3) p 1 a1) p 4 (0 : Int32)) p 5 (0 : Int32)) p 6 (0 : Int32)) p 7 (0 : Int32)) p 8 (0 : Int32)) p 8 b8) p 7 b7) p 5 b5) p 6 b6 = st_sq K p (g9 a0 a1 a2 a3 0 b5 b6 b7 b8) := by
  funext i f
  unfold st_sq
  by_cases hi : i = p
  · subst hi
    match f with
    | 0 => simp [st_w_e, g9]
    | 1 => simp [st_w_e, g9]
    | 2 => simp [st_w_e, g9]
    | 3 => simp [st_w_e, g9]
    | 4 => simp [st_w_e, g9]
    | 5 => simp [st_w_e, g9]
    | 6 => simp [st_w_e, g9]
    | 7 => simp [st_w_e, g9]
    | 8 => simp [st_w_e, g9]
    | f + 9 => rw [if_neg (fun z => absurd z.2 (by omega))]; simp [st_w_e]
  · simp [st_w_e, hi]
theorem sp_0 (K : st_I) (p : Nat) : (fun a f => if a = p ∧ f < 9 then 0 else K a f) = st_sq K p (spv (0, 0, 0, 0, 0, 0, 0, 0)) := by
  funext i f
  unfold st_sq
  by_cases hi : i = p ∧ f < 9
  · rw [if_pos hi, if_pos hi]
    obtain ⟨-, h9⟩ := hi
    match f, h9 with
    | 0, _ => rfl
    | 1, _ => rfl
    | 2, _ => rfl
    | 3, _ => rfl
    | 4, _ => rfl
    | 5, _ => rfl
    | 6, _ => rfl
    | 7, _ => rfl
    | 8, _ => rfl
    | f + 9, h => exact absurd h (by omega)
  · rw [if_neg hi, if_neg hi]
theorem st_w_id (I : st_I) (a k : Nat) : st_w I a k (I a k) = I := by
  funext i f
  rw [st_w_e]
  by_cases h : i = a ∧ f = k
  · rw [if_pos h, h.1, h.2]
  · rw [if_neg h]
theorem st_y_id (J : st_J) (a k : Nat) : st_y J a k (J a k) = J := by
  funext i f
  rw [st_y_e]
  by_cases h : i = a ∧ f = k
  · rw [if_pos h, h.1, h.2]
  · rw [if_neg h]
/-- what stays in the reader -/
def lsc (W : Nat → Nat → Int64) (U : Nat → Nat) (S s k : Nat) (o : Int32 × Int32 × Int64) : Int32 × Int32 × Int64 :=
  if W s k = 0 then o else match fnd W U S s k (W s k) with
    | none => o
    | some (n, z, x) => (Int32.ofNat n, Int32.ofInt z, x)
def dpk (p : Int32) : Prop := 0 ≤ p.toInt ∧ p.toInt ≤ 64
theorem oz_i {z : Int} (h1 : -2147483648 ≤ z) (h2 : z < 2147483648) : (Int32.ofInt z).toInt = z := Int32.toInt_ofInt_of_le (by simpa using h1) (by simpa using h2)
theorem eb_n {n : Nat} (h : n < 8) : (eb n).toInt = ebn n := by
  match n, h with
  | 0, _ => rfl
  | 1, _ => rfl
  | 2, _ => rfl
  | 3, _ => rfl
  | 4, _ => rfl
  | 5, _ => rfl
  | 6, _ => rfl
  | 7, _ => rfl
  | n + 8, h => exact absurd h (by omega)
theorem ebn_le (n : Nat) : ebn n ≤ 64 := by
  match n with
  | 0 => decide
  | 1 => decide
  | 2 => decide
  | 3 => decide
  | 4 => decide
  | 5 => decide
  | 6 => decide
  | 7 => decide
  | n + 8 => show 0 ≤ 64; omega
/-- how many words a list has, as the class reckons it -/
theorem lw_c (x : Int64) : (Int64.toInt32 ((((Int32.toInt64 (Int64.toInt32 (ju x (35 : Int32)))) * (Int32.toInt64 (eb (Int32.toNatClampNeg ((Int64.toInt32 (ju x (32 : Int32))) &&& (7 : Int32)))))) + (63 : Int64)) / (64 : Int64))).toInt = ((we x * ebn (wc x) + 63) / 64 : Nat) := by
  have hc := nat_of (bp_code x)
  have h1 := we_lt x
  have h2 := ebn_le (wc x)
  have hm : we x * ebn (wc x) ≤ 536870912 * 64 := Nat.mul_le_mul (by omega) h2
  rw [hc]
  have e1 : ((Int32.toInt64 (Int64.toInt32 (ju x 35))) * (Int32.toInt64 (eb (wc x)))).toInt = ((we x * ebn (wc x) : Nat) : Int) := by
    rw [jm2 (tl2 (bp_elem x)) (tl2 (eb_n (wc_lt x)))] <;> rw [← Int.natCast_mul] <;> omega
  generalize we x * ebn (wc x) = m at *
  have e2 : ((Int32.toInt64 (Int64.toInt32 (ju x 35))) * (Int32.toInt64 (eb (wc x))) + 63).toInt = ((m + 63 : Nat) : Int) := by
    have e63 : (63 : Int64).toInt = 63 := rfl
    rw [ja2 e1 e63 (by omega) (by omega)]
    omega
  have e64 : (64 : Int64).toInt = 64 := rfl
  refine ti2 ?_ (by omega) (by omega)
  rw [jd (by rw [e2]; omega) (by rw [e64]; omega), e2, e64]
  omega
def ldo (I : st_I) (J : st_J) (p3 p4 p5 : Int32) : Option ((Nat × Nat × Nat × Nat × Nat × Nat × Nat × Nat) × Nat) := ld (cw J) (un (I 7)) (Int32.toNatClampNeg (I 1 2)) (Int32.toNatClampNeg (I 8 0)) (Int32.toNatClampNeg p3) (Int32.toNatClampNeg p4) (Int32.toNatClampNeg p5)
def lss (I : st_I) (J : st_J) (p3 p4 : Int32) : Int32 × Int32 × Int64 := lsc (cw J) (un (I 7)) (Int32.toNatClampNeg (I 1 2)) (Int32.toNatClampNeg p3) (Int32.toNatClampNeg p4) (I 8 1, I 8 2, J 8 3)
theorem cln {x : Int32} (h : 0 ≤ x.toInt) : ((x.toNatClampNeg : Nat) : Int) = x.toInt := by
  show ((x.toInt.toNat : Nat) : Int) = _
  omega
theorem i_fin {x y : Int32} {n m : Nat} (hx : x.toInt = n) (hy : y.toInt = m) (h : m ≤ n) : x - y = Int32.ofNat (n - m) := by
  have := x.toInt_lt
  have := y.le_toInt
  refine eq_of ?_
  rw [is2 hx hy (by omega) (by omega)]
  omega
theorem i_m64 {x : Int32} {n : Nat} (hx : x.toInt = n) (h : n < 16777216) : x * 64 = Int32.ofNat (n * 64) := by
  refine eq_of ?_
  have e : (64 : Int32).toInt = 64 := rfl
  rw [im2 hx e (by omega) (by omega)]
  omega
set_option maxRecDepth 20000 in
theorem hc_Re_lead {X : pm_X} (hX : X 1 = (8, eb)) {d : Nat} {I : st_I} {J : st_J} {p2 : Nat} (g2 : st_isS p2 = true) {p3 p4 p5 : Int32} (r : pm_R) : wfm I ∧ ((pm_in p3 4) = true ∧ ((pm_in p4 64) = true ∧ ((dpk p5) ∧ (om (ldo I J p3 p4 p5) (fun v => r = (.inl none, st_h (st_sq (st_w (st_w (st_w I 8 1 (lss I J p3 p4).1) 8 2 (lss I J p3 p4).2.1) 8 0 (Int32.ofNat ((Int32.toNatClampNeg (I 8 0)) - v.2))) p2 (spv v.1)) (st_y J 8 3 (lss I J p3 p4).2.2), 0, 0)) (r = (.inr 2, st_h (st_w (st_w I 8 1 (lss I J p3 p4).1) 8 2 (lss I J p3 p4).2.1) (st_y J 8 3 (lss I J p3 p4).2.2), 1, 6)))))) → Ex X (d + 4) 30 [.ref 8, .ref 1, .ref p2, .int p3, .int p4, .int p5] (st_h I J) r := by
  rintro ⟨hm, h3, h4, hd, h⟩
  refine iv_Re_lead hX g2 r ⟨h3, h4, ?_⟩
  have b3 := (pm_in_c h3).2
  have b4 := (pm_in_c h4).2
  have hm' := hm
  obtain ⟨⟨s1, s4⟩, hu, a0, a1⟩ := hm'
  have hS := cln (x := I 1 2) (by omega)
  have hA := cln a0
  have hD := cln hd.1
  rw [cw_at J b3]
  unfold ldo ld lss lsc at h
  by_cases c0 : cw J p3.toNatClampNeg p4.toNatClampNeg = 0
  · rw [if_pos c0]
    rw [if_pos c0, if_pos c0] at h
    have h : r = _ := h
    rw [st_z9, sp_0]
    rw [st_w_id, st_w_id, st_y_id, Nat.sub_zero, ← oi_of a0, st_w_id] at h
    exact h
  · rw [if_neg c0]
    rw [if_neg c0, if_neg c0] at h
    refine ⟨hm, ?_⟩
    cases hf : fnd (cw J) (un (I 7)) (I 1 2).toNatClampNeg p3.toNatClampNeg p4.toNatClampNeg (cw J p3.toNatClampNeg p4.toNatClampNeg) with
    | none =>
      rw [hf] at h
      have h : r = _ := h
      rw [st_w_id, st_w_id, st_y_id] at h
      exact h
    | some v =>
      obtain ⟨n, z, x⟩ := v
      rw [hf] at h
      obtain ⟨n4, z1, z2, k2⟩ := fnd_b hf (by omega) b3 b4
      have hz := oz_i z1 z2
      have hn : (Int32.ofNat n).toNatClampNeg = n := oi_n (by omega)
      have hU := hu n n4
      have hUn := un_i hU.1
      have hpin : pm_in (Int32.ofNat n) 4 = true := oi_in n4 (by omega)
      have hJ : ∀ y k, (st_y J 8 3 y) (3 + (Int32.ofNat n).toNatClampNeg) k = cw J n k := fun y k => by
        rw [hn, st_y_e, if_neg (by omega), cw_at J n4]
      show (if p5 = 0 then _ else _)
      have h : om (if p5.toNatClampNeg = 0 then none else match lds (cw J) (un (I 7)) n z x (I 8 0).toNatClampNeg with
        | none => none
        | some (kd, db, pt, ct, cd, ch) => some ((kd, p5.toNatClampNeg - 1, n, z.toNat, db, pt, ct, cd), ch)) (fun v => r = (.inl none, st_h (st_sq (st_w (st_w (st_w I 8 1 (Int32.ofNat n)) 8 2 (Int32.ofInt z)) 8 0 (Int32.ofNat ((Int32.toNatClampNeg (I 8 0)) - v.2))) p2 (spv v.1)) (st_y J 8 3 x), 0, 0)) (r = (.inr 2, st_h (st_w (st_w I 8 1 (Int32.ofNat n)) 8 2 (Int32.ofInt z)) (st_y J 8 3 x), 1, 6)) := h
      by_cases c1 : p5.toNatClampNeg = 0
      · rw [if_pos (show p5 = 0 by rw [i32_eq, i0]; omega)]
        rw [if_pos c1] at h
        exact h
      · rw [if_neg (show ¬ p5 = 0 by rw [i32_eq, i0]; omega)]
        rw [if_neg c1] at h
        have hdep : p5 - 1 = Int32.ofNat (p5.toNatClampNeg - 1) := i_fin hD.symm (show (1 : Int32).toInt = ((1 : Nat) : Int) from rfl) (by omega)
        have q0 : (Int32.toInt (Int64.toInt32 x &&& 3)) = wk x := bp_kind x
        have hda := bp_data
        have hpt := bp_ptrs
        have hdl := wd_lt
        have hpl := wp_lt
        have hdp : ∀ y : Int64, ((Int64.toInt32 (ju y 32) &&& 65535) + Int64.toInt32 (ju y 48)).toInt = ((wd y + wp y : Nat) : Int) := fun y => by
          have := hdl y
          have := hpl y
          rw [ia2 (hda y) (hpt y) (by omega) (by omega)]
          omega
        have hneg : (Int32.ofInt z < 0) ↔ z < 0 := by rw [i32_lt, hz, i0]
        have hwit : ∀ {m : Int32} {l : Nat}, m.toInt = l → l ≤ 1073741824 → ((I 7 (Int32.ofNat n).toNatClampNeg - m < Int32.ofInt z) ↔ ¬ z + (l : Int) ≤ (un (I 7) n : Int)) := fun {m l} hm' hl => by
          rw [hn, i32_lt, is2 rfl hm' (by omega) (by omega), hz]
          omega
        have hal : ∀ {m : Int32} {l : Nat}, m.toInt = l → ((I 8 0 < m) ↔ ¬ l ≤ (I 8 0).toNatClampNeg) := fun {m l} hm' => by
          rw [i32_lt, hm']
          omega
        unfold lds at h
        by_cases c2 : wk x = 0
        · rw [if_pos (show (Int64.toInt32 x &&& 3) = 0 by rw [i32_eq, q0, i0]; omega)]
          rw [if_pos c2] at h
          have hl := hdp x
          have hx1 := hdl x
          have hx2 := hpl x
          by_cases c3 : z < 0
          · rw [if_pos (hneg.mpr c3)]
            rw [if_neg (by omega)] at h
            exact h
          · rw [if_neg (fun z => c3 (hneg.mp z))]
            refine ⟨hpin, ?_⟩
            by_cases c4 : z + ((wd x + wp x : Nat) : Int) ≤ (un (I 7) n : Int)
            · rw [if_neg (fun q => (hwit hl (by omega)).mp q c4)]
              by_cases c5 : wd x + wp x ≤ (I 8 0).toNatClampNeg
              · rw [if_neg (fun q => (hal hl).mp q c5)]
                rw [if_pos ⟨by omega, c4, c5⟩] at h
                have h : r = _ := h
                rw [sp_11, i_fin hA.symm hl c5, hdep, i_m64 (hda x) (by omega), eq_of (hpt x)]
                have ez : Int32.ofInt z = Int32.ofNat z.toNat := eq_of (by rw [hz]; omega)
                unfold spv at h
                dsimp only at h
                rw [ez] at h ⊢
                exact h
              · rw [if_pos ((hal hl).mpr c5)]
                rw [if_neg (fun q => c5 q.2.2)] at h
                exact h
            · rw [if_pos ((hwit hl (by omega)).mpr c4)]
              rw [if_neg (fun q => c4 q.2.1)] at h
              exact h
        · rw [if_neg (show ¬ (Int64.toInt32 x &&& 3) = 0 by rw [i32_eq, q0, i0]; omega)]
          rw [if_neg c2] at h
          have e7 : (7 : Int32).toInt = 7 := rfl
          have hcx := wc_lt x
          have hex := we_lt x
          by_cases c3 : wc x = 7
          · rw [if_pos (show (Int64.toInt32 (ju x 32) &&& 7) = 7 by rw [i32_eq, bp_code, e7]; omega)]
            rw [if_pos c3] at h
            have hl : (Int64.toInt32 (ju x 35) + 1).toInt = ((we x + 1 : Nat) : Int) := by
              rw [ia2 (bp_elem x) (show (1 : Int32).toInt = 1 from rfl) (by omega) (by omega)]
              omega
            by_cases c4 : z < 0
            · rw [if_pos (hneg.mpr c4)]
              rw [if_neg (by omega)] at h
              exact h
            · rw [if_neg (fun z => c4 (hneg.mp z))]
              refine ⟨hpin, ?_⟩
              have ez : Int32.ofInt z = Int32.ofNat z.toNat := eq_of (by rw [hz]; omega)
              by_cases c5 : z + ((we x + 1 : Nat) : Int) ≤ (un (I 7) n : Int)
              · rw [if_neg (fun q => (hwit hl (by omega)).mp q c5)]
                have hzn : (Int32.ofInt z).toNatClampNeg = z.toNat := by rw [ez]; exact oi_n (by omega)
                refine ⟨by rw [ez]; exact oi_in (by omega) (by omega), ?_⟩
                rw [hJ, hzn]
                generalize cw J n z.toNat = t at h ⊢
                have ho := bp_off t
                have hob := wo_b t
                generalize wo t = o at h ho hob
                have hkt : (Int64.toInt32 t &&& 3) = 0 ↔ wk t = 0 := by rw [i32_eq, bp_kind, i0]; omega
                have hot : (ir (Int64.toInt32 t) 2 < 0) ↔ o < 0 := by rw [i32_lt, ho, i0]
                have ht1 := hdl t
                have ht2 := hpl t
                have hlt := hdp t
                by_cases c6 : wk t = 0 ∧ 0 ≤ o
                · rw [if_neg (fun q => q.elim (fun q => q (hkt.mpr c6.1)) (fun q => by have := hot.mp q; omega))]
                  have hmul : (Int32.toInt64 (ir (Int64.toInt32 t) 2) * Int32.toInt64 ((Int64.toInt32 (ju t 32) &&& 65535) + Int64.toInt32 (ju t 48))).toInt = (((o).toNat * (wd t + wp t) : Nat) : Int) := by
                    have hb : (o).toNat * (wd t + wp t) ≤ 536870912 * 131072 := Nat.mul_le_mul (by omega) (by omega)
                    have e : ((((o).toNat * (wd t + wp t) : Nat) : Int)) = o * ((wd t + wp t : Nat) : Int) := by
                      rw [Int.natCast_mul, Int.toNat_of_nonneg c6.2]
                    rw [e]
                    refine jm2 (tl2 ho) (tl2 hlt) ?_ ?_ <;> rw [← e] <;> omega
                  have hcmp : (Int32.toInt64 (Int64.toInt32 (ju x 35)) < Int32.toInt64 (ir (Int64.toInt32 t) 2) * Int32.toInt64 ((Int64.toInt32 (ju t 32) &&& 65535) + Int64.toInt32 (ju t 48))) ↔ ¬ (o).toNat * (wd t + wp t) ≤ we x := by
                    rw [i64_lt, tl, bp_elem, hmul]
                    omega
                  by_cases c7 : (o).toNat * (wd t + wp t) ≤ we x
                  · rw [if_neg (fun q => hcmp.mp q c7)]
                    have hz0 : ((Int64.toInt32 (ju t 32) &&& 65535) + Int64.toInt32 (ju t 48) = 0) ↔ wd t + wp t = 0 := by rw [i32_eq, hlt, i0]; omega
                    have hch : (Int64.toInt32 (ju x 35) + 1 + (if (Int64.toInt32 (ju t 32) &&& 65535) + Int64.toInt32 (ju t 48) = 0 then ir (Int64.toInt32 t) 2 else 0)).toInt = ((we x + 1 + (if wd t + wp t = 0 then (o).toNat else 0) : Nat) : Int) := by
                      by_cases c8 : wd t + wp t = 0
                      · rw [if_pos (hz0.mpr c8), if_pos c8, ia2 hl ho (by omega) (by omega)]
                        omega
                      · rw [if_neg (fun q => c8 (hz0.mp q)), if_neg c8, ia2 hl i0 (by omega) (by omega)]
                        omega
                    by_cases c9 : we x + 1 + (if wd t + wp t = 0 then (o).toNat else 0) ≤ (I 8 0).toNatClampNeg
                    · rw [if_neg (fun q => (hal hch).mp q c9)]
                      rw [if_pos ⟨by omega, c5, c6.1, c6.2, c7, c9⟩] at h
                      have h : r = _ := h
                      rw [sp_13, i_fin hA.symm hch c9, hdep, i_m64 (hda t) (by omega), eq_of (hpt t), eq_of (show (ir (Int64.toInt32 t) 2).toInt = (((o).toNat : Nat) : Int) by rw [ho]; omega)]
                      unfold spv at h
                      dsimp only at h
                      rw [ez] at h ⊢
                      exact h
                    · rw [if_pos ((hal hch).mpr c9)]
                      rw [if_neg (fun q => c9 q.2.2.2.2.2)] at h
                      exact h
                  · rw [if_pos (hcmp.mpr c7)]
                    rw [if_neg (fun q => c7 q.2.2.2.2.1)] at h
                    exact h
                · rw [if_pos (by
                    by_cases c8 : wk t = 0
                    · exact Or.inr (hot.mpr (by omega))
                    · exact Or.inl (fun q => c8 (hkt.mp q)))]
                  rw [if_neg (fun q => c6 ⟨q.2.2.1, q.2.2.2.1⟩)] at h
                  exact h
              · rw [if_pos ((hwit hl (by omega)).mpr c5)]
                rw [if_neg (fun q => c5 q.2.1)] at h
                exact h
          · rw [if_neg (show ¬ (Int64.toInt32 (ju x 32) &&& 7) = 7 by rw [i32_eq, bp_code, e7]; omega)]
            rw [if_neg c3] at h
            have hcd := eq_of (bp_code x)
            have hl := lw_c x
            have hb : (we x * ebn (wc x) + 63) / 64 ≤ 1073741824 := by
              have := ebn_le (wc x)
              have hm : we x * ebn (wc x) ≤ 536870912 * 64 := Nat.mul_le_mul (by omega) this
              omega
            refine ⟨by rw [hcd]; exact oi_in hcx (by omega), ?_⟩
            by_cases c4 : z < 0
            · rw [if_pos (hneg.mpr c4)]
              rw [if_neg (by omega)] at h
              exact h
            · rw [if_neg (fun z => c4 (hneg.mp z))]
              refine ⟨hpin, ?_⟩
              have ez : Int32.ofInt z = Int32.ofNat z.toNat := eq_of (by rw [hz]; omega)
              by_cases c5 : z + (((we x * ebn (wc x) + 63) / 64 : Nat) : Int) ≤ (un (I 7) n : Int)
              · rw [if_neg (fun q => (hwit hl hb).mp q c5)]
                have hz0 : (Int64.toInt32 (ju x 32) &&& 7) = 0 ↔ wc x = 0 := by rw [i32_eq, bp_code, i0]; omega
                have hch : (if (Int64.toInt32 (ju x 32) &&& 7) = 0 then Int64.toInt32 (ju x 35) else Int64.toInt32 ((((Int32.toInt64 (Int64.toInt32 (ju x (35 : Int32)))) * (Int32.toInt64 (eb (Int32.toNatClampNeg ((Int64.toInt32 (ju x (32 : Int32))) &&& (7 : Int32)))))) + (63 : Int64)) / (64 : Int64))).toInt = ((if wc x = 0 then we x else (we x * ebn (wc x) + 63) / 64 : Nat) : Int) := by
                  by_cases c8 : wc x = 0
                  · rw [if_pos (hz0.mpr c8), if_pos c8, bp_elem]
                  · rw [if_neg (fun q => c8 (hz0.mp q)), if_neg c8, hl]
                by_cases c9 : (if wc x = 0 then we x else (we x * ebn (wc x) + 63) / 64) ≤ (I 8 0).toNatClampNeg
                · rw [if_neg (fun q => (hal hch).mp q c9)]
                  rw [if_pos ⟨by omega, c5, c9⟩] at h
                  have h : r = _ := h
                  have h5 : ((5 : Int32) < (Int64.toInt32 (ju x 32) &&& 7)) ↔ ¬ wc x ≤ 5 := by rw [i32_lt, bp_code, show (5 : Int32).toInt = 5 from rfl]; omega
                  have h6 : (Int64.toInt32 (ju x 32) &&& 7) = 6 ↔ wc x = 6 := by rw [i32_eq, bp_code, show (6 : Int32).toInt = 6 from rfl]; omega
                  have hbz : bz ((Int64.toInt32 (ju x 32) &&& 7) = 6) = Int32.ofNat (if wc x = 6 then 1 else 0) := by
                    by_cases c8 : wc x = 6
                    · rw [bz_t (h6.mpr c8), if_pos c8]; rfl
                    · rw [bz_f (fun q => c8 (h6.mp q)), if_neg c8]; rfl
                  unfold spv at h
                  dsimp only at h
                  by_cases c8 : wc x ≤ 5
                  · rw [if_neg (fun q => h5.mp q c8)]
                    rw [sp_13, i_fin hA.symm hch c9, hdep, hbz, hcd, eq_of (bp_elem x), oi_n (by omega), eq_of (eb_n (wc_lt x))]
                    rw [if_pos c8] at h
                    rw [ez] at h ⊢
                    exact h
                  · rw [if_pos (h5.mpr c8)]
                    rw [sp_13, i_fin hA.symm hch c9, hdep, hbz, hcd, eq_of (bp_elem x)]
                    rw [if_neg c8] at h
                    rw [ez] at h ⊢
                    exact h
                · rw [if_pos ((hal hch).mpr c9)]
                  rw [if_neg (fun q => c9 q.2.2)] at h
                  exact h
              · rw [if_pos ((hwit hl hb).mpr c5)]
                rw [if_neg (fun q => c5 q.2.1)] at h
                exact h
