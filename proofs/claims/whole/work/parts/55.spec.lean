/-! what a pointer leads to, in whole numbers -/
def un (U : Nat → Int32) : Nat → Nat := fun s => (U s).toNatClampNeg
def ebn : Nat → Nat := fun i => match i with
  | 1 => 1
  | 2 => 8
  | 3 => 16
  | 4 => 32
  | 5 => 64
  | 6 => 64
  | _ => 0
/-- where it begins, and the word that says what it is -/
def fnd (W : Nat → Nat → Int64) (U : Nat → Nat) (S s k : Nat) (w : Int64) : Option (Nat × Int × Int64) :=
  if wk w = 2 then
    if ws w < S ∧ wf w + wt w < U (ws w) then
      if wt w = 0 then
        if W (ws w) (wf w) ≠ 0 ∧ wk (W (ws w) (wf w)) < 2 then some (ws w, (wf w : Int) + 1 + wo (W (ws w) (wf w)), W (ws w) (wf w)) else none
      else
        if wk (W (ws w) (wf w)) = 2 ∧ wt (W (ws w) (wf w)) = 0 ∧ ws (W (ws w) (wf w)) < S ∧ wk (W (ws w) (wf w + 1)) < 2 ∧ wo (W (ws w) (wf w + 1)) = 0 then some (ws (W (ws w) (wf w)), (wf (W (ws w) (wf w)) : Int), W (ws w) (wf w + 1)) else none
    else none
  else if wk w < 2 then some (s, (k : Int) + 1 + wo w, w) else none
/-- kind, data bits, pointers, count, code, charge -/
def lds (W : Nat → Nat → Int64) (U : Nat → Nat) (n : Nat) (z : Int) (x : Int64) (a : Nat) : Option (Nat × Nat × Nat × Nat × Nat × Nat) :=
  if wk x = 0 then
    if 0 ≤ z ∧ z + (wd x + wp x : Nat) ≤ U n ∧ wd x + wp x ≤ a then some (1, wd x * 64, wp x, 0, 0, wd x + wp x) else none
  else if wc x = 7 then
    if 0 ≤ z ∧ z + (we x + 1 : Nat) ≤ U n ∧ wk (W n z.toNat) = 0 ∧ 0 ≤ wo (W n z.toNat) ∧ (wo (W n z.toNat)).toNat * (wd (W n z.toNat) + wp (W n z.toNat)) ≤ we x ∧ we x + 1 + (if wd (W n z.toNat) + wp (W n z.toNat) = 0 then (wo (W n z.toNat)).toNat else 0) ≤ a then
      some (2, wd (W n z.toNat) * 64, wp (W n z.toNat), (wo (W n z.toNat)).toNat, 7, we x + 1 + (if wd (W n z.toNat) + wp (W n z.toNat) = 0 then (wo (W n z.toNat)).toNat else 0)) else none
  else
    if 0 ≤ z ∧ z + ((we x * ebn (wc x) + 63) / 64 : Nat) ≤ U n ∧ (if wc x = 0 then we x else (we x * ebn (wc x) + 63) / 64) ≤ a then some (2, if wc x ≤ 5 then ebn (wc x) else 0, if wc x = 6 then 1 else 0, we x, wc x, if wc x = 0 then we x else (we x * ebn (wc x) + 63) / 64) else none
/-- kind, depth, segment, place, data bits, pointers, count, code; charge -/
def ld (W : Nat → Nat → Int64) (U : Nat → Nat) (S a s k dp : Nat) : Option ((Nat × Nat × Nat × Nat × Nat × Nat × Nat × Nat) × Nat) :=
  if W s k = 0 then some ((0, 0, 0, 0, 0, 0, 0, 0), 0)
  else match fnd W U S s k (W s k) with
    | none => none
    | some (n, z, x) => if dp = 0 then none else match lds W U n z x a with
      | none => none
      | some (kd, db, pt, ct, cd, ch) => some ((kd, dp - 1, n, z.toNat, db, pt, ct, cd), ch)
theorem ia2 {a b : Int32} {x y : Int} (ha : a.toInt = x) (hb : b.toInt = y) (h1 : -2147483648 ≤ x + y) (h2 : x + y < 2147483648) : (a + b).toInt = x + y := by
  subst ha hb
  exact ia h1 h2
theorem is2 {a b : Int32} {x y : Int} (ha : a.toInt = x) (hb : b.toInt = y) (h1 : -2147483648 ≤ x - y) (h2 : x - y < 2147483648) : (a - b).toInt = x - y := by
  subst ha hb
  exact is h1 h2
theorem im2 {a b : Int32} {x y : Int} (ha : a.toInt = x) (hb : b.toInt = y) (h1 : -2147483648 ≤ x * y) (h2 : x * y < 2147483648) : (a * b).toInt = x * y := by
  subst ha hb
  exact im h1 h2
theorem ja2 {a b : Int64} {x y : Int} (ha : a.toInt = x) (hb : b.toInt = y) (h1 : -9223372036854775808 ≤ x + y) (h2 : x + y < 9223372036854775808) : (a + b).toInt = x + y := by
  subst ha hb
  exact ja h1 h2
theorem js2 {a b : Int64} {x y : Int} (ha : a.toInt = x) (hb : b.toInt = y) (h1 : -9223372036854775808 ≤ x - y) (h2 : x - y < 9223372036854775808) : (a - b).toInt = x - y := by
  subst ha hb
  exact js h1 h2
theorem jm2 {a b : Int64} {x y : Int} (ha : a.toInt = x) (hb : b.toInt = y) (h1 : -9223372036854775808 ≤ x * y) (h2 : x * y < 9223372036854775808) : (a * b).toInt = x * y := by
  subst ha hb
  exact jm h1 h2
theorem ti2 {a : Int64} {x : Int} (ha : a.toInt = x) (h1 : -2147483648 ≤ x) (h2 : x < 2147483648) : (Int64.toInt32 a).toInt = x := by
  subst ha
  exact ti h1 h2
theorem tl2 {a : Int32} {x : Int} (ha : a.toInt = x) : (Int32.toInt64 a).toInt = x := (tl a).trans ha
/-! the class's tests of a word -/
theorem i0 : (0 : Int32).toInt = 0 := rfl
theorem j0 : (0 : Int64).toInt = 0 := rfl
theorem i32_eq {x y : Int32} : x = y ↔ x.toInt = y.toInt := Int32.toInt_inj.symm
theorem i64_eq {x y : Int64} : x = y ↔ x.toInt = y.toInt := Int64.toInt_inj.symm
theorem i32_lt {x y : Int32} : x < y ↔ x.toInt < y.toInt := Int32.lt_iff_toInt_lt
theorem i64_lt {x y : Int64} : x < y ↔ x.toInt < y.toInt := Int64.lt_iff_toInt_lt
theorem nat_of {x : Int32} {n : Nat} (h : x.toInt = n) : x.toNatClampNeg = n := by
  show x.toInt.toNat = n
  rw [h]; rfl
theorem eq_of {x : Int32} {n : Nat} (h : x.toInt = n) : x = Int32.ofNat n := by
  have := x.toInt_lt
  rw [i32_eq, h, oi_i (by omega)]
theorem eq_oz {x : Int32} {z : Int} (h : x.toInt = z) : x = Int32.ofInt z := by
  rw [← h, Int32.ofInt_toInt]
theorem bq_kind (w : Int64) (n : Int32) : ((Int64.toInt32 w) &&& 3) = n ↔ (wk w : Int) = n.toInt := by rw [i32_eq, bp_kind]
theorem ws_lt (w : Int64) : ws w < 4294967296 := by have := bn_lt w; unfold ws; omega
theorem wf_lt (w : Int64) : wf w < 536870912 := by unfold wf; omega
theorem wt_lt (w : Int64) : wt w < 2 := by unfold wt; omega
theorem wk_lt (w : Int64) : wk w < 4 := by unfold wk; omega
theorem wd_lt (w : Int64) : wd w < 65536 := by unfold wd; omega
theorem wp_lt (w : Int64) : wp w < 65536 := by have := bn_lt w; unfold wp; omega
theorem wc_lt (w : Int64) : wc w < 8 := by unfold wc; omega
theorem we_lt (w : Int64) : we w < 536870912 := by have := bn_lt w; unfold we; omega
theorem wo_b (w : Int64) : -536870912 ≤ wo w ∧ wo w < 536870912 := by
  unfold wo
  have h1 := Int.bmod_lt (x := (wn w : Int)) (m := 2 ^ 32) (by decide)
  have h2 := Int.le_bmod (x := (wn w : Int)) (m := 2 ^ 32) (by decide)
  omega
theorem wfo_b (w x : Int64) : -2147483648 ≤ (wf w : Int) + 1 + wo x ∧ (wf w : Int) + 1 + wo x < 2147483648 := by
  have h1 := wo_b x
  have h2 := wf_lt w
  omega
theorem bq_seg {w : Int64} (h : ws w < 2 ^ 31) : (Int64.toInt32 (ju w 32)).toInt = ws w := by
  rw [ti] <;> rw [bp_seg] <;> omega
theorem cw_at (J : st_J) {s : Nat} (h : s < 4) (k : Nat) : J (3 + s) k = cw J s k := by
  match s, h with
  | 0, _ => rfl
  | 1, _ => rfl
  | 2, _ => rfl
  | 3, _ => rfl
  | s + 4, h => exact absurd h (by omega)
/-- what the message's numbers keep to -/
def wfm (I : st_I) : Prop := (1 ≤ (I 1 2).toInt ∧ (I 1 2).toInt ≤ 4) ∧ (∀ s, s < 4 → 0 ≤ (I 7 s).toInt ∧ (I 7 s).toInt ≤ 64) ∧ (0 ≤ (I 8 0).toInt ∧ (I 8 0).toInt ≤ 100000)
theorem un_i {U : Nat → Int32} {s : Nat} (h : 0 ≤ (U s).toInt) : ((un U s : Nat) : Int) = (U s).toInt := by
  show (((U s).toInt.toNat : Nat) : Int) = _
  omega
set_option maxRecDepth 20000 in
theorem hc_Re_find {X : pm_X} {d : Nat} {I : st_I} {J : st_J} {w : Int64} {s k : Nat} (hm : wfm I) (hs : s < 4) (hk : k < 64) (r : pm_R) : om (fnd (cw J) (un (I 7)) (I 1 2).toNatClampNeg s k w) (fun v => r = (.inl none, st_h (st_w (st_w I 8 1 (Int32.ofNat v.1)) 8 2 (Int32.ofInt v.2.1)) (st_y J 8 3 v.2.2), 0, 0)) (r = (.inr 2, st_h I J, 1, 6)) → Ex X (d + 3) 31 [.ref 8, .ref 1, .long w, .int (Int32.ofNat s), .int (Int32.ofNat k)] (st_h I J) r := by
  obtain ⟨⟨s1, s4⟩, hu, -⟩ := hm
  have e3 : (3 : Int32).toInt = 3 := rfl
  have e2 : (2 : Int32).toInt = 2 := rfl
  have e1' : (1 : Int32).toInt = 1 := rfl
  have hS : (((I 1 2).toNatClampNeg : Nat) : Int) = (I 1 2).toInt := by show (((I 1 2).toInt.toNat : Nat) : Int) = _; omega
  have hwo := wo_b
  have hseg := bp_seg
  have hfar := bp_far
  have hws := ws_lt
  have hwf := wf_lt
  intro h
  refine (ev_Re_find r).mpr ?_
  unfold fnd at h
  by_cases c1 : wk w = 2
  · rw [if_pos ((bq_kind w 2).mpr (by rw [e2]; omega))]
    rw [if_pos c1] at h
    have hpin : ws w < 4 → pm_in (Int64.toInt32 (ju w 32)) 4 = true := fun h4 => by
      rw [eq_of (bq_seg (w := w) (by omega))]
      exact oi_in h4 (by omega)
    refine ⟨fun _ h1 _ => hpin ?_, ?_⟩
    · rw [i64_lt, hseg, tl] at h1; omega
    · by_cases c2 : ws w < (I 1 2).toNatClampNeg ∧ wf w < un (I 7) (ws w)
      · have h4 : ws w < 4 := by omega
        have hn := nat_of (bq_seg (w := w) (by omega))
        have hnf := nat_of (hfar w)
        have hU := hu (ws w) h4
        have hUi := un_i hU.1
        rw [if_pos (by
          rw [hn, i64_lt, i64_lt, i32_lt, i32_lt, hseg, hfar, tl, j0, i0]
          omega)]
        by_cases c3 : wt w = 0
        · rw [if_pos ((bp_dbl w).mpr c3)]
          rw [if_pos (show ws w < (I 1 2).toNatClampNeg ∧ wf w + wt w < un (I 7) (ws w) by omega), if_pos c3] at h
          refine ⟨hpin h4, ?_, ?_⟩
          · rw [eq_of (hfar w)]; exact oi_in (by omega) (by omega)
          · rw [hn, hnf, cw_at J h4]
            by_cases c4 : cw J (ws w) (wf w) = 0
            · rw [if_pos c4]
              rw [if_neg (fun z => z.1 c4)] at h
              exact h
            · rw [if_neg c4]
              by_cases c5 : wk (cw J (ws w) (wf w)) < 2
              · rw [if_pos ((bp_near _).mpr c5)]
                rw [if_pos ⟨c4, c5⟩] at h
                have e1 := eq_of (bq_seg (w := w) (by omega))
                have e5 : iu (Int64.toInt32 w) 3 + 1 + ir (Int64.toInt32 (cw J (ws w) (wf w))) 2 = Int32.ofInt ((wf w : Int) + 1 + wo (cw J (ws w) (wf w))) := by
                  refine eq_oz ?_
                  have := hwo (cw J (ws w) (wf w))
                  have := hwf w
                  have e6 : (iu (Int64.toInt32 w) 3 + 1).toInt = (wf w : Int) + 1 := by
                    rw [ia (by rw [hfar, e1']; omega) (by rw [hfar, e1']; omega), hfar, e1']
                  exact ia2 e6 (bp_off _) (wfo_b w _).1 (wfo_b w _).2
                rw [e1, e5]
                exact h
              · rw [if_neg (fun z => c5 ((bp_near _).mp z))]
                rw [if_neg (fun z => c5 z.2)] at h
                exact h
        · rw [if_neg (fun z => c3 ((bp_dbl w).mp z))]
          refine ⟨fun _ _ _ => hpin h4, ?_⟩
          have hf1 : (iu (Int64.toInt32 w) 3 + 1).toInt = ((wf w + 1 : Nat) : Int) := by
            have := hwf w
            rw [ia (by rw [hfar, e1']; omega) (by rw [hfar, e1']; omega), hfar, e1']
            omega
          have hwt := wt_lt w
          by_cases c4 : wf w + 1 < un (I 7) (ws w)
          · rw [if_pos (by
              rw [hn, i64_lt, i64_lt, i32_lt, i32_lt, hseg, hf1, tl, j0, i0]
              omega)]
            rw [if_pos (show ws w < (I 1 2).toNatClampNeg ∧ wf w + wt w < un (I 7) (ws w) by omega), if_neg c3] at h
            have hnf1 := nat_of hf1
            refine ⟨hpin h4, ?_, ?_, ?_⟩
            · rw [eq_of (hfar w)]; exact oi_in (by omega) (by omega)
            · rw [eq_of hf1]; exact oi_in (by omega) (by omega)
            · rw [hn, hnf, hnf1, cw_at J h4, cw_at J h4]
              generalize cw J (ws w) (wf w) = f at h ⊢
              generalize cw J (ws w) (wf w + 1) = x at h ⊢
              have hk2 := bq_kind f 2
              rw [e2] at hk2
              have hdb := bp_dbl f
              have hnr := bp_near x
              have hof : ir (Int64.toInt32 x) 2 = 0 ↔ wo x = 0 := by rw [i32_eq, bp_off, i0]
              by_cases c5 : wk f = 2 ∧ wt f = 0
              · rw [if_neg (fun z => z.elim (fun z => z (hk2.mpr (by omega))) (fun z => z (hdb.mpr c5.2)))]
                by_cases c6 : ws f < (I 1 2).toNatClampNeg
                · rw [if_pos (by rw [i64_lt, hseg, tl]; omega)]
                  by_cases c7 : wk x < 2 ∧ wo x = 0
                  · rw [if_neg (fun z => z.elim (fun z => z (hnr.mpr c7.1)) (fun z => z (hof.mpr c7.2)))]
                    rw [if_pos ⟨c5.1, c5.2, c6, c7.1, c7.2⟩] at h
                    rw [eq_of (bq_seg (w := f) (by omega)), eq_oz (hfar f)]
                    exact h
                  · rw [if_pos (by
                      by_cases c8 : wk x < 2
                      · exact Or.inr (fun z => c7 ⟨c8, hof.mp z⟩)
                      · exact Or.inl (fun z => c8 (hnr.mp z)))]
                    rw [if_neg (fun z => c7 ⟨z.2.2.2.1, z.2.2.2.2⟩)] at h
                    exact h
                · rw [if_neg (by rw [i64_lt, hseg, tl]; omega)]
                  rw [if_neg (fun z => c6 z.2.2.1)] at h
                  exact h
              · rw [if_pos (by
                  by_cases c8 : wk f = 2
                  · exact Or.inr (fun z => c5 ⟨c8, hdb.mp z⟩)
                  · exact Or.inl (fun z => c8 (by have := hk2.mp z; omega)))]
                rw [if_neg (fun z => c5 ⟨z.1, z.2.1⟩)] at h
                exact h
          · rw [if_neg (by
              rw [hn, i64_lt, i64_lt, i32_lt, i32_lt, hseg, hf1, tl, j0, i0]
              omega)]
            rw [if_neg (by omega)] at h
            exact h
      · rw [if_neg (fun z => c2 (by
          rw [i64_lt, i64_lt, i32_lt, i32_lt, hseg, hfar, tl, j0, i0] at z
          have h4 : ws w < 4 := by omega
          rw [nat_of (bq_seg (w := w) (by omega))] at z
          have hUi := un_i (hu (ws w) h4).1
          omega))]
        rw [if_neg (fun z => c2 ⟨z.1, by omega⟩)] at h
        exact h
  · rw [if_neg (fun z => c1 (by have := (bq_kind w 2).mp z; rw [e2] at this; omega))]
    rw [if_neg c1] at h
    by_cases c5 : wk w < 2
    · rw [if_pos ((bp_near _).mpr c5)]
      rw [if_pos c5] at h
      have e5 : Int32.ofNat k + 1 + ir (Int64.toInt32 w) 2 = Int32.ofInt ((k : Int) + 1 + wo w) := by
        refine eq_oz ?_
        have := hwo w
        rw [oi_a]
        exact ia2 (oi_i (by omega)) (bp_off _) (by omega) (by omega)
      rw [e5]
      exact h
    · rw [if_neg (fun z => c5 ((bp_near _).mp z))]
      rw [if_neg c5] at h
      exact h
theorem hd_Re_find {X : pm_X} {d : Nat} {I : st_I} {J : st_J} {p2 : Int64} {p3 p4 : Int32} (r : pm_R) : wfm I ∧ (pm_in p3 4 = true ∧ (pm_in p4 64 = true ∧ om (fnd (cw J) (un (I 7)) (Int32.toNatClampNeg (I 1 2)) (Int32.toNatClampNeg p3) (Int32.toNatClampNeg p4) p2) (fun v => r = (.inl none, st_h (st_w (st_w I 8 1 (Int32.ofNat v.1)) 8 2 (Int32.ofInt v.2.1)) (st_y J 8 3 v.2.2), 0, 0)) (r = (.inr 2, st_h I J, 1, 6)))) → Ex X (d + 3) 31 [.ref 8, .ref 1, .long p2, .int p3, .int p4] (st_h I J) r := by
  rintro ⟨hm, h3, h4, h⟩
  have h3' := pm_in_c h3
  have h4' := pm_in_c h4
  rw [i32_lt, i0] at h3' h4'
  have e3 := oi_of (x := p3) (by omega)
  have e4 := oi_of (x := p4) (by omega)
  rw [e3, e4]
  exact hc_Re_find hm h3'.2 h4'.2 r h
