/-! .. from the pointer on -/
theorem bm_k (w : Int64) (n : Int64) (m : Nat) (hn : n.toInt = m) : (w &&& 3) = n ↔ wk w = m := by rw [i64_eq, bm_kind, hn]; omega
theorem bm_gt (x : Int64) : (1 < (x &&& 3)) ↔ ¬ wk x < 2 := by rw [i64_lt, bm_kind, show (1 : Int64).toInt = 1 from rfl]; omega
theorem bm_tw (w : Int64) : ((ju w 2 &&& 1) = 1) ↔ wt w = 1 := by rw [i64_eq, bm_dbl, show (1 : Int64).toInt = 1 from rfl]; omega
theorem bm_7 (f : Int64) : (f &&& 7) = 2 ↔ wk f = 2 ∧ wt f = 0 := by
  rw [i64_eq, bm_kind7, show (2 : Int64).toInt = 2 from rfl]
  unfold wk wt
  omega
theorem bm_of (x : Int64) : (ir (Int64.toInt32 x) 2 = 0) ↔ wo x = 0 := by rw [i32_eq, bp_off, i0]
theorem bm_fi (w : Int64) : (Int64.toInt32 (ju w 3 &&& 536870911)).toInt = wf w := by
  have := wf_lt w
  exact ti2 (bm_far w) (by omega) (by omega)
theorem wko_b (k : Nat) (hk : k < 64) (x : Int64) : -2147483648 ≤ (k : Int) + 1 + wo x ∧ (k : Int) + 1 + wo x < 2147483648 := by
  have h1 := wo_b x
  omega
theorem ja32 {a b : Int64} {x y : Int} (ha : a.toInt = x) (hb : b.toInt = y) (h : -2147483648 ≤ x + y ∧ x + y < 2147483648) : (a + b).toInt = x + y := ja2 ha hb (by omega) (by omega)
/-- the hand's place cleared -/
def mcl (I : st_I) : st_I := fun a f => if 173 ≤ a ∧ a ≤ 182 ∧ f = 16 then 0 else I a f
theorem mcl_o {I : st_I} {a f : Nat} (h : ¬ (173 ≤ a ∧ a ≤ 182 ∧ f = 16)) : mcl I a f = I a f := if_neg h
theorem mcl_r {I : st_I} {a : Nat} (h : ¬ (173 ≤ a ∧ a ≤ 182)) : mcl I a = I a := by
  funext f
  exact mcl_o (fun z => h ⟨z.1, z.2.1⟩)
theorem mcl_z {I : st_I} {a : Nat} (h : 173 ≤ a) (h' : a ≤ 182) : mcl I a 16 = 0 := if_pos ⟨h, h', rfl⟩
set_option maxRecDepth 20000 in
theorem mf_ex {X : pm_X} {d : Nat} {I : st_I} {J : st_J} {s k dp : Nat} (hm : wmm I) (hs : s < 4) (hk : k < 64) (hdp : dp ≤ 64) : ∃ K b, Ex X (d + 4) 182 [.ref 166, .int 16, .int (Int32.ofNat s), .int (Int32.ofNat k), .int (Int32.ofNat dp)] (st_h I J) (.inl (some (.int b)), st_h K J, 0, 0) ∧ MA I K ∧ MP I K (I 166 8).toNatClampNeg b (ld (mw J) (un (I 170)) (I 166 6).toNatClampNeg (I 166 8).toNatClampNeg s k dp) := by
  have hm0 : wmm (mcl I) := by
    unfold wmm
    rw [mcl_o (by omega), mcl_o (by omega), mcl_r (by omega)]
    exact hm
  have hc0 : ∀ a, 173 ≤ a → a ≤ 182 → (mcl I) a 16 = 0 := fun a h h' => mcl_z h h'
  have e8 : (mcl I) 166 8 = I 166 8 := mcl_o (by omega)
  have e170 : (mcl I) 170 = I 170 := mcl_r (by omega)
  obtain ⟨⟨s1, s4⟩, hu, a0, a1⟩ := hm
  have hS := cln (x := I 166 6) (by omega)
  have hseg := bp_seg
  have hfar := bm_far
  have F : ∀ {K b K2 b2 K4 b4} (r : pm_R), _ → Ex X (d + 4) 182 [.ref 166, .int 16, .int (Int32.ofNat s), .int (Int32.ofNat k), .int (Int32.ofNat dp)] (st_h I J) r := fun {K b K2 b2 K4 b4} r => iv_M_followed (p2 := Int32.ofNat s) (p3 := Int32.ofNat k) (p4 := Int32.ofNat dp) (K := K) (b := b) (K2 := K2) (b2 := b2) (K4 := K4) (b4 := b4) r
  rw [oi_64 (by omega) (by omega), oi_n (by omega), st_z10] at F
  have hW : J 167 (64 * s + k) = mw J s k := rfl
  rw [hW] at F
  have hpin : pm_in (Int32.ofNat (64 * s + k)) 256 = true := oi_in (by omega) (by omega)
  have hMA0 : MA I (mcl I) := fun a f h1 h2 => mcl_o h1
  have nope : ∀ {o : Option ((Nat × Nat × Nat × Nat × Nat × Nat × Nat × Nat) × Nat)}, o = none → Ex X (d + 4) 182 [.ref 166, .int 16, .int (Int32.ofNat s), .int (Int32.ofNat k), .int (Int32.ofNat dp)] (st_h I J) (.inl (some (.int 0)), st_h (mcl I) J, 0, 0) → ∃ K b, Ex X (d + 4) 182 [.ref 166, .int 16, .int (Int32.ofNat s), .int (Int32.ofNat k), .int (Int32.ofNat dp)] (st_h I J) (.inl (some (.int b)), st_h K J, 0, 0) ∧ MA I K ∧ MP I K (I 166 8).toNatClampNeg b o := fun {o} ho hE => by
    subst ho
    exact ⟨_, _, hE, hMA0, rfl, e8⟩
  have good : ∀ {n : Nat} {z : Int} {x y : Int64}, n < 4 → -2147483648 ≤ z → z < 2147483648 → wk x < 2 → y.toInt = z → (∀ K b, (b = 0 ∨ b = 1) → Ex X (d + 3) 184 [.ref 166, .int 16, .long x, .long y, .int (Int32.ofNat n), .int (Int32.ofNat dp)] (st_h (mcl I) J) (.inl (some (.int b)), st_h K J, 0, 0) → Ex X (d + 4) 182 [.ref 166, .int 16, .int (Int32.ofNat s), .int (Int32.ofNat k), .int (Int32.ofNat dp)] (st_h I J) (.inl (some (.int b)), st_h K J, 0, 0)) → ∃ K b, Ex X (d + 4) 182 [.ref 166, .int 16, .int (Int32.ofNat s), .int (Int32.ofNat k), .int (Int32.ofNat dp)] (st_h I J) (.inl (some (.int b)), st_h K J, 0, 0) ∧ MA I K ∧ MP I K (I 166 8).toNatClampNeg b (if dp = 0 then none else match lds (mw J) (un (I 170)) n z x (I 166 8).toNatClampNeg with
      | none => none
      | some (kd, db, pt, ct, cd, ch) => some ((kd, dp - 1, n, z.toNat, db, pt, ct, cd), ch)) := fun {n z x y} hn z1 z2 hx hy hE => by
    obtain ⟨K, b, h1, h2, h3⟩ := ms_ex (X := X) (d := d) (J := J) hm0 hc0 hn hdp hy z1 z2 hx
    rw [e8, e170] at h3
    refine ⟨K, b, hE K b ?_ h1, fun a f q1 q2 => (h2 a f q1 q2).trans (mcl_o q1), ?_⟩
    · generalize (if dp = 0 then none else match lds (mw J) (un (I 170)) n z x (I 166 8).toNatClampNeg with
        | none => none
        | some (kd, db, pt, ct, cd, ch) => some ((kd, dp - 1, n, z.toNat, db, pt, ct, cd), ch)) = o at h3
      cases o with
      | none => exact Or.inl h3.1
      | some v => exact Or.inr h3.1
    · generalize (if dp = 0 then none else match lds (mw J) (un (I 170)) n z x (I 166 8).toNatClampNeg with
        | none => none
        | some (kd, db, pt, ct, cd, ch) => some ((kd, dp - 1, n, z.toNat, db, pt, ct, cd), ch)) = o at h3 ⊢
      cases o with
      | none => exact ⟨h3.1, h3.2.trans e8⟩
      | some v => exact h3
  unfold ld
  by_cases c0 : mw J s k = 0
  · rw [if_pos c0]
    refine ⟨mcl I, 1, F (K := I) (b := 0) (K2 := I) (b2 := 0) (K4 := I) (b4 := 0) _ ⟨hpin, ?_⟩, hMA0, rfl, ?_, ?_⟩
    · rw [if_pos c0]
      rfl
    · rw [e8, Nat.sub_zero]
      exact oi_of a0
    · intro a h1 h2
      rw [mcl_z h1 h2]
      revert a
      exact mp_of (K := fun _ _ => 0) rfl rfl rfl rfl rfl rfl rfl rfl rfl rfl
  · rw [if_neg c0]
    generalize mw J s k = w at F c0 ⊢
    have hk3 := bm_k w 3 3 rfl
    have hk2 := bm_k w 2 2 rfl
    have hkl := wk_lt w
    unfold fnd
    by_cases c1 : wk w = 2
    · rw [if_pos c1]
      by_cases c2 : ws w < (I 166 6).toNatClampNeg
      · have h4 : ws w < 4 := by omega
        have hsg := eq_of (bq_seg (w := w) (by omega))
        have hsn := nat_of (bq_seg (w := w) (by omega))
        have hfi := eq_of (bm_fi w)
        have hU := hu (ws w) h4
        have hUi := un_i hU.1
        have hlt : (ju w 32 < Int32.toInt64 (I 166 6)) := by rw [i64_lt, hseg, tl]; omega
        have htl := wt_lt w
        have hwfl := wf_lt w
        have hbz : (Int32.toInt64 (bz ((ju w 2 &&& 1) = 1))).toInt = wt w := by
          rw [tl]
          by_cases q : wt w = 1
          · rw [bz_t ((bm_tw w).mpr q), q]; rfl
          · rw [bz_f (fun z => q ((bm_tw w).mp z)), show wt w = 0 by omega]; rfl
        have hpl : ((ju w 3 &&& 536870911) + Int32.toInt64 (bz ((ju w 2 &&& 1) = 1)) < Int32.toInt64 (I 170 (Int64.toInt32 (ju w 32)).toNatClampNeg)) ↔ wf w + wt w < un (I 170) (ws w) := by
          rw [hsn, i64_lt, ja2 (hfar w) hbz (by omega) (by omega), tl]
          omega
        by_cases c3 : wf w + wt w < un (I 170) (ws w)
        · rw [if_pos ⟨c2, c3⟩]
          have hp4 : pm_in (Int64.toInt32 (ju w 32)) 4 = true := by rw [hsg]; exact oi_in h4 (by omega)
          have hix : (64 : Int32) * Int64.toInt32 (ju w 32) + Int64.toInt32 (ju w 3 &&& 536870911) = Int32.ofNat (64 * ws w + wf w) := by
            rw [hsg, hfi]
            exact oi_64 (by omega) (by omega)
          have hixn : (Int32.ofNat (64 * ws w + wf w)).toNatClampNeg = 64 * ws w + wf w := oi_n (by omega)
          have hix1 : Int32.ofNat (64 * ws w + wf w) + 1 = Int32.ofNat (64 * ws w + (wf w + 1)) := oi_a _
          have hixn1 : (Int32.ofNat (64 * ws w + (wf w + 1))).toNatClampNeg = 64 * ws w + (wf w + 1) := oi_n (by omega)
          rw [hix, hixn, hix1, hixn1] at F
          have hJ1 : J 167 (64 * ws w + wf w) = mw J (ws w) (wf w) := rfl
          have hJ2 : J 167 (64 * ws w + (wf w + 1)) = mw J (ws w) (wf w + 1) := rfl
          rw [hJ1, hJ2] at F
          have hp5 : pm_in (Int32.ofNat (64 * ws w + wf w)) 256 = true := oi_in (by omega) (by omega)
          by_cases c4 : wt w = 0
          · rw [if_pos c4]
            have hx0 := bm_gt (mw J (ws w) (wf w))
            generalize mw J (ws w) (wf w) = x at F hx0 ⊢
            by_cases c5 : x ≠ 0 ∧ wk x < 2
            · rw [if_pos c5]
              refine good h4 (wfo_b w x).1 (wfo_b w x).2 c5.2 (y := (ju w 3 &&& 536870911) + 1 + Int32.toInt64 (ir (Int64.toInt32 x) 2)) ?_ ?_
              · exact ja32 (ja2 (hfar w) (show (1 : Int64).toInt = 1 from rfl) (by omega) (by omega)) (tl2 (bp_off x)) (wfo_b w x)
              · intro K b hb hE
                refine F (K := I) (b := 0) (K2 := K) (b2 := b) (K4 := I) (b4 := 0) _ ⟨hpin, ?_⟩
                rw [if_neg c0, if_neg (fun q => by have := hk3.mp q; omega), if_pos (hk2.mpr c1), if_pos hlt]
                refine ⟨hp4, ?_⟩
                rw [if_pos (hpl.mpr c3)]
                refine ⟨hp5, ?_⟩
                rw [if_neg (fun q => by have := (bm_tw w).mp q; omega), if_neg c5.1, if_neg (fun q => hx0.mp q c5.2), hsg]
                exact ⟨hE, hb, rfl⟩
            · rw [if_neg c5]
              refine nope rfl (F (K := I) (b := 0) (K2 := I) (b2 := 0) (K4 := I) (b4 := 0) _ ⟨hpin, ?_⟩)
              rw [if_neg c0, if_neg (fun q => by have := hk3.mp q; omega), if_pos (hk2.mpr c1), if_pos hlt]
              refine ⟨hp4, ?_⟩
              rw [if_pos (hpl.mpr c3)]
              refine ⟨hp5, ?_⟩
              rw [if_neg (fun q => by have := (bm_tw w).mp q; omega)]
              by_cases q : x = 0
              · rw [if_pos q]; rfl
              · rw [if_neg q, if_pos (hx0.mpr (fun z => c5 ⟨q, z⟩))]; rfl
          · rw [if_neg c4]
            have hp6 : pm_in (Int32.ofNat (64 * ws w + (wf w + 1))) 256 = true := oi_in (by omega) (by omega)
            have htw := (bm_tw w).mpr (by omega)
            have hk3n : ¬ (w &&& 3) = 3 := fun q => by have := hk3.mp q; omega
            generalize mw J (ws w) (wf w) = f at F ⊢
            generalize mw J (ws w) (wf w + 1) = x at F ⊢
            have hf7 := bm_7 f
            have hx0 := bm_gt x
            have hxo := bm_of x
            have hfs : (ju f 32 < Int32.toInt64 (I 166 6)) ↔ ws f < (I 166 6).toNatClampNeg := by rw [i64_lt, hseg, tl]; omega
            by_cases c5 : wk f = 2 ∧ wt f = 0
            · by_cases c6 : ws f < (I 166 6).toNatClampNeg
              · by_cases c7 : wk x < 2 ∧ wo x = 0
                · rw [if_pos ⟨c5.1, c5.2, c6, c7.1, c7.2⟩]
                  have hwf2 := wf_lt f
                  refine good (n := ws f) (z := (wf f : Int)) (x := x) (by omega) (by omega) (by omega) c7.1 (y := (ju f 3 &&& 536870911) + Int32.toInt64 (ir (Int64.toInt32 x) 2)) ?_ ?_
                  · rw [ja2 (hfar f) (tl2 ((bp_off x).trans c7.2)) (by omega) (by omega)]
                    omega
                  · intro K b hb hE
                    refine F (K := K) (b := b) (K2 := I) (b2 := 0) (K4 := I) (b4 := 0) _ ⟨hpin, ?_⟩
                    rw [if_neg c0, if_neg hk3n, if_pos (hk2.mpr c1), if_pos hlt]
                    refine ⟨hp4, ?_⟩
                    rw [if_pos (hpl.mpr c3)]
                    refine ⟨hp5, ?_⟩
                    rw [if_pos htw]
                    rw [if_pos (hf7.mpr c5), if_pos (hfs.mpr c6)]
                    refine ⟨hp6, ?_⟩
                    rw [if_neg (fun q => hx0.mp q c7.1), if_pos (hxo.mpr c7.2), eq_of (bq_seg (w := f) (by omega))]
                    exact ⟨hE, hb, rfl⟩
                · rw [if_neg (fun z => c7 ⟨z.2.2.2.1, z.2.2.2.2⟩)]
                  refine nope rfl (F (K := I) (b := 0) (K2 := I) (b2 := 0) (K4 := I) (b4 := 0) _ ⟨hpin, ?_⟩)
                  rw [if_neg c0, if_neg hk3n, if_pos (hk2.mpr c1), if_pos hlt]
                  refine ⟨hp4, ?_⟩
                  rw [if_pos (hpl.mpr c3)]
                  refine ⟨hp5, ?_⟩
                  rw [if_pos htw]
                  rw [if_pos (hf7.mpr c5), if_pos (hfs.mpr c6)]
                  refine ⟨hp6, ?_⟩
                  by_cases q : wk x < 2
                  · rw [if_neg (fun z => hx0.mp z q), if_neg (fun z => c7 ⟨q, hxo.mp z⟩)]; rfl
                  · rw [if_pos (hx0.mpr q)]; rfl
              · rw [if_neg (fun z => c6 z.2.2.1)]
                refine nope rfl (F (K := I) (b := 0) (K2 := I) (b2 := 0) (K4 := I) (b4 := 0) _ ⟨hpin, ?_⟩)
                rw [if_neg c0, if_neg hk3n, if_pos (hk2.mpr c1), if_pos hlt]
                refine ⟨hp4, ?_⟩
                rw [if_pos (hpl.mpr c3)]
                refine ⟨hp5, ?_⟩
                rw [if_pos htw]
                rw [if_pos (hf7.mpr c5), if_neg (fun z => c6 (hfs.mp z))]
                rfl
            · rw [if_neg (fun z => c5 ⟨z.1, z.2.1⟩)]
              refine nope rfl (F (K := I) (b := 0) (K2 := I) (b2 := 0) (K4 := I) (b4 := 0) _ ⟨hpin, ?_⟩)
              rw [if_neg c0, if_neg hk3n, if_pos (hk2.mpr c1), if_pos hlt]
              refine ⟨hp4, ?_⟩
              rw [if_pos (hpl.mpr c3)]
              refine ⟨hp5, ?_⟩
              rw [if_pos htw]
              rw [if_neg (fun z => c5 (hf7.mp z))]
              rfl
        · rw [if_neg (fun z => c3 z.2)]
          refine nope rfl (F (K := I) (b := 0) (K2 := I) (b2 := 0) (K4 := I) (b4 := 0) _ ⟨hpin, ?_⟩)
          rw [if_neg c0, if_neg (fun q => by have := hk3.mp q; omega), if_pos (hk2.mpr c1), if_pos hlt]
          refine ⟨by rw [hsg]; exact oi_in h4 (by omega), ?_⟩
          rw [if_neg (fun z => c3 (hpl.mp z))]
          rfl
      · rw [if_neg (fun z => c2 z.1)]
        refine nope rfl (F (K := I) (b := 0) (K2 := I) (b2 := 0) (K4 := I) (b4 := 0) _ ⟨hpin, ?_⟩)
        rw [if_neg c0, if_neg (fun q => by have := hk3.mp q; omega), if_pos (hk2.mpr c1), if_neg (by rw [i64_lt, hseg, tl]; omega)]
        rfl
    · rw [if_neg c1]
      by_cases c5 : wk w < 2
      · rw [if_pos c5]
        refine good hs (wko_b k hk w).1 (wko_b k hk w).2 c5 (y := Int32.toInt64 (Int32.ofNat k + 1) + Int32.toInt64 (ir (Int64.toInt32 w) 2)) ?_ ?_
        · rw [oi_a]
          exact ja32 (tl2 ((oi_i (i := k + 1) (by omega)).trans (by omega))) (tl2 (bp_off w)) (wko_b k hk w)
        · intro K b hb hE
          refine F (K := I) (b := 0) (K2 := I) (b2 := 0) (K4 := K) (b4 := b) _ ⟨hpin, ?_⟩
          rw [if_neg c0, if_neg (fun q => by have := hk3.mp q; omega), if_neg (fun q => by have := hk2.mp q; omega)]
          exact ⟨hE, hb, rfl⟩
      · rw [if_neg c5]
        refine nope rfl (F (K := I) (b := 0) (K2 := I) (b2 := 0) (K4 := I) (b4 := 0) _ ⟨hpin, ?_⟩)
        rw [if_neg c0, if_pos (hk3.mpr (by omega))]
        rfl
