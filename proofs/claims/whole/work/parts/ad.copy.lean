/-! .. level by level -/
def LF (I : st_I) (l sg : Nat) (q : P7) : Prop := I l 1 = Int32.ofNat q.1 ∧ (q.1 ≠ 0 → I l 2 = Int32.ofNat q.2.1 ∧ I l 3 = Int32.ofNat q.2.2.1 ∧ I l 4 = Int32.ofNat q.2.2.2.1 ∧ I l 5 = Int32.ofNat q.2.2.2.2.1 ∧ I l 6 = Int32.ofNat q.2.2.2.2.2.1 ∧ I l 7 = Int32.ofNat q.2.2.2.2.2.2) ∧ I (l + 1) 2 = Int32.ofNat sg
theorem LF_f {D sg : Nat} {I I' : st_I} {J J' : st_J} {q : P7} (h : LF I (15 + 2 * (D + 1)) sg q) (hf : FR D I I' J J') : LF I' (15 + 2 * (D + 1)) sg q := by
  have e : ∀ f, I' (15 + 2 * (D + 1)) f = I (15 + 2 * (D + 1)) f := fun f => hf.1 _ f (by omega) (by omega) (by omega)
  have e1 : ∀ f, I' (15 + 2 * (D + 1) + 1) f = I (15 + 2 * (D + 1) + 1) f := fun f => hf.1 _ f (by omega) (by omega) (by omega)
  unfold LF
  rw [e, e, e, e, e, e, e, e1]
  exact h
theorem ly_bv {U : Nat → Nat} {R : Nat → Int64} {v : V8} {n : Nat} (hv : vk U (v98 v)) (hU : U v.2.2.1 ≤ 64) (h0 : v.1 ≠ 0) (hn : n + lyn R v n ≤ 64) : (lyp R v n).1 ≤ 64 ∧ (∀ e j, e < (lyp R v n).1 → j < (lyp R v n).2.2.2.2.2.2 → (lyp R v n).2.1 + e * ((lyp R v n).2.2.1 + (lyp R v n).2.2.2.1) + (lyp R v n).2.2.1 + j < 64 ∧ (lyp R v n).2.2.2.2.1 + e * ((lyp R v n).2.2.2.2.2.1 + (lyp R v n).2.2.2.2.2.2) + (lyp R v n).2.2.2.2.2.1 + j < n + lyn R v n) ∧ (lyp R v n).1 * (lyp R v n).2.2.2.2.2.2 ≤ lyn R v n ∧ (lyp R v n).2.2.2.2.2.2 ≤ 64 := by
  obtain ⟨kd, dp, sg, pl, db, pt, ct, cd⟩ := v
  exact ly_b hv hU h0 hn
section CPZ
variable {X : pm_X} {W : Nat → Nat → Int64} {U : Nat → Nat} {S : Nat}
/-- a pointer's whole copy, at a depth -/
def CC (X : pm_X) (W : Nat → Nat → Int64) (U : Nat → Nat) (S D d : Nat) : Prop := ∀ (s k t : Nat) (I : st_I) (J : st_J) (g : CR), s < 4 → k < 64 → t < 64 → MS W U S I J → CS I J g → CG D I J (cpy W U S D s k t g) (Ex X (d + D + 5) 153 [.ref 12, .ref 1, .ref 8, .int (Int32.ofNat s), .int (Int32.ofNat k), .int (Int32.ofNat t), .int (Int32.ofNat D)] (st_h I J)) (fun I' J' r => r = (.inl none, st_h I' J', 0, 0))
theorem cpx_t {d : Nat} {I I1 : st_I} {J J1 : st_J} {p3 p4 p5 p6 : Int32} (h : Ex X (d + 4) 153 [.ref 12, .ref 1, .ref 8, .int p3, .int p4, .int p5, .int p6] (st_h I J) (.inr 2, st_h I1 J1, 1, 6)) : cpx X d I J p3 p4 p5 p6 none (I1, J1) True := fun r hr => by
  have hr : (if True then r = (.inr 2, st_h I1 J1, 1, 6) else r = (.inr 3, st_h I1 J1, 1, 6)) := hr
  rw [if_pos trivial] at hr
  rw [hr]
  exact h
theorem cpx_f {d : Nat} {I I1 : st_I} {J J1 : st_J} {p3 p4 p5 p6 : Int32} (h : Ex X (d + 4) 153 [.ref 12, .ref 1, .ref 8, .int p3, .int p4, .int p5, .int p6] (st_h I J) (.inr 3, st_h I1 J1, 1, 6)) : cpx X d I J p3 p4 p5 p6 none (I1, J1) False := fun r hr => by
  have hr : (if False then r = (.inr 2, st_h I1 J1, 1, 6) else r = (.inr 3, st_h I1 J1, 1, 6)) := hr
  rw [if_neg not_false] at hr
  rw [hr]
  exact h
theorem cc_in {D d : Nat} (hD : D + 1 ≤ 64) (ih : CC X W U S D d) {p3 p4 p5 : Int32} {sg a b e : Nat} (hsg : sg < 4) {q : P7} (he : e < q.1) (hab : a + q.2.2.2.2.2.2 ≤ 64 ∧ b + q.2.2.2.2.2.2 ≤ 64) (hq : q.1 ≤ 64) : ∀ m j, j + m = q.2.2.2.2.2.2 → ∀ (I : st_I) (J : st_J) (g : CR), MS W U S I J → CS I J g → LF I (15 + 2 * (D + 1)) sg q → CG D I J (cin (fun k' t' g' => cpy W U S D sg k' t' g') a b m j g) (Gx X (d + D + 5) (kc_Ca_copy, []) (103, [some (.ref 12), some (.ref 1), some (.ref 8), some (.int p3), some (.int p4), some (.int p5), some (.int (Int32.ofNat (D + 1))), some (.ref (15 + 2 * (D + 1))), some (.int (Int32.ofNat e)), some (.int (Int32.ofNat a)), some (.int (Int32.ofNat b)), some (.int (Int32.ofNat j))], [], st_h I J, 0, 0)) (fun I' J' r => Gx X (d + D + 5) (kc_Ca_copy, []) (60, [some (.ref 12), some (.ref 1), some (.ref 8), some (.int p3), some (.int p4), some (.int p5), some (.int (Int32.ofNat (D + 1))), some (.ref (15 + 2 * (D + 1))), some (.int (Int32.ofNat (e + 1))), some (.int (Int32.ofNat a)), some (.int (Int32.ofNat b)), some (.int (Int32.ofNat q.2.2.2.2.2.2))], [], st_h I' J', 0, 0) r) := by
  have nD : Int32.toNatClampNeg (Int32.ofNat (D + 1)) = D + 1 := oi_n (by omega)
  have hin : (pm_in (Int32.ofNat (D + 1)) 65) = true := oi_in (by omega) (by omega)
  intro m
  induction m with
  | zero =>
    intro j hj I J g hM hC hL
    have e7 := (hL.2.1 (by omega)).2.2.2.2.2
    have hj' : j = q.2.2.2.2.2.2 := hj
    subst hj'
    refine ⟨I, J, FR_0 _ _ _, hC, fun r hr => ?_⟩
    have z := ib_Ca_copy_103 (X := X) (d := d + D + 1) (I := I) (J := J) (p3 := p3) (p4 := p4) (p5 := p5) (p6 := Int32.ofNat (D + 1)) (o2 := none) (Z2 := (I, J)) (e2 := True) (v8 := Int32.ofNat e) (v9 := Int32.ofNat a) (v10 := Int32.ofNat b) (v11 := Int32.ofNat q.2.2.2.2.2.2) (c := 0) (k := 0) hin r
    rw [nD, e7, oi_a e] at z
    exact z (ifn (by rw [oi_lt (by omega) (by omega)]; omega) hr)
  | succ m ihm =>
    intro j hj I J g hM hC hL
    have e7 := (hL.2.1 (by omega)).2.2.2.2.2
    have jl : Int32.ofNat j < Int32.ofNat q.2.2.2.2.2.2 := by rw [oi_lt (by omega) (by omega)]; omega
    have call := ih sg (a + j) (b + j) I J g hsg (by omega) (by omega) hM hC
    have eD : Int32.ofNat (D + 1) - (1 : Int32) = Int32.ofNat D := oi_s1 D
    unfold cin
    cases hc : cpy W U S D sg (a + j) (b + j) g with
    | inl g1 =>
      rw [hc] at call
      obtain ⟨I1, J1, f1, f2, f3⟩ := call
      have nx := ihm (j + 1) (by omega) I1 J1 g1 (MS_f hM f1) f2 (LF_f hL f1)
      have row : ∀ r, Gx X (d + D + 5) (kc_Ca_copy, []) (103, [some (.ref 12), some (.ref 1), some (.ref 8), some (.int p3), some (.int p4), some (.int p5), some (.int (Int32.ofNat (D + 1))), some (.ref (15 + 2 * (D + 1))), some (.int (Int32.ofNat e)), some (.int (Int32.ofNat a)), some (.int (Int32.ofNat b)), some (.int (Int32.ofNat (j + 1)))], [], st_h I1 J1, 0, 0) r → Gx X (d + D + 5) (kc_Ca_copy, []) (103, [some (.ref 12), some (.ref 1), some (.ref 8), some (.int p3), some (.int p4), some (.int p5), some (.int (Int32.ofNat (D + 1))), some (.ref (15 + 2 * (D + 1))), some (.int (Int32.ofNat e)), some (.int (Int32.ofNat a)), some (.int (Int32.ofNat b)), some (.int (Int32.ofNat j))], [], st_h I J, 0, 0) r := fun r hr => by
        have z := ib_Ca_copy_103 (X := X) (d := d + D + 1) (I := I) (J := J) (p3 := p3) (p4 := p4) (p5 := p5) (p6 := Int32.ofNat (D + 1)) (o2 := some (I1, J1)) (Z2 := (I1, J1)) (e2 := True) (v8 := Int32.ofNat e) (v9 := Int32.ofNat a) (v10 := Int32.ofNat b) (v11 := Int32.ofNat j) (c := 0) (k := 0) hin r
        rw [nD, e7, hL.2.2, oi_p, oi_p, oi_a j, eD] at z
        exact z (ifp jl ⟨fun r' hr' => f3 r' hr', hr⟩)
      dsimp only
      revert nx
      cases cin (fun k' t' g' => cpy W U S D sg k' t' g') a b m (j + 1) g1 with
      | inl g2 =>
        rintro ⟨I2, J2, h1, h2, h3⟩
        exact ⟨I2, J2, FR_t f1 h1, h2, fun r hr => row r (h3 r hr)⟩
      | inr x =>
        rintro ⟨I2, J2, h1, h2, h3⟩
        exact ⟨I2, J2, FR_t f1 h1, h2, h3.elim (fun z => Or.inl ⟨z.1, row _ z.2⟩) (fun z => Or.inr ⟨z.1, row _ z.2⟩)⟩
    | inr x =>
      rw [hc] at call
      obtain ⟨I1, J1, f1, f2, f3⟩ := call
      refine ⟨I1, J1, f1, f2, ?_⟩
      rcases f3 with ⟨x2, f3⟩ | ⟨x3, f3⟩
      · refine Or.inl ⟨x2, ?_⟩
        have z := ib_Ca_copy_103 (X := X) (d := d + D + 1) (I := I) (J := J) (p3 := p3) (p4 := p4) (p5 := p5) (p6 := Int32.ofNat (D + 1)) (o2 := none) (Z2 := (I1, J1)) (e2 := True) (v8 := Int32.ofNat e) (v9 := Int32.ofNat a) (v10 := Int32.ofNat b) (v11 := Int32.ofNat j) (c := 0) (k := 0) hin (.inr 2, st_h I1 J1, 1, 6)
        rw [nD, e7, hL.2.2, oi_p, oi_p, oi_a j, eD] at z
        exact z (ifp jl ⟨cpx_t f3, (if_pos trivial : (if True then ((.inr 2, st_h I1 J1, 1, 6) : pm_R) = (.inr 2, st_h I1 J1, 0 + 1, 0 + 6) else ((.inr 2, st_h I1 J1, 1, 6) : pm_R) = (.inr 3, st_h I1 J1, 0 + 1, 0 + 6)) = _).mpr rfl⟩)
      · refine Or.inr ⟨x3, ?_⟩
        have z := ib_Ca_copy_103 (X := X) (d := d + D + 1) (I := I) (J := J) (p3 := p3) (p4 := p4) (p5 := p5) (p6 := Int32.ofNat (D + 1)) (o2 := none) (Z2 := (I1, J1)) (e2 := False) (v8 := Int32.ofNat e) (v9 := Int32.ofNat a) (v10 := Int32.ofNat b) (v11 := Int32.ofNat j) (c := 0) (k := 0) hin (.inr 3, st_h I1 J1, 1, 6)
        rw [nD, e7, hL.2.2, oi_p, oi_p, oi_a j, eD] at z
        exact z (ifp jl ⟨cpx_f f3, (if_neg not_false : (if False then ((.inr 3, st_h I1 J1, 1, 6) : pm_R) = (.inr 2, st_h I1 J1, 0 + 1, 0 + 6) else ((.inr 3, st_h I1 J1, 1, 6) : pm_R) = (.inr 3, st_h I1 J1, 0 + 1, 0 + 6)) = _).mpr rfl⟩)
theorem cc_out {D d : Nat} (hD : D + 1 ≤ 64) (ih : CC X W U S D d) {p3 p4 p5 : Int32} {sg : Nat} (hsg : sg < 4) {q : P7} (hq : q.1 ≤ 64) (hp : q.2.2.2.2.2.2 ≤ 64) (hb : ∀ e, e < q.1 → q.2.2.2.2.2.2 ≠ 0 → q.2.1 + e * (q.2.2.1 + q.2.2.2.1) + q.2.2.1 + q.2.2.2.2.2.2 ≤ 64 ∧ q.2.2.2.2.1 + e * (q.2.2.2.2.2.1 + q.2.2.2.2.2.2) + q.2.2.2.2.2.1 + q.2.2.2.2.2.2 ≤ 64) : ∀ m e, e + m = q.1 → ∀ (I : st_I) (J : st_J) (g : CR) (u9 u10 u11 : Option Value), MS W U S I J → CS I J g → LF I (15 + 2 * (D + 1)) sg q → CG D I J (cout (fun k' t' g' => cpy W U S D sg k' t' g') q m e g) (Gx X (d + D + 5) (kc_Ca_copy, []) (60, [some (.ref 12), some (.ref 1), some (.ref 8), some (.int p3), some (.int p4), some (.int p5), some (.int (Int32.ofNat (D + 1))), some (.ref (15 + 2 * (D + 1))), some (.int (Int32.ofNat e)), u9, u10, u11], [], st_h I J, 0, 0)) (fun I' J' r => r = (.inl none, st_h I' J', 0, 0)) := by
  have nD : Int32.toNatClampNeg (Int32.ofNat (D + 1)) = D + 1 := oi_n (by omega)
  have hin : (pm_in (Int32.ofNat (D + 1)) 65) = true := oi_in (by omega) (by omega)
  intro m
  induction m with
  | zero =>
    intro e he I J g u9 u10 u11 hM hC hL
    refine ⟨I, J, FR_0 _ _ _, hC, fun r hr => ?_⟩
    have z := ib_Ca_copy_60 (X := X) (d := d + D + 1) (I := I) (J := J) (p3 := p3) (p4 := p4) (p5 := p5) (p6 := Int32.ofNat (D + 1)) (v8 := Int32.ofNat e) (u9 := u9) (u10 := u10) (u11 := u11) (c := 0) (k := 0) hin r
    rw [nD, hL.1] at z
    exact z (ifn (by rw [oi_lt (by omega) (by omega)]; omega) hr)
  | succ m ihm =>
    intro e he I J g u9 u10 u11 hM hC hL
    have el : Int32.ofNat e < Int32.ofNat q.1 := by rw [oi_lt (by omega) (by omega)]; omega
    obtain ⟨l2, l3, l4, l5, l6, l7⟩ := hL.2.1 (by omega)
    obtain ⟨a, ha⟩ : ∃ a, a = q.2.1 + e * (q.2.2.1 + q.2.2.2.1) + q.2.2.1 := ⟨_, rfl⟩
    obtain ⟨b, hbb⟩ : ∃ b, b = q.2.2.2.2.1 + e * (q.2.2.2.2.2.1 + q.2.2.2.2.2.2) + q.2.2.2.2.2.1 := ⟨_, rfl⟩
    have row : ∀ r, Gx X (d + D + 5) (kc_Ca_copy, []) (103, [some (.ref 12), some (.ref 1), some (.ref 8), some (.int p3), some (.int p4), some (.int p5), some (.int (Int32.ofNat (D + 1))), some (.ref (15 + 2 * (D + 1))), some (.int (Int32.ofNat e)), some (.int (Int32.ofNat a)), some (.int (Int32.ofNat b)), some (.int (Int32.ofNat 0))], [], st_h I J, 0, 0) r → Gx X (d + D + 5) (kc_Ca_copy, []) (60, [some (.ref 12), some (.ref 1), some (.ref 8), some (.int p3), some (.int p4), some (.int p5), some (.int (Int32.ofNat (D + 1))), some (.ref (15 + 2 * (D + 1))), some (.int (Int32.ofNat e)), u9, u10, u11], [], st_h I J, 0, 0) r := fun r hr => by
      have z := ib_Ca_copy_60 (X := X) (d := d + D + 1) (I := I) (J := J) (p3 := p3) (p4 := p4) (p5 := p5) (p6 := Int32.ofNat (D + 1)) (v8 := Int32.ofNat e) (u9 := u9) (u10 := u10) (u11 := u11) (c := 0) (k := 0) hin r
      rw [nD, hL.1, l2, l3, l4, l5, l6, l7, oi_p, oi_p, oi_mu, oi_mu, oi_p, oi_p, oi_p, oi_p, ← ha, ← hbb] at z
      exact z (ifp el hr)
    have inn : CG D I J (cin (fun k' t' g' => cpy W U S D sg k' t' g') a b q.2.2.2.2.2.2 0 g) (Gx X (d + D + 5) (kc_Ca_copy, []) (103, [some (.ref 12), some (.ref 1), some (.ref 8), some (.int p3), some (.int p4), some (.int p5), some (.int (Int32.ofNat (D + 1))), some (.ref (15 + 2 * (D + 1))), some (.int (Int32.ofNat e)), some (.int (Int32.ofNat a)), some (.int (Int32.ofNat b)), some (.int (Int32.ofNat 0))], [], st_h I J, 0, 0)) (fun I' J' r => Gx X (d + D + 5) (kc_Ca_copy, []) (60, [some (.ref 12), some (.ref 1), some (.ref 8), some (.int p3), some (.int p4), some (.int p5), some (.int (Int32.ofNat (D + 1))), some (.ref (15 + 2 * (D + 1))), some (.int (Int32.ofNat (e + 1))), some (.int (Int32.ofNat a)), some (.int (Int32.ofNat b)), some (.int (Int32.ofNat q.2.2.2.2.2.2))], [], st_h I' J', 0, 0) r) := by
      by_cases p0 : q.2.2.2.2.2.2 = 0
      · rw [p0]
        refine ⟨I, J, FR_0 _ _ _, hC, fun r hr => ?_⟩
        have z := ib_Ca_copy_103 (X := X) (d := d + D + 1) (I := I) (J := J) (p3 := p3) (p4 := p4) (p5 := p5) (p6 := Int32.ofNat (D + 1)) (o2 := none) (Z2 := (I, J)) (e2 := True) (v8 := Int32.ofNat e) (v9 := Int32.ofNat a) (v10 := Int32.ofNat b) (v11 := Int32.ofNat 0) (c := 0) (k := 0) hin r
        rw [nD, l7, p0, oi_a e] at z
        exact z (ifn (by decide) hr)
      · have hh := hb e (by omega) p0
        exact cc_in hD ih hsg (by omega) (by omega) hq q.2.2.2.2.2.2 0 (by omega) I J g hM hC hL
    unfold cout
    rw [← ha, ← hbb]
    revert inn
    cases cin (fun k' t' g' => cpy W U S D sg k' t' g') a b q.2.2.2.2.2.2 0 g with
    | inl g1 =>
      rintro ⟨I1, J1, f1, f2, f3⟩
      have nx := ihm (e + 1) (by omega) I1 J1 g1 (some (.int (Int32.ofNat a))) (some (.int (Int32.ofNat b))) (some (.int (Int32.ofNat q.2.2.2.2.2.2))) (MS_f hM f1) f2 (LF_f hL f1)
      dsimp only
      revert nx
      cases cout (fun k' t' g' => cpy W U S D sg k' t' g') q m (e + 1) g1 with
      | inl g2 =>
        rintro ⟨I2, J2, h1, h2, h3⟩
        exact ⟨I2, J2, FR_t f1 h1, h2, fun r hr => row r (f3 r (h3 r hr))⟩
      | inr x =>
        rintro ⟨I2, J2, h1, h2, h3⟩
        exact ⟨I2, J2, FR_t f1 h1, h2, h3.elim (fun z => Or.inl ⟨z.1, row _ (f3 _ z.2)⟩) (fun z => Or.inr ⟨z.1, row _ (f3 _ z.2)⟩)⟩
    | inr x =>
      rintro ⟨I1, J1, f1, f2, f3⟩
      exact ⟨I1, J1, f1, f2, f3.elim (fun z => Or.inl ⟨z.1, row _ z.2⟩) (fun z => Or.inr ⟨z.1, row _ z.2⟩)⟩
set_option maxRecDepth 20000 in
theorem cc (hX : X 1 = (8, eb)) (d : Nat) : ∀ D, D ≤ 64 → CC X W U S D d := by
  -- a pointer that leads to nothing, or is malformed
  have base : ∀ (D s k t : Nat) (I : st_I) (J : st_J) (g : CR) (d' : Nat), D ≤ 64 → s < 4 → k < 64 → t < 64 → MS W U S I J → CS I J g → (ld W U S g.1 s k D = none → CG D I J (.inr (2, g.1)) (Ex X (d' + 5) 153 [.ref 12, .ref 1, .ref 8, .int (Int32.ofNat s), .int (Int32.ofNat k), .int (Int32.ofNat t), .int (Int32.ofNat D)] (st_h I J)) (fun I' J' r => r = (.inl none, st_h I' J', 0, 0))) ∧ (∀ v, ld W U S g.1 s k D = some v → v.1.1 = 0 → CG D I J (.inl (g.1 - v.2, g.2.1, g.2.2)) (Ex X (d' + 5) 153 [.ref 12, .ref 1, .ref 8, .int (Int32.ofNat s), .int (Int32.ofNat k), .int (Int32.ofNat t), .int (Int32.ofNat D)] (st_h I J)) (fun I' J' r => r = (.inl none, st_h I' J', 0, 0))) := fun D s k t I J g d' hD hs hk ht hM hC => by
    have nD : Int32.toNatClampNeg (Int32.ofNat D) = D := oi_n (by omega)
    have hin : (pm_in (Int32.ofNat D) 65) = true := oi_in (by omega) (by omega)
    obtain ⟨l1, l2⟩ := lead_c (X := X) (d := d') hX hM hC hs hk hD
    refine ⟨fun hn => ?_, fun v hv v0 => ?_⟩
    · obtain ⟨K, M, k1, k2, k3⟩ := l1 hn
      refine ⟨K, M, ⟨fun a f q1 q2 q3 => k1 a f (by omega), fun a q1 q2 => k2 a q1⟩, ⟨(k1 8 0 (by omega)).trans hC.1.1, hC.1.2⟩, Or.inl ⟨rfl, ?_⟩⟩
      have z := ie_Ca_copy (X := X) (d := d') (I := I) (J := J) (p3 := Int32.ofNat s) (p4 := Int32.ofNat k) (p5 := Int32.ofNat t) (p6 := Int32.ofNat D) (o1 := none) (Z1 := (K, M)) (o := none) (Z := (K, M)) (.inr 2, st_h K M, 1, 6)
      rw [nD] at z
      exact z ⟨hin, fun r hr => by rw [show r = _ from hr]; exact k3, rfl⟩
    · obtain ⟨K, M, k1, k2, k3, k4, k5⟩ := l2 v hv
      refine ⟨K, M, ⟨fun a f q1 q2 q3 => k1 a f q1 (by omega), fun a q1 q2 => k4 a q1⟩, ⟨⟨k3, by have := hC.1.2; show g.1 - v.2 ≤ 100000; omega⟩, ⟨(k1 12 1 (by omega) (by omega)).trans hC.2.1.1, hC.2.1.2⟩, (k4 13 (by omega)).trans hC.2.2⟩, fun r hr => ?_⟩
      have z := ie_Ca_copy (X := X) (d := d') (I := I) (J := J) (p3 := Int32.ofNat s) (p4 := Int32.ofNat k) (p5 := Int32.ofNat t) (p6 := Int32.ofNat D) (o1 := some (K, M)) (Z1 := (K, M)) (o := none) (Z := (K, M)) r
      rw [nD] at z
      have e0 : K (15 + 2 * D + 1) 0 = 0 := by
        rw [k2 0 (by omega)]
        show Int32.ofNat v.1.1 = 0
        rw [v0]
        rfl
      exact z ⟨hin, fun r' hr' => by rw [show r' = _ from hr']; exact k5, ifp e0 hr⟩
  intro D
  induction D with
  | zero =>
    intro hD s k t I J g hs hk ht hM hC
    obtain ⟨b1, b2⟩ := base 0 s k t I J g d hD hs hk ht hM hC
    unfold cpy
    cases hl : ld W U S g.1 s k 0 with
    | none => exact b1 hl
    | some v => exact b2 v hl (ld_0 hl)
  | succ D ihD =>
    intro hD s k t I J g hs hk ht hM hC
    have ih := ihD (by omega)
    obtain ⟨b1, b2⟩ := base (D + 1) s k t I J g (d + D + 1) hD hs hk ht hM hC
    unfold cpy
    cases hl : ld W U S g.1 s k (D + 1) with
    | none => exact b1 hl
    | some v =>
      dsimp only
      by_cases v0 : v.1.1 = 0
      · rw [if_pos v0]
        exact b2 v hl v0
      · rw [if_neg v0]
        have nD : Int32.toNatClampNeg (Int32.ofNat (D + 1)) = D + 1 := oi_n (by omega)
        have hin : (pm_in (Int32.ofNat (D + 1)) 65) = true := oi_in (by omega) (by omega)
        obtain ⟨K, M, k1, k2, k3, k4, k5⟩ := (lead_c (X := X) (d := d + D + 1) hX hM hC hs hk hD).2 v hl
        obtain ⟨vv, ch⟩ := v
        have hU : ∀ x, x < 4 → U x ≤ 64 := fun x hx => (hM.2.2.1 x hx).2
        obtain ⟨hvk, hch⟩ := ld_vk hl (by have := hM.2.1; omega) hs hk hU hC.1.2 hD
        have hsg : vv.2.2.1 < 4 := by
          obtain ⟨kd, dp, sg, pl, db, pt, ct, cd⟩ := vv
          exact hvk.2.1
        have hMR : M (3 + vv.2.2.1) = W vv.2.2.1 := by rw [k4 _ (by omega)]; exact hM.2.2.2 _ hsg
        have hM13 : M 13 = g.2.2 := (k4 13 (by omega)).trans hC.2.2
        have e12 : K 12 1 = Int32.ofNat g.2.1 := (k1 12 1 (by omega) (by omega)).trans hC.2.1.1
        obtain ⟨y1, y2⟩ := lay_c (X := X) (U := U) (d := d + D + 1) (I := K) (J := M) (l := 15 + 2 * (D + 1)) (n := g.2.1) (t := t) (v := vv) hX (isL_15 hD) hvk hU v0 k2 hC.2.1.2 e12 ht
        rw [hMR] at y1 y2
        rw [hM13] at y2
        have es0 : ¬ (K (15 + 2 * (D + 1) + 1) 0 = 0) := by
          rw [k2 0 (by omega)]
          show ¬ (Int32.ofNat vv.1 = 0)
          have : vv.1 ≤ 2 := by
            obtain ⟨kd, dp, sg, pl, db, pt, ct, cd⟩ := vv
            rcases hvk.2.2.2.2 with q | q | q
            · show kd ≤ 2; have := q.1; omega
            · show kd ≤ 2; have := q.1; omega
            · show kd ≤ 2; have := q.1; omega
          exact fun q => v0 ((oi_eq (a := vv.1) (b := 0) (by omega) (by omega)).mp q)
        have es2 : K (15 + 2 * (D + 1) + 1) 2 = Int32.ofNat vv.2.2.1 := k2 2 (by omega)
        have f0 : FR (D + 1) I K J M := ⟨fun a f q1 q2 q3 => k1 a f q1 (by omega), fun a q1 q2 => k4 a q1⟩
        dsimp only at y1 y2 k3 ⊢
        by_cases c64 : 64 < g.2.1 + lyn (W vv.2.2.1) vv g.2.1
        · rw [if_pos c64]
          obtain ⟨K1, j1, j2⟩ := y1 c64
          refine ⟨K1, M, FR_t f0 ⟨fun a f q1 q2 q3 => j1 a f (by omega), fun _ _ _ => rfl⟩, ⟨by rw [j1 8 0 (by omega)]; exact k3, by have := hC.1.2; show g.1 - ch ≤ 100000; omega⟩, Or.inr ⟨rfl, ?_⟩⟩
          have z := ie_Ca_copy (X := X) (d := d + D + 1) (I := I) (J := J) (p3 := Int32.ofNat s) (p4 := Int32.ofNat k) (p5 := Int32.ofNat t) (p6 := Int32.ofNat (D + 1)) (o1 := some (K, M)) (Z1 := (K, M)) (o := none) (Z := (K1, M)) (.inr 3, st_h K1 M, 1, 6)
          rw [nD] at z
          refine z ⟨hin, fun r' hr' => by rw [show r' = _ from hr']; exact k5, ifn es0 ?_⟩
          dsimp only
          rw [es2, oi_n (by omega)]
          exact ⟨oi_in hsg (by omega), fun r' hr' => by rw [show r' = _ from hr']; exact j2, rfl⟩
        · rw [if_neg c64]
          obtain ⟨K1, j1, j2, j3, j4, j5⟩ := y2 c64
          obtain ⟨M1, hM1⟩ : ∃ M1, M1 = st_yr M 13 (lyF (W vv.2.2.1) g.2.2 vv t g.2.1) := ⟨_, rfl⟩
          rw [← hM1] at j5
          have f1 : FR (D + 1) K K1 M M1 := ⟨fun a f q1 q2 q3 => j1 a f (by omega) q2, fun a q1 q2 => by rw [hM1, st_yr_o _ _ q2]⟩
          have f2 := FR_t f0 f1
          have hb := ly_bv (U := U) (R := W vv.2.2.1) (n := g.2.1) (v := vv) hvk (hU _ hsg) v0 (by omega)
          obtain ⟨hb1, hb2, hb3, hb4⟩ := hb
          have hL : LF K1 (15 + 2 * (D + 1)) vv.2.2.1 (lyp (W vv.2.2.1) vv g.2.1) := ⟨j3, j4, by rw [j1 _ _ (by omega) (by omega)]; exact es2⟩
          have out := cc_out (X := X) (W := W) (U := U) (S := S) (d := d) hD ih (p3 := Int32.ofNat s) (p4 := Int32.ofNat k) (p5 := Int32.ofNat t) hsg (q := lyp (W vv.2.2.1) vv g.2.1) hb1 hb4 (fun e he p0 => by
            have z := hb2 e ((lyp (W vv.2.2.1) vv g.2.1).2.2.2.2.2.2 - 1) he (by omega)
            omega) (lyp (W vv.2.2.1) vv g.2.1).1 0 (by omega) K1 M1 (g.1 - ch, g.2.1 + lyn (W vv.2.2.1) vv g.2.1, lyF (W vv.2.2.1) g.2.2 vv t g.2.1) none none none (MS_f hM f2) ⟨⟨by rw [j1 8 0 (by omega) (by omega)]; exact k3, by have := hC.1.2; show g.1 - ch ≤ 100000; omega⟩, ⟨j2, by show g.2.1 + lyn (W vv.2.2.1) vv g.2.1 ≤ 64; omega⟩, by rw [hM1, st_yr_s]⟩ hL
          have row : ∀ r, Gx X (d + D + 5) (kc_Ca_copy, []) (60, [some (.ref 12), some (.ref 1), some (.ref 8), some (.int (Int32.ofNat s)), some (.int (Int32.ofNat k)), some (.int (Int32.ofNat t)), some (.int (Int32.ofNat (D + 1))), some (.ref (15 + 2 * (D + 1))), some (.int (Int32.ofNat 0)), none, none, none], [], st_h K1 M1, 0, 0) r → Ex X (d + (D + 1) + 5) 153 [.ref 12, .ref 1, .ref 8, .int (Int32.ofNat s), .int (Int32.ofNat k), .int (Int32.ofNat t), .int (Int32.ofNat (D + 1))] (st_h I J) r := fun r hr => by
            have z := ie_Ca_copy (X := X) (d := d + D + 1) (I := I) (J := J) (p3 := Int32.ofNat s) (p4 := Int32.ofNat k) (p5 := Int32.ofNat t) (p6 := Int32.ofNat (D + 1)) (o1 := some (K, M)) (Z1 := (K, M)) (o := some (K1, M1)) (Z := (K1, M1)) r
            rw [nD] at z
            refine z ⟨hin, fun r' hr' => by rw [show r' = _ from hr']; exact k5, ifn es0 ?_⟩
            dsimp only
            rw [es2, oi_n (by omega)]
            exact ⟨oi_in hsg (by omega), fun r' hr' => by rw [show r' = _ from hr']; exact j5, hr⟩
          revert out
          cases cout (fun k' t' g' => cpy W U S D vv.2.2.1 k' t' g') (lyp (W vv.2.2.1) vv g.2.1) (lyp (W vv.2.2.1) vv g.2.1).1 0 (g.1 - ch, g.2.1 + lyn (W vv.2.2.1) vv g.2.1, lyF (W vv.2.2.1) g.2.2 vv t g.2.1) with
          | inl g2 =>
            rintro ⟨I2, J2, h1, h2, h3⟩
            exact ⟨I2, J2, FR_t f2 (FR_m h1 (by omega)), h2, fun r hr => row r (h3 r hr)⟩
          | inr x =>
            rintro ⟨I2, J2, h1, h2, h3⟩
            exact ⟨I2, J2, FR_t f2 (FR_m h1 (by omega)), h2, h3.elim (fun z => Or.inl ⟨z.1, row _ z.2⟩) (fun z => Or.inr ⟨z.1, row _ z.2⟩)⟩
end CPZ
