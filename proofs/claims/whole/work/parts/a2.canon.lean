/-! canonical: what is meant -/
def mx (f : Nat → Nat) : Nat → Nat
  | 0 => 0
  | e + 1 => if mx f e < f e then f e else mx f e
theorem mx_le {f : Nat → Nat} {b : Nat} (h : ∀ e, f e ≤ b) : ∀ n, mx f n ≤ b := by
  intro n
  induction n with
  | zero => exact Nat.zero_le _
  | succ n ih =>
    have := h n
    unfold mx
    split <;> omega
def fset (F : Nat → Int64) (i : Nat) (x : Int64) : Nat → Int64 := fun k => if k = i then x else F k
/-- the data of elements, one after another -/
def fcd (R F : Nat → Int64) (fr w1 to w2 d : Nat) : Nat → Nat → Int64
  | 0 => F
  | e + 1 => va_cpy R (fcd R F fr w1 to w2 d e) (fr + e * w1) (to + e * w2) d
def sptr (d p : Nat) (o : Int32) : Int64 := nrm ((jl (Int32.toInt64 (Int32.ofNat d)) (32 : Int32)) ||| (jl (Int32.toInt64 (Int32.ofNat p)) (48 : Int32))) o
def lptr (c n : Nat) (o : Int32) : Int64 := nrm (((1 : Int64) ||| (jl (Int32.toInt64 (Int32.ofNat c)) (32 : Int32))) ||| (jl (Int32.toInt64 (Int32.ofNat n)) (35 : Int32))) o
/-- elements, from, data and pointers there, to, data and pointers here -/
abbrev P7 : Type := Nat × Nat × Nat × Nat × Nat × Nat × Nat
abbrev V8 : Type := Nat × Nat × Nat × Nat × Nat × Nat × Nat × Nat
def lyp (R : Nat → Int64) (v : V8) (n : Nat) : P7 := match v with
  | (kd, _, _, pl, db, pt, ct, cd) =>
    if kd = 1 then (1, pl, db / 64, pt, n, nd R pl (db / 64), nd R (pl + db / 64) pt)
    else if cd = 7 then ((if db + pt = 0 then 0 else ct), pl + 1, db / 64, pt, n + 1, mx (fun e => nd R (pl + 1 + e * (db / 64 + pt)) (db / 64)) (if db + pt = 0 then 0 else ct), mx (fun e => nd R (pl + 1 + e * (db / 64 + pt) + db / 64) pt) (if db + pt = 0 then 0 else ct))
    else if cd = 6 then (ct, pl, 0, 1, n, 0, 1)
    else (0, pl, 0, 0, n, 0, 0)
/-- the words it takes -/
def lyn (R : Nat → Int64) (v : V8) (n : Nat) : Nat := match v with
  | (kd, _, _, _, _, _, ct, cd) =>
    if kd = 1 then (lyp R v n).2.2.2.2.2.1 + (lyp R v n).2.2.2.2.2.2
    else if cd = 7 then (lyp R v n).1 * ((lyp R v n).2.2.2.2.2.1 + (lyp R v n).2.2.2.2.2.2) + 1
    else if cd = 6 then ct
    else (ct * ebn cd + 63) / 64
def lyF (R F : Nat → Int64) (v : V8) (t n : Nat) : Nat → Int64 := match v with
  | (kd, _, _, pl, db, pt, ct, cd) =>
    if kd = 1 then va_cpy R (fset F t (sptr (lyp R v n).2.2.2.2.2.1 (lyp R v n).2.2.2.2.2.2 (if (lyp R v n).2.2.2.2.2.1 + (lyp R v n).2.2.2.2.2.2 = 0 then -1 else Int32.ofNat n - Int32.ofNat t - 1))) pl n (lyp R v n).2.2.2.2.2.1
    else if cd = 7 then fcd R (fset (fset F t (lptr 7 ((lyp R v n).1 * ((lyp R v n).2.2.2.2.2.1 + (lyp R v n).2.2.2.2.2.2)) (Int32.ofNat n - Int32.ofNat t - 1))) n (sptr (lyp R v n).2.2.2.2.2.1 (lyp R v n).2.2.2.2.2.2 (Int32.ofNat ct))) (pl + 1) (db / 64 + pt) (n + 1) ((lyp R v n).2.2.2.2.2.1 + (lyp R v n).2.2.2.2.2.2) (lyp R v n).2.2.2.2.2.1 (lyp R v n).1
    else if cd = 6 then fset F t (lptr 6 ct (Int32.ofNat n - Int32.ofNat t - 1))
    else if ct * ebn cd % 64 = 0 then va_cpy R (fset F t (lptr cd ct (Int32.ofNat n - Int32.ofNat t - 1))) pl n ((ct * ebn cd + 63) / 64)
    else fset (va_cpy R (fset F t (lptr cd ct (Int32.ofNat n - Int32.ofNat t - 1))) pl n ((ct * ebn cd + 63) / 64)) (n + (ct * ebn cd + 63) / 64 - 1) ((va_cpy R (fset F t (lptr cd ct (Int32.ofNat n - Int32.ofNat t - 1))) pl n ((ct * ebn cd + 63) / 64)) (n + (ct * ebn cd + 63) / 64 - 1) &&& on_ (Int32.ofNat (ct * ebn cd % 64)))
/-- allowance, words used, words -/
abbrev CR : Type := Nat × Nat × (Nat → Int64)
/-- .. or which failure, and the allowance then -/
abbrev CO : Type := CR ⊕ (Nat × Nat)
def cin (f : Nat → Nat → CR → CO) (a b : Nat) : Nat → Nat → CR → CO
  | 0, _, g => .inl g
  | m + 1, j, g => match f (a + j) (b + j) g with
    | .inl g1 => cin f a b m (j + 1) g1
    | .inr x => .inr x
def cout (f : Nat → Nat → CR → CO) (q : P7) : Nat → Nat → CR → CO
  | 0, _, g => .inl g
  | m + 1, e, g => match cin f (q.2.1 + e * (q.2.2.1 + q.2.2.2.1) + q.2.2.1) (q.2.2.2.2.1 + e * (q.2.2.2.2.2.1 + q.2.2.2.2.2.2) + q.2.2.2.2.2.1) q.2.2.2.2.2.2 0 g with
    | .inl g1 => cout f q m (e + 1) g1
    | .inr x => .inr x
def cpy (W : Nat → Nat → Int64) (U : Nat → Nat) (S : Nat) : Nat → Nat → Nat → Nat → CR → CO
  | 0, s, k, _, g => match ld W U S g.1 s k 0 with
    | none => .inr (2, g.1)
    | some v => .inl (g.1 - v.2, g.2.1, g.2.2)
  | D + 1, s, k, t, g => match ld W U S g.1 s k (D + 1) with
    | none => .inr (2, g.1)
    | some v => if v.1.1 = 0 then .inl (g.1 - v.2, g.2.1, g.2.2)
      else if 64 < g.2.1 + lyn (W v.1.2.2.1) v.1 g.2.1 then .inr (3, g.1 - v.2)
      else cout (fun k' t' g' => cpy W U S D v.1.2.2.1 k' t' g') (lyp (W v.1.2.2.1) v.1 g.2.1) (lyp (W v.1.2.2.1) v.1 g.2.1).1 0 (g.1 - v.2, g.2.1 + lyn (W v.1.2.2.1) v.1 g.2.1, lyF (W v.1.2.2.1) g.2.2 v.1 t g.2.1)
/-! .. pieces of the class -/
def eqI (a b : st_I) : Prop := a = b
def spn (I : st_I) (l : Nat) (e f : Int32) : st_I := st_w (st_w (st_w (st_w (st_w (st_w I l 1 e) l 2 f) l 3 (I (l + 1) 5 / 64)) l 4 (I (l + 1) 6)) l 6 0) l 7 0
def clm (I : st_I) (n : Int32) : st_I := st_w I 12 1 (I 12 1 + n)
def lwd (c n : Int32) : Int32 := Int64.toInt32 ((((Int32.toInt64 n) * (Int32.toInt64 (eb (Int32.toNatClampNeg c)))) + (63 : Int64)) / (64 : Int64))
theorem hc_Le_span {X : pm_X} {d : Nat} {I : st_I} {J : st_J} {K1 : st_I} {p0 : Nat} (g0 : st_isL p0 = true) {p1 p2 : Int32} (r : pm_R) : ((eqI K1 (spn I p0 p1 p2)) ∧ r = (.inl none, st_h K1 J, 0, 0)) → Ex X (d + 2) 156 [.ref p0, .int p1, .int p2] (st_h I J) r := by
  rintro ⟨h1, h⟩
  refine (ev_Le_span g0 r).mpr ?_
  rw [h, show K1 = _ from h1]
  unfold spn
  rw [show (st_w (st_w I p0 1 p1) p0 2 p2) (p0 + 1) 5 = I (p0 + 1) 5 by rw [st_w_e, if_neg (by omega), st_w_e, if_neg (by omega)], show ∀ x, (st_w (st_w (st_w I p0 1 p1) p0 2 p2) p0 3 x) (p0 + 1) 6 = I (p0 + 1) 6 from fun x => by rw [st_w_e, if_neg (by omega), st_w_e, if_neg (by omega), st_w_e, if_neg (by omega)]]
theorem hc_Ca_claim {X : pm_X} {d : Nat} {I : st_I} {J : st_J} {K3 : st_I} {p1 : Int32} (r : pm_R) : ((eqI K3 (clm I p1)) ∧ (if (64 : Int32) < ((I 12 1) + p1) then r = (.inr 3, st_h I J, 1, 6) else r = (.inl (some (.int (I 12 1))), st_h K3 J, 0, 0))) → Ex X (d + 2) 160 [.ref 12, .int p1] (st_h I J) r := by
  rintro ⟨h1, h⟩
  refine (ev_Ca_claim r).mpr ?_
  rw [show K3 = _ from h1] at h
  exact h
theorem hc_D_listWords {X : pm_X} (hX : X 1 = (8, eb)) {d : Nat} {I : st_I} {J : st_J} {p0 p1 : Int32} (r : pm_R) : ((pm_in p0 8) = true ∧ r = (.inl (some (.int (lwd p0 p1))), st_h I J, 0, 0)) → Ex X (d + 1) 51 [.int p0, .int p1] (st_h I J) r := fun h => (ev_D_listWords hX r).mpr h
theorem hc_D_ones {X : pm_X} {d : Nat} {I : st_I} {J : st_J} {p0 : Int32} (r : pm_R) : r = (.inl (some (.long (on_ p0))), st_h I J, 0, 0) → Ex X (d + 1) 71 [.int p0] (st_h I J) r := fun h => (ev_D_ones r).mpr h
def msr (I : st_I) (l : Nat) (d p : Int32) : st_I := st_w (st_w I l 6 d) l 7 p
def msx (I : st_I) (J : st_J) (l w : Nat) (K : st_I) : Prop := ∃ el fr fd fp : Nat, (I l 1 = Int32.ofNat el ∧ I l 2 = Int32.ofNat fr ∧ I l 3 = Int32.ofNat fd ∧ I l 4 = Int32.ofNat fp) ∧ (I l 6 = 0 ∧ I l 7 = 0) ∧ (el ≤ 2 ^ 20 ∧ (∀ e, e < el → fr + e * (fd + fp) + fd + fp ≤ 64)) ∧ K = msr I l (Int32.ofNat (mx (fun e => nd (J w) (fr + e * (fd + fp)) fd) el)) (Int32.ofNat (mx (fun e => nd (J w) (fr + e * (fd + fp) + fd) fp) el))
def cdx (I : st_I) (J : st_J) (w l : Nat) (L : st_J) : Prop := ∃ el fr fd fp to d p : Nat, (I l 1 = Int32.ofNat el ∧ I l 2 = Int32.ofNat fr ∧ I l 3 = Int32.ofNat fd ∧ I l 4 = Int32.ofNat fp ∧ I l 5 = Int32.ofNat to ∧ I l 6 = Int32.ofNat d ∧ I l 7 = Int32.ofNat p) ∧ el ≤ 2 ^ 20 ∧ (∀ e, e < el → fr + e * (fd + fp) + fd + fp ≤ 64 ∧ to + e * (d + p) + d + p ≤ 64) ∧ d ≤ fd ∧ w ≠ 13 ∧ L = st_yr J 13 (fcd (J w) (J 13) fr (fd + fp) to (d + p) d el)
theorem hc_Ca_copyData {X : pm_X} {d : Nat} {I : st_I} {J : st_J} {L1 : st_J} {p1 : Nat} (g1 : st_aJ p1 = some 64) {p2 : Nat} (g2 : st_isL p2 = true) (r : pm_R) : ((cdx I J p1 p2 L1) ∧ r = (.inl none, st_h I L1, 0, 0)) → Ex X (d + 2) 161 [.ref 12, .ref p1, .ref p2] (st_h I J) r := by
  rintro ⟨⟨el, fr, fd, fp, to, d', p, ⟨e1, e2, e3, e4, e5, e6, e7⟩, hel, hb, hdf, hw, hL⟩, h⟩
  refine (e_Ca_copyData g1 g2 r).mpr ?_
  have rr : ∀ g, (st_yr J 13 g) p1 = J p1 := fun g => st_yr_o J g hw
  have L := lp (G := fun e => Gx X (d + 1) (kc_Ca_copyData, []) (2, [some (.ref 12), some (.ref p1), some (.ref p2), some (.int (Int32.ofNat e))], [], st_h I (st_yr J 13 (fcd (J p1) (J 13) fr (fd + fp) to (d' + p) d' e)), 0, 0) r) el (fun e he => by
    refine (b_Ca_copyData_2 g1 g2 r).trans ?_
    have hbe := hb e he
    rw [if_pos (by rw [e1, oi_lt (by omega) (by omega)]; exact he), e2, e3, e4, e5, e6, e7, oi_p, oi_p, oi_mu, oi_mu, oi_p, oi_p, oi_a, rr, st_yr_s, oi_n (by omega), oi_n (by omega), oi_n (by omega)]
    have ey : ∀ g g', st_yr (st_yr J 13 g) 13 g' = st_yr J 13 g' := fun g g' => by
      funext i
      by_cases c : i = 13
      · rw [c, st_yr_s, st_yr_s]
      · rw [st_yr_o _ _ c, st_yr_o _ _ c, st_yr_o _ _ c]
    rw [ey]
    refine and_t ?_
    unfold st_cpk
    rw [oi_n (by omega), oi_n (by omega), oi_n (by omega), decide_eq_false (oi_ng (by omega)), decide_eq_false (oi_ng (by omega)), decide_eq_false (oi_ng (by omega)), Nat.ble_eq_true_of_le (show fr + e * (fd + fp) + d' ≤ 64 by omega), Nat.ble_eq_true_of_le (show to + e * (d' + p) + d' ≤ 64 by omega)]
    rfl)
  have e0 : st_yr J 13 (fcd (J p1) (J 13) fr (fd + fp) to (d' + p) d' 0) = J := by
    funext i
    by_cases c : i = 13
    · rw [c, st_yr_s]; rfl
    · rw [st_yr_o _ _ c]
  have L := L.mpr ((b_Ca_copyData_2 g1 g2 r).mpr (by
    rw [if_neg (by rw [e1, oi_lt (by omega) (by omega)]; omega), h, hL]))
  rw [e0] at L
  exact L
