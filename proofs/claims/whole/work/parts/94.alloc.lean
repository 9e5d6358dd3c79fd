/-! .. by the class, as it is called -/
def alk (I : st_I) (p2 p3 p5 : Int32) : Prop := wfm I ∧ (1 ≤ (I 1 3).toInt ∧ (I 1 3).toInt ≤ 64) ∧ (∀ s : Nat, s < 4 → (I 1 2).toInt ≤ (s : Int) → I 7 s = 0) ∧ (0 ≤ p2.toInt ∧ p2.toInt < 4) ∧ (0 ≤ p3.toInt ∧ p3.toInt < 64) ∧ (0 ≤ p5.toInt ∧ p5.toInt ≤ 2000)
def alo (I : st_I) (J : st_J) (p2 p3 : Int32) (p4 : Int64) (p5 : Int32) : Option (st_I × st_J) := alN I J p2.toNatClampNeg p3.toNatClampNeg p4 p5.toNatClampNeg
theorem hc_Bu_allocate {X : pm_X} {d : Nat} {I : st_I} {J : st_J} {p2 p3 : Int32} {p4 : Int64} {p5 : Int32} (r : pm_R) : alk I p2 p3 p5 ∧ om (alo I J p2 p3 p4 p5) (fun v => r = (.inl none, st_h v.1 v.2, 0, 0)) (r = (.inr 3, st_h I J, 1, 6)) → Ex X (d + 4) 101 [.ref 9, .ref 1, .int p2, .int p3, .long p4, .int p5] (st_h I J) r := by
  rintro ⟨⟨hm, hz, h0, h2, h3, h5⟩, h⟩
  have n2 := cln h2.1
  have n3 := cln h3.1
  have n5 := cln h5.1
  have k := al_ex (X := X) (d := d) (J := J) (s := p2.toNatClampNeg) (k := p3.toNatClampNeg) (n := p5.toNatClampNeg) (w := p4) hm hz.1 hz.2 h0 (by omega) (by omega) (by omega) r h
  rw [← oi_of h2.1, ← oi_of h3.1, ← oi_of h5.1] at k
  exact k
/-! .. by the reference -/
theorem a_sc (a b : Int32) : a + b - b = a := by
  rw [Int32.sub_eq_add_neg, Int32.add_assoc, Int32.add_right_neg, Int32.add_zero]
theorem fr_0 : (2 : Int64) ||| ((4 : Int64) * (Int32.toInt64 (0 : Int32))) = Int32.toInt64 ((2 : Int32) ||| 0) := by decide
theorem fr_1 : (2 : Int64) ||| ((4 : Int64) * (Int32.toInt64 (1 : Int32))) = Int32.toInt64 ((2 : Int32) ||| 4) := by decide
section MA
variable {X : pm_X} {d : Nat} {I : st_I} {J : st_J} {s k n S Z : Nat} {w : Int64} {U : Nat → Nat} {r : pm_R}
/-- what it ends with -/
def mEnd (I : st_I) (J : st_J) (o : Option (Nat × Nat × Nat × Nat × Nat)) (s k n : Nat) (w : Int64) : pm_R := match o with
  | some v => (.inl (some (.int (Int32.ofNat (128 * v.2.1 + v.2.2.1)))), st_h (mU I v n) (mJ J v s k w), 0, 0)
  | none => (.inl (some (.int (-1))), st_h I J, 0, 0)
theorem oi_128 {s i : Nat} (hs : s < 2 ^ 20) (hi : i < 2 ^ 20) : (128 : Int32) * Int32.ofNat s + Int32.ofNat i = Int32.ofNat (128 * s + i) := by
  rw [show (128 : Int32) = Int32.ofNat 128 from rfl, oi_mu, oi_p]
set_option maxRecDepth 20000 in
/-- behind the loop: the pads are known, 4 is none -/
theorem ma_end (eS : I 166 6 = Int32.ofNat S) (eZ : I 166 9 = Int32.ofNat Z) (S1 : 1 ≤ S) (S4 : S ≤ 4) (Z64 : Z ≤ 64) (eU : ∀ x, x < 4 → I 170 x = Int32.ofNat (U x) ∧ U x ≤ 64) (h0 : ∀ x, x < 4 → S ≤ x → U x = 0) (hs : s < 4) (hk : k < 64) (hn : n ≤ 2000) {F1 F2 P : Nat} (i1 : F1 < 4 → U F1 + (n + 1) ≤ Z) (i2 : F2 < 4 → U F2 + n ≤ Z) (i3 : F2 < 4 → P < 4 → uad U F2 n P + 2 ≤ Z) (i4 : P < 4 → F2 < 4) {v10 : Int32} {u : Option Value} (hv : ¬ (v10 < Int32.ofNat S) ∨ ¬ F2 < 4)
  (hr : r = mEnd I J (if F1 < 4 then some (1, F1, U F1 + 1, F1, U F1) else if F2 < 4 ∧ P < 4 then some (2, F2, U F2, P, uad U F2 n P) else if S < 4 ∧ n + 1 ≤ Z then some (3, S, U S + 1, S, U S) else none) s k n w) :
  Gx X (d + 1) (kc_M_allocated, []) (116, [some (.ref 166), some (.int (Int32.ofNat s)), some (.int (Int32.ofNat k)), some (.int (Int32.ofNat n)), some (.long w), none, some (.int (Int32.ofNat (64 * s + k))), some (.int (if F1 < 4 then Int32.ofNat F1 else -1)), some (.int (if F2 < 4 then Int32.ofNat F2 else -1)), some (.int (if P < 4 then Int32.ofNat P else -1)), some (.int v10), u], [], st_h I J, 0, 0) r := by
  have g1 : ((if F1 < 4 then Int32.ofNat F1 else -1) < (0 : Int32)) ↔ ¬ F1 < 4 := by
    by_cases c : F1 < 4
    · rw [if_pos c]; exact ⟨fun z => absurd z (oi_ng (by omega)), fun z => absurd c z⟩
    · rw [if_neg c]; exact ⟨fun _ => c, fun _ => by decide⟩
  have g2 : ((if F2 < 4 then Int32.ofNat F2 else -1) < (0 : Int32)) ↔ ¬ F2 < 4 := by
    by_cases c : F2 < 4
    · rw [if_pos c]; exact ⟨fun z => absurd z (oi_ng (by omega)), fun z => absurd c z⟩
    · rw [if_neg c]; exact ⟨fun _ => c, fun _ => by decide⟩
  have g3 : ((if P < 4 then Int32.ofNat P else -1) < (0 : Int32)) ↔ ¬ P < 4 := by
    by_cases c : P < 4
    · rw [if_pos c]; exact ⟨fun z => absurd z (oi_ng (by omega)), fun z => absurd c z⟩
    · rw [if_neg c]; exact ⟨fun _ => c, fun _ => by decide⟩
  have Ls : ∀ {T A : Prop}, T → (if v10 < I 166 6 then (if (if F2 < 4 then Int32.ofNat F2 else -1) < (0 : Int32) then T else A) else T) := fun {T A} t => by
    by_cases c : v10 < I 166 6
    · rw [if_pos c]
      rcases hv with hv | hv
      · rw [eS] at c; exact absurd c hv
      · rw [if_pos (g2.mpr hv)]; exact t
    · rw [if_neg c]; exact t
  refine ib_M_allocated_116 _ (Ls ?_)
  by_cases c1 : F1 < 4
  · rw [if_pos c1] at hr
    rw [if_neg (fun z => g1.mp z c1), if_pos c1]
    have b := i1 c1
    have e := (eU F1 c1).1
    refine ⟨oi_in c1 (by omega), ?_⟩
    rw [oi_n (i := F1) (by omega), st_w_at, a_sc, e, oi_64 (by omega) (by omega), oi_128 (by omega) (by omega), oi_a, oi_a, oi_p, fr_0, oi_n (i := 64 * F1 + U F1) (by omega), oi_n (i := 64 * s + k) (by omega)]
    refine ⟨oi_in (by omega) (by omega), oi_in (by omega) (by omega), ?_⟩
    exact hr
  · rw [if_neg c1] at hr
    rw [if_pos (g1.mpr c1)]
    by_cases c3 : P < 4
    · have c2 := i4 c3
      rw [if_pos ⟨c2, c3⟩] at hr
      rw [if_neg (fun z => g3.mp z c3), if_pos c2, if_pos c3]
      have b2 := i2 c2
      have b3 := i3 c2 c3
      have e2 := (eU F2 c2).1
      refine ⟨oi_in c2 (by omega), oi_in c3 (by omega), ?_⟩
      rw [oi_n (i := F2) (by omega), oi_n (i := P) (by omega), st_w_at, st_w_at, a_sc, a_sc, e2, oi_p]
      have eP : (st_w I 170 F2 (Int32.ofNat (U F2 + n))) 170 P = Int32.ofNat (uad U F2 n P) := by
        rw [st_w_e]
        unfold uad
        by_cases q : P = F2
        · rw [if_pos ⟨rfl, q⟩, if_pos q, q]
        · rw [if_neg (fun z => q z.2), if_neg q]
          exact (eU P c3).1
      rw [eP, oi_64 (by omega) (by omega), oi_128 (by omega) (by omega), oi_a, oi_n (i := 64 * P + uad U F2 n P) (by omega), oi_n (i := 64 * P + uad U F2 n P + 1) (by omega), oi_n (i := 64 * s + k) (by omega), fr_0, fr_1, show Int32.ofNat (uad U F2 n P) + (2 : Int32) = Int32.ofNat (uad U F2 n P + 2) from oi_p _ 2]
      refine ⟨oi_in (by omega) (by omega), oi_in (by omega) (by omega), oi_in (by omega) (by omega), ?_⟩
      exact hr
    · rw [if_neg (fun z => c3 z.2)] at hr
      rw [if_pos (g3.mpr c3), eS, eZ, oi_a]
      by_cases c4 : S < 4 ∧ n + 1 ≤ Z
      · rw [if_pos c4] at hr
        have e := (eU S c4.1).1
        have e0 := h0 S c4.1 (by omega)
        rw [if_pos (by rw [show (4 : Int32) = Int32.ofNat 4 from rfl, oi_lt (by omega) (by omega)]; exact c4.1), if_neg (by rw [oi_lt (by omega) (by omega)]; omega), if_neg (oi_ng (by omega))]
        refine ⟨oi_in c4.1 (by omega), ?_⟩
        rw [oi_n (i := S) (by omega), st_w_at, a_sc, e, oi_64 (by omega) (by omega), oi_128 (by omega) (by omega), oi_a, oi_a, oi_p, fr_0, oi_n (i := 64 * S + U S) (by omega), oi_n (i := 64 * s + k) (by omega)]
        refine ⟨oi_in (by omega) (by omega), oi_in (by omega) (by omega), ?_⟩
        exact hr
      · rw [if_neg c4] at hr
        by_cases c5 : S < 4
        · rw [if_pos (by rw [show (4 : Int32) = Int32.ofNat 4 from rfl, oi_lt (by omega) (by omega)]; exact c5), if_pos (by rw [oi_lt (by omega) (by omega)]; omega)]
          exact hr
        · rw [if_neg (by rw [show (4 : Int32) = Int32.ofNat 4 from rfl, oi_lt (by omega) (by omega)]; exact c5)]
          exact hr
theorem ma_found (eS : I 166 6 = Int32.ofNat S) (eZ : I 166 9 = Int32.ofNat Z) (S1 : 1 ≤ S) (S4 : S ≤ 4) (Z64 : Z ≤ 64) (eU : ∀ x, x < 4 → I 170 x = Int32.ofNat (U x) ∧ U x ≤ 64) (h0 : ∀ x, x < 4 → S ≤ x → U x = 0) (hs : s < 4) (hk : k < 64) (hn : n ≤ 2000) {F1 F2 P : Nat} (i1 : F1 < 4 → U F1 + (n + 1) ≤ Z) (i2 : F2 < 4 → U F2 + n ≤ Z) (c2 : F2 < 4) (c3 : P < 4) (i3 : uad U F2 n P + 2 ≤ Z) {u : Option Value} (hr : r = mEnd I J (if F1 < 4 then some (1, F1, U F1 + 1, F1, U F1) else if F2 < 4 ∧ P < 4 then some (2, F2, U F2, P, uad U F2 n (P)) else if S < 4 ∧ n + 1 ≤ Z then some (3, S, U S + 1, S, U S) else none) s k n w) : ∀ m i, i + m = 4 → Gx X (d + 1) (kc_M_allocated, []) (116, [some (.ref 166), some (.int (Int32.ofNat s)), some (.int (Int32.ofNat k)), some (.int (Int32.ofNat n)), some (.long w), none, some (.int (Int32.ofNat (64 * s + k))), some (.int (if F1 < 4 then Int32.ofNat F1 else -1)), some (.int (if F2 < 4 then Int32.ofNat F2 else -1)), some (.int (Int32.ofNat P)), some (.int (Int32.ofNat i)), u], [], st_h I J, 0, 0) r := by
  have key := fun (v10 : Int32) (hv : ¬ (v10 < Int32.ofNat S) ∨ ¬ F2 < 4) => ma_end (X := X) (d := d) (F1 := F1) (F2 := F2) (P := P) (u := u) eS eZ S1 S4 Z64 eU h0 hs hk hn i1 i2 (fun _ _ => i3) (fun _ => c2) hv hr
  intro m
  induction m with
  | zero =>
    intro i hi
    have hi4 : i = 4 := hi
    have z := key (Int32.ofNat i) (Or.inl (by rw [oi_lt (by omega) (by omega)]; omega))
    rw [if_pos c3] at z
    exact z
  | succ m ih =>
    intro i hi
    by_cases c : i < S
    · refine ib_M_allocated_116 _ ?_
      rw [if_pos (by rw [eS]; exact (oi_lt (by omega) (by omega)).mpr c), if_neg (by rw [if_pos c2]; exact oi_ng (by omega)), if_neg (oi_ng (by omega)), oi_a]
      exact ih (i + 1) (by omega)
    · have z := key (Int32.ofNat i) (Or.inl (by rw [oi_lt (by omega) (by omega)]; exact c))
      rw [if_pos c3] at z
      exact z
theorem ma_loop (eS : I 166 6 = Int32.ofNat S) (eZ : I 166 9 = Int32.ofNat Z) (S1 : 1 ≤ S) (S4 : S ≤ 4) (Z64 : Z ≤ 64) (eU : ∀ x, x < 4 → I 170 x = Int32.ofNat (U x) ∧ U x ≤ 64) (h0 : ∀ x, x < 4 → S ≤ x → U x = 0) (hs : s < 4) (hk : k < 64) (hn : n ≤ 2000) {F1 F2 : Nat} (i1 : F1 < 4 → U F1 + (n + 1) ≤ Z) (i2 : F2 < 4 → U F2 + n ≤ Z) (c2 : F2 < 4) {u : Option Value} : ∀ m i, i + m = 4 → r = mEnd I J (if F1 < 4 then some (1, F1, U F1 + 1, F1, U F1) else if F2 < 4 ∧ fwn (uad U F2 n) Z S 2 m i < 4 then some (2, F2, U F2, fwn (uad U F2 n) Z S 2 m i, uad U F2 n (fwn (uad U F2 n) Z S 2 m i)) else if S < 4 ∧ n + 1 ≤ Z then some (3, S, U S + 1, S, U S) else none) s k n w → Gx X (d + 1) (kc_M_allocated, []) (116, [some (.ref 166), some (.int (Int32.ofNat s)), some (.int (Int32.ofNat k)), some (.int (Int32.ofNat n)), some (.long w), none, some (.int (Int32.ofNat (64 * s + k))), some (.int (if F1 < 4 then Int32.ofNat F1 else -1)), some (.int (if F2 < 4 then Int32.ofNat F2 else -1)), some (.int (-1)), some (.int (Int32.ofNat i)), u], [], st_h I J, 0, 0) r := by
  have key := fun (v10 : Int32) (hv : ¬ (v10 < Int32.ofNat S) ∨ ¬ F2 < 4) (hr : r = mEnd I J (if F1 < 4 then some (1, F1, U F1 + 1, F1, U F1) else if F2 < 4 ∧ 4 < 4 then some (2, F2, U F2, 4, uad U F2 n (4)) else if S < 4 ∧ n + 1 ≤ Z then some (3, S, U S + 1, S, U S) else none) s k n w) => ma_end (X := X) (d := d) (F1 := F1) (F2 := F2) (P := 4) (u := u) eS eZ S1 S4 Z64 eU h0 hs hk hn i1 i2 (fun _ z => absurd z (by omega)) (fun _ => c2) hv hr
  intro m
  induction m with
  | zero =>
    intro i hi hr
    have z := key (Int32.ofNat i) (Or.inl (by rw [oi_lt (by omega) (by omega)]; omega)) hr
    rw [if_neg (show ¬ 4 < 4 by omega)] at z
    exact z
  | succ m ih =>
    intro i hi hr
    unfold fwn at hr
    by_cases c : i < S
    · rw [if_pos c] at hr
      refine ib_M_allocated_116 _ ?_
      rw [if_pos (by rw [eS]; exact (oi_lt (by omega) (by omega)).mpr c), if_neg (by rw [if_pos c2]; exact oi_ng (by omega)), if_pos (by decide), oi_a]
      refine ⟨oi_in (by omega) (by omega), ?_⟩
      have b2 := i2 c2
      have e := eU i (by omega)
      have hc : ((((I 166 9) - (I 170 (Int32.ofNat i).toNatClampNeg)) - (if Int32.ofNat i = (if F2 < 4 then Int32.ofNat F2 else -1) then Int32.ofNat n else (0 : Int32))) < (2 : Int32)) ↔ ¬ (uad U F2 n i + 2 ≤ Z) := by
        rw [if_pos c2, oi_n (by omega), eZ, e.1, i32_lt]
        unfold uad
        by_cases q : i = F2
        · rw [if_pos (by rw [q]), if_pos q, is2 (is2 (oi_i (by omega)) (oi_i (by omega)) (by omega) (by omega)) (oi_i (by omega)) (by omega) (by omega), show (2 : Int32).toInt = 2 from rfl]
          omega
        · rw [if_neg (fun z => q ((oi_eq (by omega) (by omega)).mp z)), if_neg q, is2 (is2 (oi_i (by omega)) (oi_i (by omega)) (by omega) (by omega)) i0 (by omega) (by omega), show (2 : Int32).toInt = 2 from rfl]
          omega
      by_cases q : uad U F2 n i + 2 ≤ Z
      · rw [if_pos q] at hr
        rw [if_neg (fun z => hc.mp z q)]
        exact ma_found eS eZ S1 S4 Z64 eU h0 hs hk hn i1 i2 c2 (by omega) q hr m (i + 1) (by omega)
      · rw [if_neg q] at hr
        rw [if_pos (hc.mpr q)]
        exact ih (i + 1) (by omega) hr
    · rw [if_neg c] at hr
      have z := key (Int32.ofNat i) (Or.inl (by rw [oi_lt (by omega) (by omega)]; exact c)) hr
      rw [if_neg (show ¬ 4 < 4 by omega)] at z
      exact z
set_option maxRecDepth 20000 in
/-- all of it, but for a struct of no words -/
theorem ma_ex (eS : I 166 6 = Int32.ofNat S) (eZ : I 166 9 = Int32.ofNat Z) (S1 : 1 ≤ S) (S4 : S ≤ 4) (Z64 : Z ≤ 64) (eU : ∀ x, x < 4 → I 170 x = Int32.ofNat (U x) ∧ U x ≤ 64) (h0 : ∀ x, x < 4 → S ≤ x → U x = 0) (hs : s < 4) (hk : k < 64) (hn : n ≤ 2000) (hw : ¬ (n = 0 ∧ (w &&& 3) = 0)) (hr : r = mEnd I J (al U S Z s n) s k n w) : Ex X (d + 2) 209 [.ref 166, .int (Int32.ofNat s), .int (Int32.ofNat k), .int (Int32.ofNat n), .long w] (st_h I J) r := by
  have L : ∀ {A T : Prop}, T → (if Int32.ofNat n = 0 then (if (w &&& 3) = 0 then A else T) else T) := fun {A T} t => by
    by_cases c : Int32.ofNat n = 0
    · rw [if_pos c]
      by_cases q : (w &&& 3) = 0
      · exact absurd ⟨(oi_eq (b := 0) (by omega) (by omega)).mp c, q⟩ hw
      · rw [if_neg q]; exact t
    · rw [if_neg c]; exact t
  refine ie_M_allocated _ (L ?_)
  refine ⟨oi_in hs (by omega), ?_⟩
  have e := eU s hs
  have eU' : ∀ x, x < 4 → I 170 x = Int32.ofNat (U x) ∧ U x ≤ 100000 := fun x hx => ⟨(eU x hx).1, by have := (eU x hx).2; omega⟩
  have f1 := fwr_n (R := I 170) eU' (Z := Z) (S := S) (n := n + 1) (by omega) (by omega) (by omega) 4 0 rfl
  have f2 := fwr_n (R := I 170) eU' (Z := Z) (S := S) (n := n) (by omega) (by omega) (by omega) 4 0 rfl
  have b1 := fwn_b (V := U) (Z := Z) (S := S) (n := n + 1) 4 0
  have b2 := fwn_b (V := U) (Z := Z) (S := S) (n := n) 4 0
  unfold al at hr
  rw [eZ, eS, oi_n (i := s) (by omega), oi_a, oi_64 (by omega) (by omega), f1, f2]
  by_cases c0 : U s + n ≤ Z
  · rw [if_pos c0] at hr
    rw [if_neg (by rw [e.1]; exact fun z => (fwl (by omega) (by omega) (by omega)).mp z c0), st_w_at, a_sc, e.1, oi_128 (by omega) (by omega), oi_p, oi_n (i := 64 * s + k) (by omega)]
    exact ⟨oi_in (by omega) (by omega), hr⟩
  · rw [if_neg c0] at hr
    rw [if_pos (by rw [e.1]; exact (fwl (by omega) (by omega) (by omega)).mpr c0)]
    refine ⟨(show (Int32.ofNat S).toInt ≤ 4 by rw [oi_i (by omega)]; omega), ?_⟩
    by_cases c2 : fwn U Z S n 4 0 < 4
    · exact ma_loop (F1 := fwn U Z S (n + 1) 4 0) (F2 := fwn U Z S n 4 0) eS eZ S1 S4 Z64 eU h0 hs hk hn (fun z => (b1 z).2) (fun z => (b2 z).2) c2 4 0 rfl hr
    · have z := ma_end (X := X) (d := d) (F1 := fwn U Z S (n + 1) 4 0) (F2 := fwn U Z S n 4 0) (P := 4) (v10 := 0) (u := none) eS eZ S1 S4 Z64 eU h0 hs hk hn (fun z => (b1 z).2) (fun z => (b2 z).2) (fun _ z => absurd z (by omega)) (fun z => absurd z (by omega)) (Or.inr c2) (r := r) (J := J) (w := w) (by
        rw [hr]
        congr 1
        by_cases q : fwn U Z S (n + 1) 4 0 < 4
        · rw [if_pos q, if_pos q]
        · rw [if_neg q, if_neg q, if_neg (show ¬ (fwn U Z S n 4 0 < 4 ∧ fwn (uad U (fwn U Z S n 4 0) n) Z S 2 4 0 < 4) from fun z => c2 z.1), if_neg (show ¬ (fwn U Z S n 4 0 < 4 ∧ 4 < 4) from fun z => c2 z.1)])
      rw [if_neg (show ¬ 4 < 4 by omega)] at z
      exact z
/-- a struct of no words -/
theorem ma_no (hs : s < 4) (hk : k < 64) (hw : (w &&& 3) = 0) : Ex X (d + 2) 209 [.ref 166, .int (Int32.ofNat s), .int (Int32.ofNat k), .int (Int32.ofNat 0), .long w] (st_h I J) (.inl (some (.int (Int32.ofNat (128 * s + k)))), st_h I (st_y J 167 (64 * s + k) (nrm w (-1))), 0, 0) := by
  refine ie_M_allocated _ ?_
  rw [if_pos (show Int32.ofNat 0 = 0 from rfl), if_pos hw, oi_64 (by omega) (by omega), oi_128 (by omega) (by omega), oi_n (i := 64 * s + k) (by omega)]
  exact ⟨oi_in (by omega) (by omega), rfl⟩
end MA
