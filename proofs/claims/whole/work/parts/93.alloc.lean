/-! words are taken in a segment: what is meant -/
/-- the first segment with n words left, 4 if none -/
def fwn (U : Nat → Nat) (Z S n : Nat) : Nat → Nat → Nat
  | 0, _ => 4
  | m + 1, i => if i < S then (if U i + n ≤ Z then i else fwn U Z S n m (i + 1)) else 4
theorem fwl {Z u n : Nat} (hZ : Z ≤ 100000) (hu : u ≤ 100000) (hn : n ≤ 100000) : (Int32.ofNat Z - Int32.ofNat u < Int32.ofNat n) ↔ ¬ (u + n ≤ Z) := by
  rw [i32_lt, is2 (oi_i (by omega)) (oi_i (by omega)) (by omega) (by omega), oi_i (by omega)]
  omega
theorem fwr_n {R : Nat → Int32} {V : Nat → Nat} {Z S n : Nat} (hR : ∀ x, x < 4 → R x = Int32.ofNat (V x) ∧ V x ≤ 100000) (hZ : Z ≤ 100000) (hS : S ≤ 4) (hn : n ≤ 100000) : ∀ m i, i + m = 4 → fwr (Int32.ofNat Z) R (Int32.ofNat S) (Int32.ofNat n) m i = if fwn V Z S n m i < 4 then Int32.ofNat (fwn V Z S n m i) else -1 := by
  intro m
  induction m with
  | zero => intro i _; rfl
  | succ m ih =>
    intro i hi
    unfold fwr fwn
    by_cases c1 : i < S
    · rw [if_pos ((oi_lt (by omega) (by omega)).mpr c1), if_pos c1, (hR i (by omega)).1]
      by_cases c2 : V i + n ≤ Z
      · rw [if_neg (fun z => (fwl hZ (hR i (by omega)).2 hn).mp z c2), if_pos c2, if_pos (by omega)]
      · rw [if_pos ((fwl hZ (hR i (by omega)).2 hn).mpr c2), if_neg c2]
        exact ih (i + 1) (by omega)
    · rw [if_neg (fun z => c1 ((oi_lt (by omega) (by omega)).mp z)), if_neg c1]
      rfl
theorem fwn_b {V : Nat → Nat} {Z S n : Nat} : ∀ m i, fwn V Z S n m i < 4 → fwn V Z S n m i < S ∧ V (fwn V Z S n m i) + n ≤ Z := by
  intro m
  induction m with
  | zero => intro i h; exact absurd h (by unfold fwn; omega)
  | succ m ih =>
    intro i h
    unfold fwn at h ⊢
    by_cases c1 : i < S
    · rw [if_pos c1] at h ⊢
      by_cases c2 : V i + n ≤ Z
      · rw [if_pos c2]; exact ⟨c1, c2⟩
      · rw [if_neg c2] at h ⊢
        exact ih (i + 1) h
    · rw [if_neg c1] at h; omega
theorem fwn_no {V : Nat → Nat} {Z S n : Nat} : ∀ m i, i + m = 4 → ¬ fwn V Z S n m i < 4 → ∀ x, i ≤ x → x < S → x < 4 → ¬ V x + n ≤ Z := by
  intro m
  induction m with
  | zero => intro i hi _ x h1 h2 h3; omega
  | succ m ih =>
    intro i hi h x h1 h2 h3
    unfold fwn at h
    by_cases c1 : i < S
    · rw [if_pos c1] at h
      by_cases c2 : V i + n ≤ Z
      · rw [if_pos c2] at h; omega
      · rw [if_neg c2] at h
        by_cases c3 : x = i
        · rw [c3]; exact c2
        · exact ih (i + 1) (by omega) h x (by omega) h2 h3
    · omega
def uad (U : Nat → Nat) (t n : Nat) : Nat → Nat := fun x => if x = t then U x + n else U x
/-- which way, segment and place of what is taken, segment and place of the pad -/
def al (U : Nat → Nat) (S Z s n : Nat) : Option (Nat × Nat × Nat × Nat × Nat) :=
  if U s + n ≤ Z then some (0, s, U s, 0, 0)
  else if fwn U Z S (n + 1) 4 0 < 4 then some (1, fwn U Z S (n + 1) 4 0, U (fwn U Z S (n + 1) 4 0) + 1, fwn U Z S (n + 1) 4 0, U (fwn U Z S (n + 1) 4 0))
  else if fwn U Z S n 4 0 < 4 ∧ fwn (uad U (fwn U Z S n 4 0) n) Z S 2 4 0 < 4 then some (2, fwn U Z S n 4 0, U (fwn U Z S n 4 0), fwn (uad U (fwn U Z S n 4 0) n) Z S 2 4 0, uad U (fwn U Z S n 4 0) n (fwn (uad U (fwn U Z S n 4 0) n) Z S 2 4 0))
  else if S < 4 ∧ n + 1 ≤ Z then some (3, S, U S + 1, S, U S)
  else none
def nrw (w : Int64) (o : Int32) : Int64 := (w &&& (-4294967293 : Int64)) ||| ((jl (Int32.toInt64 o) (2 : Int32)) &&& (4294967292 : Int64))
def frw (t : Int32) (ps pd : Nat) : Int64 := ((Int32.toInt64 ((2 : Int32) ||| t)) ||| (jl (Int32.toInt64 (Int32.ofNat pd)) (3 : Int32))) ||| (jl (Int32.toInt64 (Int32.ofNat ps)) (32 : Int32))
def aU (I : st_I) (v : Nat × Nat × Nat × Nat × Nat) (n : Nat) : st_I := match v.1 with
  | 0 => st_w I 7 v.2.1 (Int32.ofNat (v.2.2.1 + n))
  | 1 => st_w I 7 v.2.2.2.1 (Int32.ofNat (v.2.2.2.2 + (n + 1)))
  | 2 => st_w (st_w I 7 v.2.1 (Int32.ofNat (v.2.2.1 + n))) 7 v.2.2.2.1 (Int32.ofNat (v.2.2.2.2 + 2))
  | _ => st_w (st_w I 1 2 (Int32.ofNat (v.2.2.2.1 + 1))) 7 v.2.2.2.1 (Int32.ofNat (v.2.2.2.2 + (n + 1)))
def aI (I : st_I) (v : Nat × Nat × Nat × Nat × Nat) (n : Nat) : st_I := st_w (st_w (aU I v n) 9 0 (Int32.ofNat v.2.1)) 9 1 (Int32.ofNat v.2.2.1)
def aJ (J : st_J) (v : Nat × Nat × Nat × Nat × Nat) (s k : Nat) (w : Int64) : st_J := match v.1 with
  | 0 => st_y J (3 + s) k (nrw w (Int32.ofNat v.2.2.1 - Int32.ofNat k - 1))
  | 2 => st_y (st_y (st_y J (3 + s) k (frw 4 v.2.2.2.1 v.2.2.2.2)) (3 + v.2.2.2.1) v.2.2.2.2 (frw 0 v.2.1 v.2.2.1)) (3 + v.2.2.2.1) (v.2.2.2.2 + 1) w
  | _ => st_y (st_y J (3 + s) k (frw 0 v.2.2.2.1 v.2.2.2.2)) (3 + v.2.2.2.1) v.2.2.2.2 w
def mU (I : st_I) (v : Nat × Nat × Nat × Nat × Nat) (n : Nat) : st_I := match v.1 with
  | 0 => st_w I 170 v.2.1 (Int32.ofNat (v.2.2.1 + n))
  | 1 => st_w I 170 v.2.2.2.1 (Int32.ofNat (v.2.2.2.2 + (n + 1)))
  | 2 => st_w (st_w I 170 v.2.1 (Int32.ofNat (v.2.2.1 + n))) 170 v.2.2.2.1 (Int32.ofNat (v.2.2.2.2 + 2))
  | _ => st_w (st_w I 166 6 (Int32.ofNat (v.2.2.2.1 + 1))) 170 v.2.2.2.1 (Int32.ofNat (v.2.2.2.2 + (n + 1)))
/-- as the reference joins them -/
def nrm (w : Int64) (o : Int32) : Int64 := w ||| (jl ((Int32.toInt64 o) &&& (1073741823 : Int64)) (2 : Int32))
def mJ (J : st_J) (v : Nat × Nat × Nat × Nat × Nat) (s k : Nat) (w : Int64) : st_J := match v.1 with
  | 0 => st_y J 167 (64 * s + k) (nrm w (Int32.ofNat v.2.2.1 - Int32.ofNat k - 1))
  | 2 => st_y (st_y (st_y J 167 (64 * v.2.2.2.1 + v.2.2.2.2) (frw 0 v.2.1 v.2.2.1)) 167 (64 * v.2.2.2.1 + v.2.2.2.2 + 1) w) 167 (64 * s + k) (frw 4 v.2.2.2.1 v.2.2.2.2)
  | _ => st_y (st_y J 167 (64 * v.2.2.2.1 + v.2.2.2.2) w) 167 (64 * s + k) (frw 0 v.2.2.2.1 v.2.2.2.2)
def alN (I : st_I) (J : st_J) (s k : Nat) (w : Int64) (n : Nat) : Option (st_I × st_J) := (al (un (I 7)) (I 1 2).toNatClampNeg (I 1 3).toNatClampNeg s n).map fun v => (aI I v n, aJ J v s k w)
theorem st_w_cm (I : st_I) {a b : Nat} (f g : Nat) (x y : Int32) (h : ¬ (a = b ∧ f = g)) : st_w (st_w I a f x) b g y = st_w (st_w I b g y) a f x := by
  funext i j
  rw [st_w_e, st_w_e, st_w_e, st_w_e]
  by_cases c1 : i = b ∧ j = g
  · by_cases c2 : i = a ∧ j = f
    · exact absurd ⟨c2.1.symm.trans c1.1, c2.2.symm.trans c1.2⟩ h
    · rw [if_pos c1, if_neg c2, if_pos c1]
  · rw [if_neg c1, if_neg c1]
theorem st_w_bk (I : st_I) (a f : Nat) (x : Int32) : st_w (st_w I a f x) a f (I a f) = I := by
  funext i j
  rw [st_w_e, st_w_e]
  by_cases c1 : i = a ∧ j = f
  · rw [if_pos c1, c1.1, c1.2]
  · rw [if_neg c1, if_neg c1]
theorem st_w_at (I : st_I) (a f : Nat) (x : Int32) : st_w I a f x a f = x := by rw [st_w_e, if_pos ⟨rfl, rfl⟩]
theorem oi_ng {t : Nat} (h : t < 2147483648) : ¬ (Int32.ofNat t < (0 : Int32)) := by
  rw [i32_lt, oi_i (by omega), i0]
  omega
set_option maxRecDepth 20000 in
theorem al_ex {X : pm_X} {d : Nat} {I : st_I} {J : st_J} {s k n : Nat} {w : Int64} (hm : wfm I) (hz1 : 1 ≤ (I 1 3).toInt) (hz2 : (I 1 3).toInt ≤ 64) (h0 : ∀ s : Nat, s < 4 → (I 1 2).toInt ≤ (s : Int) → I 7 s = 0) (hs : s < 4) (hk : k < 64) (hn : n ≤ 2000) (r : pm_R) (h : om (alN I J s k w n) (fun v => r = (.inl none, st_h v.1 v.2, 0, 0)) (r = (.inr 3, st_h I J, 1, 6))) : Ex X (d + 4) 101 [.ref 9, .ref 1, .int (Int32.ofNat s), .int (Int32.ofNat k), .long w, .int (Int32.ofNat n)] (st_h I J) r := by
  obtain ⟨⟨s1, s4⟩, hu, -⟩ := hm
  obtain ⟨U, hU⟩ : ∃ U, U = un (I 7) := ⟨_, rfl⟩
  obtain ⟨S, hS⟩ : ∃ S, S = (I 1 2).toNatClampNeg := ⟨_, rfl⟩
  obtain ⟨Z, hZ⟩ : ∃ Z, Z = (I 1 3).toNatClampNeg := ⟨_, rfl⟩
  have eS : I 1 2 = Int32.ofNat S := by rw [hS]; exact oi_of (by omega)
  have eZ : I 1 3 = Int32.ofNat Z := by rw [hZ]; exact oi_of (by omega)
  have nS := cln (x := I 1 2) (by omega)
  have nZ := cln (x := I 1 3) (by omega)
  rw [← hS] at nS
  rw [← hZ] at nZ
  have eU : ∀ x, x < 4 → I 7 x = Int32.ofNat (U x) ∧ U x ≤ 64 := fun x hx => by
    have a := hu x hx
    have b := un_i a.1
    rw [← hU] at b
    exact ⟨by rw [hU]; exact oi_of a.1, by omega⟩
  have eU' : ∀ x, x < 4 → I 7 x = Int32.ofNat (U x) ∧ U x ≤ 100000 := fun x hx => ⟨(eU x hx).1, by have := (eU x hx).2; omega⟩
  have es : (Int32.ofNat s).toNatClampNeg = s := oi_n (by omega)
  have ek : (Int32.ofNat k).toNatClampNeg = k := oi_n (by omega)
  have f1 := fwr_n (R := I 7) eU' (Z := Z) (S := S) (n := n + 1) (by omega) (by omega) (by omega) 4 0 rfl
  have f2 := fwr_n (R := I 7) eU' (Z := Z) (S := S) (n := n) (by omega) (by omega) (by omega) 4 0 rfl
  have b1 := fwn_b (V := U) (Z := Z) (S := S) (n := n + 1) 4 0
  have b2 := fwn_b (V := U) (Z := Z) (S := S) (n := n) 4 0
  unfold alN at h
  rw [← hU, ← hS, ← hZ] at h
  unfold al at h
  refine iv_Bu_allocate _ ⟨oi_in hs (by omega), ?_⟩
  rw [eZ, eS, es, ek, oi_a, f1, f2]
  have es2 := (eU s hs).1
  by_cases c0 : U s + n ≤ Z
  · rw [if_pos c0] at h
    rw [if_neg (by rw [es2]; exact fun z => (fwl (by omega) (eU' s hs).2 (by omega)).mp z c0)]
    refine ⟨oi_in hk (by omega), ?_⟩
    rw [es2, oi_p, st_w_cm I (a := 9) (b := 7) 0 s _ _ (by omega)]
    exact h
  · rw [if_neg c0] at h
    rw [if_pos (by rw [es2]; exact (fwl (by omega) (eU' s hs).2 (by omega)).mpr c0)]
    refine ⟨(show (Int32.ofNat S).toInt ≤ 4 by rw [oi_i (by omega)]; omega), ?_⟩
    by_cases c1 : fwn U Z S (n + 1) 4 0 < 4
    · rw [if_pos c1] at h
      generalize fwn U Z S (n + 1) 4 0 = F at *
      have b := b1 c1
      have eF := (eU F c1).1
      rw [if_pos c1, if_neg (oi_ng (by omega))]
      refine ⟨oi_in c1 (by omega), oi_in hk (by omega), ?_⟩
      rw [oi_n (by omega), eF]
      refine ⟨oi_in (by omega) (by omega), ?_⟩
      rw [oi_p, oi_a, oi_n (by omega)]
      exact h
    · rw [if_neg c1] at h
      rw [if_neg c1, if_pos (by decide)]
      by_cases c2 : fwn U Z S n 4 0 < 4
      · generalize fwn U Z S n 4 0 = F at *
        have b := b2 c2
        have eF := (eU F c2).1
        have eV : ∀ x, x < 4 → (st_w I 7 F (Int32.ofNat (U F + n))) 7 x = Int32.ofNat (uad U F n x) ∧ uad U F n x ≤ 100000 := fun x hx => by
          rw [st_w_e]
          unfold uad
          by_cases q : x = F
          · rw [if_pos ⟨rfl, q⟩, if_pos q, q]
            exact ⟨rfl, by omega⟩
          · rw [if_neg (fun z => q z.2), if_neg q]
            exact eU' x hx
        have f3 := fwr_n (R := (st_w I 7 F (Int32.ofNat (U F + n))) 7) eV (Z := Z) (S := S) (n := 2) (by omega) (by omega) (by omega) 4 0 rfl
        have b3 := fwn_b (V := uad U F n) (Z := Z) (S := S) (n := 2) 4 0
        rw [if_pos c2, if_neg (oi_ng (by omega))]
        refine ⟨oi_in c2 (by omega), ?_⟩
        rw [oi_n (i := F) (by omega)]
        rw [st_w_bk]
        rw [eF, oi_p, show (2 : Int32) = Int32.ofNat 2 from rfl, f3]
        by_cases c3 : fwn (uad U F n) Z S 2 4 0 < 4
        · rw [if_pos ⟨c2, c3⟩] at h
          generalize fwn (uad U F n) Z S 2 4 0 = P at *
          have bP := b3 c3
          have eP := (eV P c3).1
          rw [if_pos c3, if_neg (oi_ng (by omega))]
          refine ⟨oi_in c3 (by omega), oi_in hk (by omega), ?_⟩
          rw [oi_n (i := P) (by omega), eP]
          refine ⟨oi_in (by omega) (by omega), ?_⟩
          rw [oi_a]
          refine ⟨oi_in (by omega) (by omega), ?_⟩
          rw [oi_p, oi_n (by omega), oi_n (by omega)]
          exact h
        · rw [if_neg (fun z => c3 z.2)] at h
          rw [if_neg c3, if_pos (by decide)]
          by_cases c4 : S < 4 ∧ n + 1 ≤ Z
          · rw [if_pos c4] at h
            have eQ := (eU S c4.1).1
            have hU0 : U S = 0 := by
              have a := h0 S c4.1 (by omega)
              rw [eQ] at a
              exact (oi_eq (b := 0) (by have := (eU S c4.1).2; omega) (by omega)).mp a
            rw [if_neg (by rw [show (4 : Int32) = Int32.ofNat 4 from rfl, oi_lt (by omega) (by omega), oi_lt (by omega) (by omega)]; omega), oi_a, oi_s1]
            refine ⟨oi_in c4.1 (by omega), oi_in hk (by omega), ?_⟩
            rw [oi_n (i := S) (by omega), eQ]
            refine ⟨oi_in (by omega) (by omega), ?_⟩
            rw [oi_p, oi_a, oi_n (by omega)]
            exact h
          · rw [if_neg c4] at h
            rw [if_pos (by rw [show (4 : Int32) = Int32.ofNat 4 from rfl, oi_lt (by omega) (by omega), oi_lt (by omega) (by omega)]; omega)]
            exact h
      · rw [if_neg (fun z => c2 z.1)] at h
        rw [if_neg c2, if_pos (by decide)]
        by_cases c4 : S < 4 ∧ n + 1 ≤ Z
        · rw [if_pos c4] at h
          have eQ := (eU S c4.1).1
          have hU0 : U S = 0 := by
            have a := h0 S c4.1 (by omega)
            rw [eQ] at a
            exact (oi_eq (b := 0) (by have := (eU S c4.1).2; omega) (by omega)).mp a
          rw [if_neg (by rw [show (4 : Int32) = Int32.ofNat 4 from rfl, oi_lt (by omega) (by omega), oi_lt (by omega) (by omega)]; omega), oi_a, oi_s1]
          refine ⟨oi_in c4.1 (by omega), oi_in hk (by omega), ?_⟩
          rw [oi_n (i := S) (by omega), eQ]
          refine ⟨oi_in (by omega) (by omega), ?_⟩
          rw [oi_p, oi_a, oi_n (by omega)]
          exact h
        · rw [if_neg c4] at h
          rw [if_pos (by rw [show (4 : Int32) = Int32.ofNat 4 from rfl, oi_lt (by omega) (by omega), oi_lt (by omega) (by omega)]; omega)]
          exact h
