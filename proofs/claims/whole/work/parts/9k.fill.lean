/-! the groups of a framed message -/
def nfr (S : Nat) (U : Nat → Nat) (k : Nat) : Int64 := if k = 0 then Int32.toInt64 (Int32.ofNat S - 1) else if S < k then 0 else Int32.toInt64 (Int32.ofNat (U (k - 1)))
def hdg (S : Nat) (U : Nat → Nat) (g : Nat) : Int64 := nfr S U (2 * g) ||| jl (nfr S U (2 * g + 1)) 32
/-- how many stand in front of a segment's words -/
def gcn (S : Nat) (U : Nat → Nat) : Nat → Nat
  | 0 => S / 2 + 1
  | s + 1 => gcn S U s + U s
def gat (S : Nat) (U : Nat → Nat) (W : Nat → Nat → Int64) : Nat → Nat → Int64
  | 0, k => hdg S U k
  | s + 1, k => if k < gcn S U s then gat S U W s k else W s (k - gcn S U s)
theorem gcn_le {S : Nat} {U : Nat → Nat} (hU : ∀ x, x < 4 → U x ≤ 64) (hS : S ≤ 4) : ∀ s, s ≤ 4 → gcn S U s ≤ 3 + 64 * s := by
  intro s
  induction s with
  | zero => intro _; show S / 2 + 1 ≤ 3; omega
  | succ s ih =>
    intro h
    have := ih (by omega)
    have := hU s (by omega)
    show gcn S U s + U s ≤ _
    omega
/-! .. by the class -/
def fl1 (S : Nat) (U : Nat → Nat) (J : st_J) : Nat → st_J
  | 0 => J
  | g + 1 => st_y (fl1 S U J g) 11 g (hdg S U g)
def flJ (S : Nat) (U : Nat → Nat) (J : st_J) : Nat → st_J
  | 0 => fl1 S U J (S / 2 + 1)
  | s + 1 => st_yr (flJ S U J s) 11 (va_cpy (J (3 + s)) ((flJ S U J s) 11) 0 (gcn S U s) (U s))
theorem fl1_o {S : Nat} {U : Nat → Nat} {J : st_J} {a : Nat} (h : a ≠ 11) : ∀ g, (fl1 S U J g) a = J a := by
  intro g
  induction g with
  | zero => rfl
  | succ g ih => show (st_y (fl1 S U J g) 11 g _) a = _; rw [st_y_o _ _ _ h, ih]
theorem flJ_o {S : Nat} {U : Nat → Nat} {J : st_J} {a : Nat} (h : a ≠ 11) : ∀ s, (flJ S U J s) a = J a := by
  intro s
  induction s with
  | zero => exact fl1_o h _
  | succ s ih => show (st_yr (flJ S U J s) 11 _) a = _; rw [st_yr_o _ _ h, ih]
theorem fl1_h {S : Nat} {U : Nat → Nat} {J : st_J} : ∀ g k, k < g → (fl1 S U J g) 11 k = hdg S U k := by
  intro g
  induction g with
  | zero => intro k h; omega
  | succ g ih =>
    intro k h
    show (st_y (fl1 S U J g) 11 g _) 11 k = _
    rw [st_y_e]
    by_cases c : k = g
    · rw [if_pos ⟨rfl, c⟩, c]
    · rw [if_neg (fun z => c z.2)]
      exact ih k (by omega)
theorem flJ_g {S : Nat} {U : Nat → Nat} {J : st_J} {W : Nat → Nat → Int64} (hW : ∀ s k, s < 4 → k < U s → J (3 + s) k = W s k) : ∀ s, s ≤ 4 → ∀ k, k < gcn S U s → (flJ S U J s) 11 k = gat S U W s k := by
  intro s
  induction s with
  | zero => intro _ k h; exact fl1_h _ k h
  | succ s ih =>
    intro hs k h
    show (st_yr (flJ S U J s) 11 _) 11 k = _
    rw [st_yr_s]
    unfold va_cpy gat
    have h' : k < gcn S U s + U s := h
    by_cases c : k < gcn S U s
    · rw [if_neg (by omega), if_pos c]
      exact ih (by omega) k c
    · rw [if_pos (by omega), if_neg c, Nat.zero_add]
      exact hW s _ (by omega) (by omega)
def flk (I : st_I) : Prop := wfm I
theorem st_w_w (I : st_I) (a f : Nat) (x y : Int32) : st_w (st_w I a f x) a f y = st_w I a f y := by
  funext i j
  rw [st_w_e, st_w_e, st_w_e]
  by_cases c : i = a ∧ j = f
  · rw [if_pos c, if_pos c]
  · rw [if_neg c, if_neg c, if_neg c]
theorem hc_Fr_fill {X : pm_X} {d : Nat} {I : st_I} {J : st_J} (r : pm_R) : ((flk I) ∧ r = (.inl none, st_h (st_w I 10 1 (Int32.ofNat (gcn (Int32.toNatClampNeg (I 1 2)) (un (I 7)) (Int32.toNatClampNeg (I 1 2))))) (flJ (Int32.toNatClampNeg (I 1 2)) (un (I 7)) J (Int32.toNatClampNeg (I 1 2))), 0, 0)) → Ex X (d + 2) 126 [.ref 10, .ref 1] (st_h I J) r := by
  rintro ⟨⟨⟨s1, s4⟩, hu, -⟩, h⟩
  refine (e_Fr_fill r).mpr ?_
  have nS := cln (x := I 1 2) (by omega)
  have eS := oi_of (x := I 1 2) (by omega)
  have eU : ∀ x, x < 4 → I 7 x = Int32.ofNat (un (I 7) x) ∧ un (I 7) x ≤ 64 := fun x hx => by
    have a := hu x hx
    have b := un_i a.1
    exact ⟨oi_of a.1, by omega⟩
  generalize (I 1 2).toNatClampNeg = S at *
  generalize un (I 7) = U at *
  have hg := gcn_le (S := S) (fun x hx => (eU x hx).2) (by omega)
  have e2 : (I 1 2) / (2 : Int32) + 1 = Int32.ofNat (S / 2 + 1) := by
    rw [← oi_a]
    congr 1
    refine eq_of ?_
    rw [eS, id_ (by rw [oi_i (by omega)]; omega) (by decide), oi_i (by omega), show (2 : Int32).toInt = 2 from rfl]
    omega
  rw [e2]
  -- the heads
  have nf : ∀ k, k ≤ 6 → (if Int32.ofNat k = 0 then Int32.toInt64 ((I 1 2) - 1) else (if (I 1 2) < Int32.ofNat k then (0 : Int64) else Int32.toInt64 (I 7 (Int32.toNatClampNeg (Int32.ofNat k - 1))))) = nfr S U k := fun k hk => by
    unfold nfr
    by_cases c : k = 0
    · rw [if_pos c, if_pos (by rw [c]; rfl), eS]
    · have c0 : ¬ (Int32.ofNat k = 0) := fun z => c ((oi_eq (b := 0) (by omega) (by omega)).mp z)
      rw [if_neg c, if_neg c0, eS]
      by_cases c2 : S < k
      · rw [if_pos ((oi_lt (by omega) (by omega)).mpr c2), if_pos c2]
      · obtain ⟨j, rfl⟩ : ∃ j, k = j + 1 := ⟨k - 1, by omega⟩
        rw [if_neg (fun z => c2 ((oi_lt (by omega) (by omega)).mp z)), if_neg c2, oi_s1, oi_n (by omega), Nat.add_sub_cancel, (eU j (by omega)).1]
  have pr : ∀ k, k ≤ 6 → ((¬ (Int32.ofNat k = 0)) → ((¬ ((I 1 2) < Int32.ofNat k)) → (pm_in (Int32.ofNat k - 1) 4) = true)) := fun k hk c c2 => by
    rw [eS, oi_lt (by omega) (by omega)] at c2
    have c' : k ≠ 0 := fun z => c (by rw [z]; rfl)
    obtain ⟨j, rfl⟩ : ∃ j, k = j + 1 := ⟨k - 1, by omega⟩
    rw [oi_s1]
    exact oi_in (by omega) (by omega)
  have L1 := lp (G := fun i => Gx X (d + 1) (kc_Fr_fill, []) (13, [some (.ref 10), some (.ref 1), some (.int (Int32.ofNat i))], [], st_h (st_w I 10 1 (Int32.ofNat (S / 2 + 1))) (fl1 S U J i), 0, 0) r) (S / 2 + 1) (fun i hi => by
    refine (b_Fr_fill_13 r).trans ?_
    have q1 : (st_w I 10 1 (Int32.ofNat (S / 2 + 1))) 1 2 = I 1 2 := rfl
    have q7 : ∀ x, (st_w I 10 1 (Int32.ofNat (S / 2 + 1))) 7 x = I 7 x := fun _ => rfl
    rw [if_pos (by rw [st_w_at, oi_lt (by omega) (by omega)]; exact hi), q1, q7, q7, show (2 : Int32) = Int32.ofNat 2 from rfl, oi_mu, oi_a, oi_a, nf (2 * i) (by omega), nf (2 * i + 1) (by omega), oi_n (by omega)]
    exact (and_t (pr _ (by omega))).trans ((and_t (pr _ (by omega))).trans (and_t (oi_in (by omega) (by omega)))))
  refine L1.mpr ((b_Fr_fill_13 r).mpr ?_)
  rw [if_neg (by rw [st_w_at, oi_lt (by omega) (by omega)]; omega)]
  have L2 := lp (G := fun s => Gx X (d + 1) (kc_Fr_fill, []) (55, [some (.ref 10), some (.ref 1), some (.int (Int32.ofNat s))], [], st_h (st_w I 10 1 (Int32.ofNat (gcn S U s))) (flJ S U J s), 0, 0) r) S (fun s hs => by
    refine (b_Fr_fill_55 r).trans ?_
    have q1 : (st_w I 10 1 (Int32.ofNat (gcn S U s))) 1 2 = I 1 2 := rfl
    have q7 : ∀ x, (st_w I 10 1 (Int32.ofNat (gcn S U s))) 7 x = I 7 x := fun _ => rfl
    have hs4 : s < 4 := by omega
    have h3 := hg s (by omega)
    have h64 := (eU s hs4).2
    rw [if_pos (by rw [q1, eS, oi_lt (by omega) (by omega)]; exact hs), q7, oi_n (i := s) (by omega), (eU s hs4).1, st_w_at, oi_p, oi_a, st_w_w, oi_n (by omega), oi_n (by omega), flJ_o (by omega)]
    refine (and_t (oi_in (by omega) (by omega))).trans (and_t ?_)
    unfold st_cpk
    rw [oi_n (by omega), oi_n (by omega), decide_eq_false (oi_ng (by omega)), decide_eq_false (oi_ng (by omega)), decide_eq_false (show ¬ ((0 : Int32) < 0) by decide), Nat.ble_eq_true_of_le (show gcn S U s + U s ≤ 259 by omega), Nat.ble_eq_true_of_le (show (0 : Int32).toNatClampNeg + U s ≤ 64 by show 0 + U s ≤ 64; omega)]
    rfl)
  refine L2.mpr ((b_Fr_fill_55 r).mpr ?_)
  rw [if_neg (by rw [show (st_w I 10 1 (Int32.ofNat (gcn S U S))) 1 2 = I 1 2 from rfl, eS, oi_lt (by omega) (by omega)]; omega)]
  exact h
