/-! unpacking: what is meant -/
/-- a group's octets read at i, as its tag t says -/
def rgk (O : Nat → Int32) (L t : Nat) : Nat → Nat → Nat → Int64 → Option (Int64 × Nat)
  | 0, _, i, w => some (w, i)
  | m + 1, k, i, w => if t / 2 ^ k % 2 = 0 then rgk O L t m (k + 1) i w else if i < L then rgk O L t m (k + 1) (i + 1) (w ||| jl (Int32.toInt64 (O i)) ((8 : Int32) * Int32.ofNat k)) else none
def rgr (O : Nat → Int32) (L t : Nat) : Nat → Nat → Option (List Int64 × Nat)
  | 0, i => some ([], i)
  | u + 1, i => match rgk O L t 8 0 i 0 with
    | none => none
    | some (w, i1) => match rgr O L t u i1 with
      | none => none
      | some (l, i2) => some (w :: l, i2)
def ups (O : Nat → Int32) (L : Nat) : Nat → Nat → Option (List Int64)
  | 0, _ => some []
  | m + 1, i => if i < L then
      (match rgk O L (O i).toNatClampNeg 8 0 (i + 1) 0 with
      | none => none
      | some (w, i1) => if O i = 0 ∨ O i = 255 then
          (if i1 < L then
            (match rgr O L (O i).toNatClampNeg (O i1).toNatClampNeg (i1 + 1) with
            | none => none
            | some (l, i2) => (match ups O L m i2 with
              | none => none
              | some l2 => some (w :: (l ++ l2))))
          else none)
        else (match ups O L m i1 with
          | none => none
          | some l2 => some (w :: l2)))
    else some []
theorem rgk_b {O : Nat → Int32} {L t : Nat} : ∀ m k i w v, rgk O L t m k i w = some v → i ≤ v.2 ∧ (i ≤ L → v.2 ≤ L) := by
  intro m
  induction m with
  | zero =>
    intro k i w v h
    injection h with h
    subst h
    exact ⟨Nat.le_refl _, id⟩
  | succ m ih =>
    intro k i w v h
    unfold rgk at h
    split at h
    · exact ih _ _ _ _ h
    · split at h
      · have := ih _ _ _ _ h
        omega
      · cases h
theorem rgr_b {O : Nat → Int32} {L t : Nat} : ∀ u i v, rgr O L t u i = some v → i ≤ v.2 ∧ (i ≤ L → v.2 ≤ L) ∧ v.1.length = u := by
  intro u
  induction u with
  | zero =>
    intro i v h
    injection h with h
    subst h
    exact ⟨Nat.le_refl _, id, rfl⟩
  | succ u ih =>
    intro i v h
    unfold rgr at h
    split at h
    · cases h
    · rename_i w i1 h1
      split at h
      · cases h
      · rename_i l i2 h2
        injection h with h
        subst h
        have b1 := rgk_b _ _ _ _ _ h1
        have b2 := ih _ _ h2
        dsimp only at b1 b2 ⊢
        rw [List.length_cons]
        omega
/-! .. a group, by the class -/
def ocO (I : st_I) (a : Nat) : Nat → Int32 := fun k => I (a + 1) k &&& 255
def ngo (I : st_I) (a : Nat) (t : Int32) : Option (Int64 × Nat) := rgk (ocO I a) (I a 1).toNatClampNeg t.toNatClampNeg 8 0 (I 10 2).toNatClampNeg 0
def ngk (I : st_I) (a : Nat) (t : Int32) : Prop := (0 ≤ (I 10 2).toInt ∧ (I 10 2).toInt ≤ (I a 1).toInt ∧ (I a 1).toInt ≤ 1500) ∧ 0 ≤ t.toInt ∧ t.toInt < 256
theorem a_c1 (x : Int32) : x + 1 - 1 = x := a_sc x 1
theorem hc_Fr_nextGroup {X : pm_X} {d : Nat} {I : st_I} {J : st_J} {p1 : Nat} (g1 : st_isO p1 = true) {p2 : Int32} (r : pm_R) : ((ngk I p1 p2) ∧ (om (ngo I p1 p2) (fun v => r = (.inl (some (.long v.1)), st_h (st_w I 10 2 (Int32.ofNat v.2)) J, 0, 0)) (r = (.inr 2, st_h (st_w I 10 2 (I p1 1)) J, 1, 6)))) → Ex X (d + 3) 145 [.ref 10, .ref p1, .int p2] (st_h I J) r := by
  rintro ⟨⟨⟨k1, k2, k3⟩, kt⟩, h⟩
  obtain ⟨T, rfl, hT⟩ : ∃ T : Nat, p2 = Int32.ofNat T ∧ T < 256 := ⟨p2.toNatClampNeg, oi_of kt.1, by have := cln kt.1; omega⟩
  have hO := isO_n g1
  refine (e_Fr_nextGroup g1 r).mpr ?_
  unfold ngo at h
  rw [oi_n (i := T) (by omega)] at h
  have n1 := cln k1
  have n2 := cln (x := I p1 1) (by omega)
  have e1 := oi_of k1
  have e2 := oi_of (x := I p1 1) (by omega)
  generalize hL : (I p1 1).toNatClampNeg = L at *
  have key : ∀ m k, k + m = 8 → ∀ i w, i ≤ L → om (rgk (ocO I p1) L T m k i w) (fun v => r = (.inl (some (.long v.1)), st_h (st_w I 10 2 (Int32.ofNat v.2)) J, 0, 0)) (r = (.inr 2, st_h (st_w I 10 2 (I p1 1)) J, 1, 6)) → Gx X (d + 2) (kc_Fr_nextGroup, []) (5, [some (.ref 10), some (.ref p1), some (.int (Int32.ofNat T)), some (.long w), none, some (.int (Int32.ofNat k))], [], st_h (st_w I 10 2 (Int32.ofNat i)) J, 0, 0) r := by
    intro m
    induction m with
    | zero =>
      intro k hk i w hi hr
      obtain rfl : k = 8 := hk
      refine (b_Fr_nextGroup_5 g1 r).mpr ?_
      rw [if_neg (by decide)]
      exact hr
    | succ m ih =>
      intro k hk i w hi hr
      have hb := tg_bit ⟨k, by omega⟩ ⟨T, hT⟩
      refine (b_Fr_nextGroup_5 g1 r).mpr ?_
      rw [if_pos (show Int32.ofNat k < 8 by rw [show (8 : Int32) = Int32.ofNat 8 from rfl, oi_lt (by omega) (by omega)]; omega), oi_a k]
      unfold rgk at hr
      by_cases c : T / 2 ^ k % 2 = 0
      · rw [if_pos c] at hr
        rw [if_pos (hb.mpr c)]
        exact ih (k + 1) (by omega) i w hi hr
      · rw [if_neg c] at hr
        rw [if_neg (fun z => c (hb.mp z)), st_w_at, st_w_w, show (st_w I 10 2 (Int32.ofNat i)) p1 1 = I p1 1 by rw [st_w_e, if_neg (by omega)], a_c1, oi_n (i := i) (by omega), oi_a i, show (st_w I 10 2 (Int32.ofNat (i + 1))) (p1 + 1) i = I (p1 + 1) i by rw [st_w_e, if_neg (by omega)]]
        by_cases c2 : i < L
        · rw [if_pos c2] at hr
          rw [if_pos (by rw [e2, oi_lt (by omega) (by omega)]; exact c2)]
          exact ⟨oi_in (by omega) (by omega), ih (k + 1) (by omega) (i + 1) _ (by omega) hr⟩
        · rw [if_neg c2] at hr
          rw [if_neg (by rw [e2, oi_lt (by omega) (by omega)]; exact c2), show Int32.ofNat i = I p1 1 by rw [e2, show i = L by omega]]
          exact hr
  have z := key 8 0 rfl (I 10 2).toNatClampNeg 0 (by omega) h
  rw [← e1, show st_w I 10 2 (I 10 2) = I by
    funext a f
    rw [st_w_e]
    by_cases q : a = 10 ∧ f = 2
    · rw [if_pos q, q.1, q.2]
    · rw [if_neg q]] at z
  exact z
