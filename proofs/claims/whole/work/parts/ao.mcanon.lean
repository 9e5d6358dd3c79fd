/-! canonical: the reference's end -/
section MCE
variable {X : pm_X} {d : Nat}
theorem mc_252 {I : st_I} {n : Nat} (hn : n ≤ 64) {u3 : Option Value} {J0 : st_J} {F : Nat → Int64} (hF : ∀ k, k < 64 → J0 168 k = F k) : ∀ m k, k + m = n → ∀ J : st_J, (∀ a, a ≠ 167 → J a = J0 a) → (∀ s i, s < 4 → i < 64 → J 167 (64 * s + i) = if s = 0 ∧ i < k then F i else 0) → ∃ L, (∀ a, a ≠ 167 → L a = J0 a) ∧ (∀ s i, s < 4 → i < 64 → L 167 (64 * s + i) = if s = 0 ∧ i < n then F i else 0) ∧ Gx X (d + 4) (kc_M_canonical, []) (252, [some (.ref 166), some (.int (Int32.ofNat n)), some (.int (Int32.ofNat k)), u3], [], st_h I J, 0, 0) (.inl (some (.int (Int32.ofNat n))), st_h (st_mz (st_w (st_w I 166 6 (1 : Int32)) 166 11 (0 : Int32)) 17) L, 0, 0) := by
  intro m
  induction m with
  | zero =>
    intro k hk J h1 h2
    obtain rfl : k = n := hk
    exact ⟨J, h1, h2, ib_M_canonical_252 _ (ifn (by rw [oi_lt (by omega) (by omega)]; omega) rfl)⟩
  | succ m ih =>
    intro k hk J h1 h2
    obtain ⟨L, g1, g2, g3⟩ := ih (k + 1) (by omega) (st_y J 167 k (J 168 k)) (fun a ha => by rw [st_y_o _ _ _ ha, h1 a ha]) (fun s i hs hi => by
      rw [st_y_e]
      by_cases c : s = 0 ∧ i = k
      · rw [if_pos (by omega), if_pos (by omega), h1 168 (by omega), hF k (by omega), c.2]
      · rw [if_neg (by omega), h2 s i hs hi]
        by_cases c2 : s = 0 ∧ i < k
        · rw [if_pos c2, if_pos (by omega)]
        · rw [if_neg c2, if_neg (by omega)])
    refine ⟨L, g1, g2, ib_M_canonical_252 _ (ifp (by rw [oi_lt (by omega) (by omega)]; omega) ?_)⟩
    rw [oi_n (by omega), oi_a]
    exact ⟨oi_in (by omega) (by omega), oi_in (by omega) (by omega), g3⟩
theorem mc_end {I : st_I} {J : st_J} {n : Nat} (hn : n ≤ 64) {u2 u3 : Option Value} {F : Nat → Int64} (hF : ∀ k, k < 64 → J 168 k = F k) (hS : PS I []) (h10 : I 166 10 = 0) : ∃ L, (∀ a, a ≠ 167 → L a = J a) ∧ (∀ s i, s < 4 → i < 64 → L 167 (64 * s + i) = if s = 0 ∧ i < n then F i else 0) ∧ Gx X (d + 4) (kc_M_canonical, []) (66, [some (.ref 166), some (.int (Int32.ofNat n)), u2, u3], [], st_h I J, 0, 0) (.inl (some (.int (Int32.ofNat n))), st_h (st_mz (st_w (st_w (st_w (st_w (st_w (st_w I 170 1 0) 170 2 0) 170 3 0) 170 0 (Int32.ofNat n)) 166 6 (1 : Int32)) 166 11 (0 : Int32)) 17) L, 0, 0) := by
  have e26 : I 166 26 = 0 := hS.1
  have lz : ∀ (K : st_J) (s s' i : Nat), s < 4 → s' < 4 → i < 64 → (st_lz K s 64) 167 (64 * s' + i) = if s' = s then 0 else K 167 (64 * s' + i) := fun K s s' i h1 h2 h3 => by
    unfold st_lz
    by_cases c : s' = s
    · rw [if_pos (by omega), if_pos c]
    · rw [if_neg (by omega), if_neg c]
  have lo : ∀ (K : st_J) (s a : Nat), a ≠ 167 → (st_lz K s 64) a = K a := fun K s a h => by
    funext k
    unfold st_lz
    rw [if_neg (fun z => h z.1)]
  obtain ⟨J4, hJ4⟩ : ∃ J4, J4 = st_lz (st_lz (st_lz (st_lz J 1 64) 2 64) 3 64) 0 64 := ⟨_, rfl⟩
  obtain ⟨L, g1, g2, g3⟩ := mc_252 (X := X) (d := d) (I := st_w (st_w (st_w (st_w I 170 1 0) 170 2 0) 170 3 0) 170 0 (Int32.ofNat n)) hn (u3 := u3) (J0 := J) hF n 0 (by omega) J4 (fun a ha => by rw [hJ4, lo _ _ _ ha, lo _ _ _ ha, lo _ _ _ ha, lo _ _ _ ha]) (fun s i hs hi => by
    rw [if_neg (by omega), hJ4, lz _ _ _ _ (by omega) hs hi, lz _ _ _ _ (by omega) hs hi, lz _ _ _ _ (by omega) hs hi, lz _ _ _ _ (by omega) hs hi]
    obtain rfl | rfl | rfl | rfl : s = 0 ∨ s = 1 ∨ s = 2 ∨ s = 3 := by omega
    all_goals rfl)
  refine ⟨L, g1, g2, ib_M_canonical_66 (K := I) (b := 0) (K29 := I) (b29 := 0) (L29 := J) (K50 := I) (b50 := 0) (L50 := J) (K53 := I) (b53 := 0) (L53 := J) _ (ifn (by rw [e26]; decide) (ifp h10 ?_))⟩
  refine ib_M_canonical_227 _ (ifp (by decide) ⟨by decide, ?_⟩)
  refine ib_M_canonical_227 _ (ifp (by decide) ⟨by decide, ?_⟩)
  refine ib_M_canonical_227 _ (ifp (by decide) ⟨by decide, ?_⟩)
  refine ib_M_canonical_227 _ (ifn (by decide) ?_)
  rw [hJ4] at g3
  exact g3
theorem mc_31 {I : st_I} {u2 u3 : Option Value} {J0 : st_J} : ∀ m k, k + m = 64 → ∀ J : st_J, (∀ a, a ≠ 168 → J a = J0 a) → (∀ i, i < k → J 168 i = 0) → ∃ L, (∀ a, a ≠ 168 → L a = J0 a) ∧ (∀ i, i < 64 → L 168 i = 0) ∧ ∀ r, Gx X (d + 4) (kc_M_canonical, []) (66, [some (.ref 166), some (.int (1 : Int32)), u2, u3], [], st_h (st_w (st_w (st_w (st_w (st_w (st_w I 166 26 (0 : Int32)) 183 0 (0 : Int32)) 184 0 (0 : Int32)) 185 0 (0 : Int32)) 186 0 (64 : Int32)) 166 26 ((0 : Int32) + (1 : Int32))) L, 0, 0) r → Gx X (d + 4) (kc_M_canonical, []) (31, [some (.ref 166), some (.int (Int32.ofNat k)), u2, u3], [], st_h I J, 0, 0) r := by
  intro m
  induction m with
  | zero =>
    intro k hk J h1 h2
    obtain rfl : k = 64 := hk
    exact ⟨J, h1, h2, fun r hr => ib_M_canonical_31 _ (ifn (by decide) hr)⟩
  | succ m ih =>
    intro k hk J h1 h2
    obtain ⟨L, g1, g2, g3⟩ := ih (k + 1) (by omega) (st_y J 168 k 0) (fun a ha => by rw [st_y_o _ _ _ ha, h1 a ha]) (fun i hi => by
      rw [st_y_e]
      by_cases c : i = k
      · rw [if_pos ⟨rfl, c⟩]
      · rw [if_neg (fun z => c z.2)]
        exact h2 i (by omega))
    refine ⟨L, g1, g2, fun r hr => ib_M_canonical_31 _ (ifp (by rw [show (64 : Int32) = Int32.ofNat 64 from rfl, oi_lt (by omega) (by omega)]; omega) ?_)⟩
    rw [oi_n (by omega), oi_a]
    exact ⟨oi_in (by omega) (by omega), g3 r hr⟩
set_option maxRecDepth 20000 in
/-- all of the reference's work, as the meaning has it -/
theorem mc_ex {W : Nat → Nat → Int64} {U : Nat → Nat} {S A : Nat} {F0 : Nat → Int64} {I : st_I} {J : st_J} (hM : MR W U S I J) (hA : I 166 8 = Int32.ofNat A ∧ A ≤ 100000) (hF : ∀ k, k < 64 → F0 k = 0) (hU : ¬ (I 170 0 = 0)) :
  (∀ g, cpy W U S 64 0 0 0 (A, 1, F0) = .inl g → ∃ I' L, (∀ a f, ¬ (173 ≤ a ∧ a ≤ 182 ∧ f = 16) → ¬ (183 ≤ a ∧ a ≤ 186) → ¬ (a = 166 ∧ (f = 8 ∨ f = 10 ∨ f = 26)) → I' a f = I a f) ∧ I' 166 10 = 0 ∧ I' 166 8 = Int32.ofNat g.1 ∧ g.1 ≤ 100000 ∧ g.2.1 ≤ 64 ∧ (∀ a, a ≠ 167 → a ≠ 168 → L a = J a) ∧ (∀ s i, s < 4 → i < 64 → L 167 (64 * s + i) = if s = 0 ∧ i < g.2.1 then g.2.2 i else 0) ∧ Ex X (d + 5) 231 [.ref 166] (st_h I J) (.inl (some (.int (Int32.ofNat g.2.1))), st_h (st_mz (st_w (st_w (st_w (st_w (st_w (st_w I' 170 1 0) 170 2 0) 170 3 0) 170 0 (Int32.ofNat g.2.1)) 166 6 (1 : Int32)) 166 11 (0 : Int32)) 17) L, 0, 0)) ∧
  (∀ x, cpy W U S 64 0 0 0 (A, 1, F0) = .inr x → ∃ I' L, RF I I' J L ∧ (I' 166 8 = Int32.ofNat x.2 ∧ x.2 ≤ 100000) ∧ ((x.1 = 2 ∧ I' 166 10 = 1) ∨ (x.1 = 3 ∧ I' 166 10 = 2)) ∧ Ex X (d + 5) 231 [.ref 166] (st_h I J) (.inl (some (.int 0)), st_h I' L, 0, 0)) := by
  obtain ⟨L0, l1, l2, l3⟩ := mc_31 (X := X) (d := d) (I := st_w I 166 10 0) (u2 := none) (u3 := none) (J0 := J) 64 0 rfl J (fun _ _ => rfl) (fun i hi => absurd hi (Nat.not_lt_zero i))
  obtain ⟨I1, hI1⟩ : ∃ I1, I1 = st_w (st_w (st_w (st_w (st_w (st_w (st_w I 166 10 0) 166 26 (0 : Int32)) 183 0 (0 : Int32)) 184 0 (0 : Int32)) 185 0 (0 : Int32)) 186 0 (64 : Int32)) 166 26 ((0 : Int32) + (1 : Int32)) := ⟨_, rfl⟩
  rw [← hI1] at l3
  have I1o : ∀ a f, ¬ (183 ≤ a ∧ a ≤ 186) → ¬ (a = 166 ∧ (f = 10 ∨ f = 26)) → I1 a f = I a f := fun a f h1 h2 => by
    rw [hI1, st_w_e, if_neg (by omega), st_w_e, if_neg (by omega), st_w_e, if_neg (by omega), st_w_e, if_neg (by omega), st_w_e, if_neg (by omega), st_w_e, if_neg (by omega), st_w_e, if_neg (by omega)]
  have I110 : I1 166 10 = 0 := by
    rw [hI1, st_w_e, if_neg (by omega), st_w_e, if_neg (by omega), st_w_e, if_neg (by omega), st_w_e, if_neg (by omega), st_w_e, if_neg (by omega), st_w_e, if_neg (by omega), st_w_at]
  have fI : RF I I1 J L0 := ⟨fun a f h1 h2 h3 => I1o a f h2 (by omega), l1⟩
  have hS : PS I1 ([] ++ [(0, 0, 0, 64)]) := by
    refine ⟨by rw [hI1, st_w_at]; rfl, fun i hi => ?_⟩
    have hi' : i < 1 := hi
    obtain rfl : i = 0 := by omega
    refine ⟨?_, ?_, ?_, ?_⟩
    · rw [hI1, st_w_e, if_neg (by omega), st_w_e, if_neg (by omega), st_w_e, if_neg (by omega), st_w_e, if_neg (by omega), st_w_at]; rfl
    · rw [hI1, st_w_e, if_neg (by omega), st_w_e, if_neg (by omega), st_w_e, if_neg (by omega), st_w_at]; rfl
    · rw [hI1, st_w_e, if_neg (by omega), st_w_e, if_neg (by omega), st_w_at]; rfl
    · rw [hI1, st_w_e, if_neg (by omega), st_w_at]; rfl
  have run := rc (X := X) (W := W) (U := U) (S := S) (d := d) 64 (Nat.le_refl 64) [] 0 0 0 I1 L0 (A, 1, F0) none none (by omega) (by omega) (by omega) (by show 0 + 1 ≤ 1; omega) (MR_f hM fI) ⟨⟨by rw [I1o 166 8 (by omega) (by omega)]; exact hA.1, hA.2⟩, by show 1 ≤ 64; omega, fun k hk => by rw [l2 k hk]; exact (hF k hk).symm⟩ hS I110
  have start : ∀ r, Gx X (d + 4) (kc_M_canonical, []) (66, [some (.ref 166), some (.int (Int32.ofNat 1)), none, none], [], st_h I1 L0, 0, 0) r → Ex X (d + 5) 231 [.ref 166] (st_h I J) r := fun r hr => ie_M_canonical _ (ifn hU (l3 r hr))
  refine ⟨fun g hg => ?_, fun x hx => ?_⟩
  · rw [hg] at run
    obtain ⟨I2, J2, w2, w3, f1, f2, f3, f4, f5⟩ := run
    obtain ⟨L, e1, e2, e3⟩ := mc_end (X := X) (d := d) (I := I2) (J := J2) (n := g.2.1) f2.2.1 (u2 := w2) (u3 := w3) f2.2.2 f3 f4
    have f6 := RF_t fI f1
    exact ⟨I2, L, f6.1, f4, f2.1.1, f2.1.2, f2.2.1, fun a h1 h2 => by rw [e1 a h1, f6.2 a h2], e2, start _ (f5 _ e3)⟩
  · rw [hx] at run
    obtain ⟨I2, J2, f1, f2, f3, f4⟩ := run
    exact ⟨I2, J2, RF_t fI f1, f2, f3, start _ f4⟩
end MCE
