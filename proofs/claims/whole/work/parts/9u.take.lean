/-! taking: the numbers in front -/
def upx (X : pm_X) (d : Nat) (I : st_I) (J : st_J) (a : Nat) (o : Option (st_I × st_J)) (Z : st_I × st_J) : Prop := ∀ r, om o (fun v => r = (.inl none, st_h v.1 v.2, 0, 0)) (r = (.inr 2, st_h Z.1 Z.2, 1, 6)) → Ex X (d + 4) 143 [.ref 10, .ref a] (st_h I J) r
theorem hc_Fr_unpack {X : pm_X} {d : Nat} {I : st_I} {J : st_J} {p1 : Nat} (g1 : st_isO p1 = true) {o : Option (st_I × st_J)} {Z : st_I × st_J} (r : pm_R) : ((upx X d I J p1 o Z) ∧ (om o (fun v => r = (.inl none, st_h v.1 v.2, 0, 0)) (r = (.inr 2, st_h Z.1 Z.2, 1, 6)))) → Ex X (d + 4) 143 [.ref 10, .ref p1] (st_h I J) r := fun h => h.1 r h.2
def hnj (G : Nat → Int64) (k : Nat) : Int64 := (ju (G (k / 2)) ((32 : Int32) * Int32.ofNat (k % 2))) &&& (4294967295 : Int64)
def hnm (G : Nat → Int64) (k : Nat) : Nat := wn (ju (G (k / 2)) ((32 : Int32) * Int32.ofNat (k % 2))) % 2 ^ 32
theorem hnj_i (G : Nat → Int64) (k : Nat) : (hnj G k).toInt = hnm G k := bn_j (bn_and64 (n := 32) 4294967295 rfl) (by unfold hnm wn; omega)
theorem hnm_lt (G : Nat → Int64) (k : Nat) : hnm G k < 2 ^ 32 := by unfold hnm; omega
def due (G : Nat → Int64) (m : Nat) : Nat → Nat
  | 0 => m / 2 + 1
  | s + 1 => due G m s + hnm G (s + 1)
abbrev tkok (G : Nat → Int64) (n : Nat) : Prop := n ≠ 0 ∧ hnm G 0 < 4 ∧ (hnm G 0 + 1) / 2 + 1 ≤ n ∧ (∀ s, s < hnm G 0 + 1 → hnm G (s + 1) ≤ 64) ∧ n = due G (hnm G 0 + 1) (hnm G 0 + 1)
theorem oi_h {k : Nat} (h : k < 2 ^ 20) : Int32.ofNat k / (2 : Int32) = Int32.ofNat (k / 2) ∧ irm (Int32.ofNat k) (2 : Int32) = Int32.ofNat (k % 2) := by
  constructor
  · refine eq_of ?_
    rw [id_ (by rw [oi_i (by omega)]; omega) (by decide), oi_i (by omega), show (2 : Int32).toInt = 2 from rfl]
    omega
  · refine eq_of ?_
    rw [irm_ (by rw [oi_i (by omega)]; omega) (by decide), oi_i (by omega), show (2 : Int32).toInt = 2 from rfl]
    omega
theorem hnj_e (G : Nat → Int64) {k : Nat} (h : k < 2 ^ 20) : (ju (G (Int32.toNatClampNeg (Int32.ofNat k / (2 : Int32)))) ((32 : Int32) * (irm (Int32.ofNat k) (2 : Int32)))) &&& (4294967295 : Int64) = hnj G k := by
  rw [(oi_h h).1, (oi_h h).2, oi_n (by omega)]
  rfl
theorem hnj_0 (G : Nat → Int64) : (ju (G (Int32.toNatClampNeg ((0 : Int32) / (2 : Int32)))) ((32 : Int32) * (irm (0 : Int32) (2 : Int32)))) &&& (4294967295 : Int64) = hnj G 0 := hnj_e G (k := 0) (by omega)
theorem hnj_t {G : Nat → Int64} {k : Nat} (h : hnm G k < 2 ^ 31) : Int64.toInt32 (hnj G k) = Int32.ofNat (hnm G k) := eq_of (ti2 (hnj_i G k) (by omega) (by omega))
theorem due_le {G : Nat → Int64} {m : Nat} : ∀ s, (∀ x, x < s → hnm G (x + 1) ≤ 64) → due G m s ≤ m / 2 + 1 + 64 * s := by
  intro s
  induction s with
  | zero => intro _; exact Nat.le_refl _
  | succ s ih =>
    intro h
    have h1 := ih (fun x hx => h x (by omega))
    have h2 := h s (by omega)
    show due G m s + hnm G (s + 1) ≤ _
    omega
def ckk (I : st_I) : Prop := 0 ≤ (I 10 1).toInt ∧ (I 10 1).toInt ≤ 259
theorem hc_Fr_check {X : pm_X} {d : Nat} {I : st_I} {J : st_J} (r : pm_R) : ((ckk I) ∧ (if (tkok (J 11) (Int32.toNatClampNeg (I 10 1))) then r = (.inl none, st_h I J, 0, 0) else r = (.inr 2, st_h I J, 1, 6))) → Ex X (d + 2) 147 [.ref 10] (st_h I J) r := by
  rintro ⟨hk, h⟩
  have hn := cln hk.1
  have en := oi_of hk.1
  unfold ckk at hk
  generalize (I 10 1).toNatClampNeg = n at *
  refine (e_Fr_check r).mpr ?_
  rw [en, hnj_0]
  have h32 := hnm_lt (J 11) 0
  have n0 : (Int32.ofNat n = (0 : Int32)) ↔ n = 0 := oi_eq (b := 0) (by omega) (by omega)
  by_cases c0 : n = 0
  · rw [if_pos (n0.mpr c0)]
    rw [if_neg (fun z => z.1 c0)] at h
    exact h
  · rw [if_neg (fun z => c0 (n0.mp z))]
    refine ⟨by decide, ?_⟩
    have l4 : (hnj (J 11) 0 < (4 : Int64)) ↔ hnm (J 11) 0 < 4 := by rw [i64_lt, hnj_i, show (4 : Int64).toInt = 4 from rfl]; omega
    by_cases c4 : hnm (J 11) 0 < 4
    · rw [if_pos (l4.mpr c4), hnj_t (by omega), oi_a]
      obtain ⟨m, hm⟩ : ∃ m, m = hnm (J 11) 0 + 1 := ⟨_, rfl⟩
      rw [← hm]
      rw [(oi_h (k := m) (by omega)).1, oi_a]
      have dl : (Int32.ofNat n < Int32.ofNat (m / 2 + 1)) ↔ n < m / 2 + 1 := oi_lt (by omega) (by omega)
      by_cases cd : n < m / 2 + 1
      · rw [if_pos (dl.mpr cd)]
        rw [if_neg (fun z => by have := z.2.2.1; rw [← hm] at this; omega)] at h
        exact h
      · rw [if_neg (fun z => cd (dl.mp z))]
        have key : ∀ t s, s + t = m → (∀ x, x < s → hnm (J 11) (x + 1) ≤ 64) → Gx X (d + 1) (kc_Fr_check, []) (59, [some (.ref 10), some (.int (Int32.ofNat m)), some (.int (Int32.ofNat (due (J 11) m s))), some (.int (Int32.ofNat s))], [], st_h I J, 0, 0) r := by
          intro t
          induction t with
          | zero =>
            intro s hs ha
            obtain rfl : s = m := hs
            have hd := due_le (m := s) s ha
            refine (b_Fr_check_59 r).mpr ?_
            rw [if_neg (by rw [oi_lt (by omega) (by omega)]; omega), en]
            have ee : (Int32.ofNat n = Int32.ofNat (due (J 11) s s)) ↔ n = due (J 11) s s := oi_eq (by omega) (by omega)
            by_cases ce : n = due (J 11) s s
            · rw [if_pos (ee.mpr ce)]
              rw [if_pos ⟨c0, c4, by rw [← hm]; omega, by rw [← hm]; exact ha, by rw [← hm]; exact ce⟩] at h
              exact h
            · rw [if_neg (fun z => ce (ee.mp z))]
              rw [if_neg (fun z => ce (by have := z.2.2.2.2; rw [← hm] at this; exact this))] at h
              exact h
          | succ t ih =>
            intro s hs ha
            have hd := due_le (m := m) s ha
            refine (b_Fr_check_59 r).mpr ?_
            rw [if_pos (by rw [oi_lt (by omega) (by omega)]; omega), oi_a, hnj_e _ (by omega), (oi_h (k := s + 1) (by omega)).1]
            refine ⟨oi_in (by omega) (by omega), ?_⟩
            have l64 : ((64 : Int64) < hnj (J 11) (s + 1)) ↔ 64 < hnm (J 11) (s + 1) := by rw [i64_lt, hnj_i, show (64 : Int64).toInt = 64 from rfl]; omega
            by_cases cl : 64 < hnm (J 11) (s + 1)
            · rw [if_pos (l64.mpr cl)]
              rw [if_neg (fun z => by have := z.2.2.2.1 s (by omega); omega)] at h
              exact h
            · rw [if_neg (fun z => cl (l64.mp z)), hnj_t (by omega), oi_p]
              exact ih (s + 1) (by omega) (fun x hx => by
                by_cases q : x = s
                · rw [q]; omega
                · exact ha x (by omega))
        exact key m 0 (by omega) (fun x hx => absurd hx (Nat.not_lt_zero x))
    · rw [if_neg (fun z => c4 (l4.mp z))]
      rw [if_neg (fun z => c4 z.2.1)] at h
      exact h
