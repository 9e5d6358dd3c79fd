/-! unpacking, by the reference -/
set_option maxRecDepth 100000 in
theorem tg_bit1 : ∀ (i : Fin 8) (t : Fin 256), (¬ (((ir (Int32.ofNat t.1) (Int32.ofNat i.1)) &&& (1 : Int32)) = (1 : Int32))) ↔ t.1 / 2 ^ i.1 % 2 = 0 := by decide +kernel
def gw (J : st_J) (n : Nat) (w : Int64) : st_J := if n < 300 then st_y J 169 n w else J
def QM (J0 J : st_J) (A : List Int64) : Prop := (∀ a, a ≠ 169 → J a = J0 a) ∧ ∀ k, k < A.length → k < 300 → J 169 k = A.getD k 0
theorem QM_s {J0 J : st_J} {A : List Int64} (w : Int64) (h : QM J0 J A) : QM J0 (gw J A.length w) (A ++ [w]) := by
  unfold gw
  have hl : (A ++ [w]).length = A.length + 1 := by rw [List.length_append]; rfl
  by_cases c : A.length < 300
  · rw [if_pos c]
    refine ⟨fun a ha => by rw [st_y_o _ _ _ ha, h.1 a ha], fun k hk hk3 => ?_⟩
    rw [hl] at hk
    rw [st_y_e, gd_app8]
    by_cases q : k = A.length
    · rw [if_pos ⟨rfl, q⟩, if_neg (by omega), q, Nat.sub_self]
      rfl
    · rw [if_neg (fun z => q z.2), if_pos (by omega)]
      exact h.2 k (by omega) hk3
  · rw [if_neg c]
    refine ⟨h.1, fun k hk hk3 => ?_⟩
    rw [gd_app8, if_pos (by omega)]
    exact h.2 k (by omega) hk3
theorem b255 : ∀ k : Fin 8, ¬ (255 / 2 ^ k.1 % 2 = 0) := by decide
theorem rgk_0 {O : Nat → Int32} {L : Nat} : ∀ m k i w, rgk O L 0 m k i w = some (w, i) := by
  intro m
  induction m with
  | zero => intro k i w; rfl
  | succ m ih =>
    intro k i w
    unfold rgk
    rw [if_pos (by rw [Nat.zero_div]), ih]
theorem rgk_f {O : Nat → Int32} {L : Nat} : ∀ m k i w, k + m = 8 → (i + m ≤ L → ∃ w', rgk O L 255 m k i w = some (w', i + m)) ∧ (¬ i + m ≤ L → i ≤ L → rgk O L 255 m k i w = none) := by
  intro m
  induction m with
  | zero =>
    intro k i w hk
    exact ⟨fun _ => ⟨w, rfl⟩, fun h h2 => absurd h2 h⟩
  | succ m ih =>
    intro k i w hk
    have hb := b255 ⟨k, by omega⟩
    unfold rgk
    rw [if_neg hb]
    refine ⟨fun h => ?_, fun h h2 => ?_⟩
    · rw [if_pos (show i < L by omega)]
      obtain ⟨w', e⟩ := (ih (k + 1) (i + 1) _ (by omega)).1 (show i + 1 + m ≤ L by omega)
      exact ⟨w', by rw [e, show i + 1 + m = i + (m + 1) by omega]⟩
    · by_cases c : i < L
      · rw [if_pos c]
        exact (ih (k + 1) (i + 1) _ (by omega)).2 (by omega) (by omega)
      · rw [if_neg c]
theorem rgr_f {O : Nat → Int32} {L : Nat} : ∀ u i, i ≤ L → (i + 8 * u ≤ L → ∃ l, rgr O L 255 u i = some (l, i + 8 * u)) ∧ (¬ i + 8 * u ≤ L → rgr O L 255 u i = none) := by
  intro u
  induction u with
  | zero =>
    intro i hi
    exact ⟨fun _ => ⟨[], rfl⟩, fun h => absurd hi h⟩
  | succ u ih =>
    intro i hi
    have h8 := rgk_f (O := O) (L := L) 8 0 i 0 rfl
    refine ⟨fun h => ?_, fun h => ?_⟩
    · obtain ⟨w, e⟩ := h8.1 (by omega)
      obtain ⟨l, e2⟩ := (ih (i + 8) (by omega)).1 (by omega)
      unfold rgr
      rw [e]; dsimp only; rw [e2]
      exact ⟨w :: l, by dsimp only; rw [show i + 8 + 8 * u = i + 8 * (u + 1) by omega]⟩
    · by_cases c : i + 8 ≤ L
      · obtain ⟨w, e⟩ := h8.1 c
        unfold rgr
        rw [e]; dsimp only; rw [(ih (i + 8) c).2 (by omega)]
      · unfold rgr
        rw [h8.2 c hi]
section MUN
variable {X : pm_X} {d : Nat} {I : st_I} {L : Nat} {J0 : st_J} {O : Nat → Int32}
theorem mu_28 (eL : I 166 7 = Int32.ofNat L) (hL : L ≤ 1500) (hO : ∀ k, k < L → I 171 k = O k) {J : st_J} {n T : Nat} (hT : T < 256) {u7 u8 : Option Value} : ∀ m k, k + m = 8 → ∀ i w, i ≤ L →
  (∀ v, rgk O L T m k i w = some v → ∀ r, Gx X (d + 1) (kc_M_unpacked, []) (28, [some (.ref 166), some (.int (Int32.ofNat n)), some (.int (Int32.ofNat v.2)), some (.int (Int32.ofNat T)), some (.long v.1), none, some (.int (Int32.ofNat 8)), u7, u8], [], st_h I J, 0, 0) r → Gx X (d + 1) (kc_M_unpacked, []) (28, [some (.ref 166), some (.int (Int32.ofNat n)), some (.int (Int32.ofNat i)), some (.int (Int32.ofNat T)), some (.long w), none, some (.int (Int32.ofNat k)), u7, u8], [], st_h I J, 0, 0) r) ∧
  (rgk O L T m k i w = none → Gx X (d + 1) (kc_M_unpacked, []) (28, [some (.ref 166), some (.int (Int32.ofNat n)), some (.int (Int32.ofNat i)), some (.int (Int32.ofNat T)), some (.long w), none, some (.int (Int32.ofNat k)), u7, u8], [], st_h I J, 0, 0) (.inl (some (.int (-1))), st_h I J, 0, 0)) := by
  intro m
  induction m with
  | zero =>
    intro k hk i w hi
    obtain rfl : k = 8 := hk
    refine ⟨fun v hv r hr => ?_, fun h => by cases h⟩
    injection hv with hv
    subst hv
    exact hr
  | succ m ih =>
    intro k hk i w hi
    have hb := tg_bit1 ⟨k, by omega⟩ ⟨T, hT⟩
    have k8 : Int32.ofNat k < (8 : Int32) := by rw [show (8 : Int32) = Int32.ofNat 8 from rfl, oi_lt (by omega) (by omega)]; omega
    unfold rgk
    by_cases c : T / 2 ^ k % 2 = 0
    · rw [if_pos c]
      have z := ih (k + 1) (by omega) i w hi
      refine ⟨fun v hv r hr => (b_M_unpacked_28 r).mpr (ifp k8 (ifn (hb.mpr c) ?_)), fun h => (b_M_unpacked_28 _).mpr (ifp k8 (ifn (hb.mpr c) ?_))⟩
      · rw [oi_a]; exact z.1 v hv r hr
      · rw [oi_a]; exact z.2 h
    · have hb' : ((ir (Int32.ofNat T) (Int32.ofNat k)) &&& (1 : Int32)) = (1 : Int32) := Decidable.byContradiction fun q => c (hb.mp q)
      rw [if_neg c]
      by_cases c2 : i < L
      · rw [if_pos c2]
        have z := ih (k + 1) (by omega) (i + 1) (w ||| jl (Int32.toInt64 (O i)) ((8 : Int32) * Int32.ofNat k)) (by omega)
        rw [← hO i c2] at z ⊢
        have il : Int32.ofNat i < I 166 7 := by rw [eL, oi_lt (by omega) (by omega)]; exact c2
        refine ⟨fun v hv r hr => (b_M_unpacked_28 r).mpr (ifp k8 (ifp hb' (ifp il ⟨oi_in (by omega) (by omega), ?_⟩))), fun h => (b_M_unpacked_28 _).mpr (ifp k8 (ifp hb' (ifp il ⟨oi_in (by omega) (by omega), ?_⟩)))⟩
        · rw [oi_a, oi_a, oi_n (by omega)]; exact z.1 v hv r hr
        · rw [oi_a, oi_a, oi_n (by omega)]; exact z.2 h
      · rw [if_neg c2]
        have il : ¬ Int32.ofNat i < I 166 7 := by rw [eL, oi_lt (by omega) (by omega)]; exact c2
        exact ⟨fun v hv => (by cases hv), fun _ => (b_M_unpacked_28 _).mpr (ifp k8 (ifp hb' (ifn il rfl)))⟩
/-- a group stands whole: what comes behind it -/
theorem mu_row (eL : I 166 7 = Int32.ofNat L) (hL : L ≤ 1500) {J : st_J} {n T i : Nat} (hn : n < 2 ^ 30) (hT : T < 256) (hi : i ≤ L) {w : Int64} {u7 u8 : Option Value} (r : pm_R) (h : if T = 0 ∨ T = 255 then (if i < L then (if T = 255 ∧ I 166 7 < Int32.ofNat (i + 1) + (8 : Int32) * I 171 i then r = (.inl (some (.int (-1))), st_h I (gw J n w), 0, 0) else Gx X (d + 1) (kc_M_unpacked, []) (151, [some (.ref 166), some (.int (Int32.ofNat (n + 1))), some (.int (Int32.ofNat (i + 1))), some (.int (Int32.ofNat T)), some (.long w), none, some (.int (I 171 i)), some (.int 0), u8], [], st_h I (gw J n w), 0, 0) r) else r = (.inl (some (.int (-1))), st_h I (gw J n w), 0, 0)) else Gx X (d + 1) (kc_M_unpacked, []) (4, [some (.ref 166), some (.int (Int32.ofNat (n + 1))), some (.int (Int32.ofNat i)), some (.int (Int32.ofNat T)), some (.long w), none, some (.int (Int32.ofNat 8)), u7, u8], [], st_h I (gw J n w), 0, 0) r) : Gx X (d + 1) (kc_M_unpacked, []) (28, [some (.ref 166), some (.int (Int32.ofNat n)), some (.int (Int32.ofNat i)), some (.int (Int32.ofNat T)), some (.long w), none, some (.int (Int32.ofNat 8)), u7, u8], [], st_h I J, 0, 0) r := by
  have n3 : Int32.ofNat n < (300 : Int32) ↔ n < 300 := by rw [show (300 : Int32) = Int32.ofNat 300 from rfl, oi_lt (by omega) (by omega)]
  have t0 : (Int32.ofNat T = (0 : Int32)) ↔ T = 0 := oi_eq (b := 0) (by omega) (by omega)
  have t1 : (Int32.ofNat T = (255 : Int32)) ↔ T = 255 := oi_eq (b := 255) (by omega) (by omega)
  have il : (Int32.ofNat i < I 166 7) ↔ i < L := by rw [eL, oi_lt (by omega) (by omega)]
  refine (b_M_unpacked_28 r).mpr (ifn (by decide) ?_)
  rw [oi_a, oi_a, oi_n (i := i) (by omega)]
  have inner : ∀ J' : st_J, J' = gw J n w → (if Int32.ofNat T = (0 : Int32) then (if Int32.ofNat i < I 166 7 then ((pm_in (Int32.ofNat i) 1500) = true ∧ (if Int32.ofNat T = (255 : Int32) then (if I 166 7 < Int32.ofNat (i + 1) + (8 : Int32) * I 171 i then r = (.inl (some (.int (-1))), st_h I J', 0, 0) else Gx X (d + 1) (kc_M_unpacked, []) (151, [some (.ref 166), some (.int (Int32.ofNat (n + 1))), some (.int (Int32.ofNat (i + 1))), some (.int (Int32.ofNat T)), some (.long w), none, some (.int (I 171 i)), some (.int 0), u8], [], st_h I J', 0, 0) r) else Gx X (d + 1) (kc_M_unpacked, []) (151, [some (.ref 166), some (.int (Int32.ofNat (n + 1))), some (.int (Int32.ofNat (i + 1))), some (.int (Int32.ofNat T)), some (.long w), none, some (.int (I 171 i)), some (.int 0), u8], [], st_h I J', 0, 0) r)) else r = (.inl (some (.int (-1))), st_h I J', 0, 0)) else (if Int32.ofNat T = (255 : Int32) then (if Int32.ofNat i < I 166 7 then ((pm_in (Int32.ofNat i) 1500) = true ∧ (if I 166 7 < Int32.ofNat (i + 1) + (8 : Int32) * I 171 i then r = (.inl (some (.int (-1))), st_h I J', 0, 0) else Gx X (d + 1) (kc_M_unpacked, []) (151, [some (.ref 166), some (.int (Int32.ofNat (n + 1))), some (.int (Int32.ofNat (i + 1))), some (.int (Int32.ofNat T)), some (.long w), none, some (.int (I 171 i)), some (.int 0), u8], [], st_h I J', 0, 0) r)) else r = (.inl (some (.int (-1))), st_h I J', 0, 0)) else Gx X (d + 1) (kc_M_unpacked, []) (4, [some (.ref 166), some (.int (Int32.ofNat (n + 1))), some (.int (Int32.ofNat i)), some (.int (Int32.ofNat T)), some (.long w), none, some (.int (Int32.ofNat 8)), u7, u8], [], st_h I J', 0, 0) r)) := fun J' e => by
    subst e
    by_cases z0 : T = 0
    · rw [if_pos (Or.inl z0)] at h
      refine ifp (t0.mpr z0) ?_
      by_cases z1 : i < L
      · rw [if_pos z1, if_neg (fun q => by have := q.1; omega)] at h
        exact ifp (il.mpr z1) ⟨oi_in (by omega) (by omega), ifn (fun q => by have := t1.mp q; omega) h⟩
      · rw [if_neg z1] at h
        exact ifn (fun q => z1 (il.mp q)) h
    · refine ifn (fun q => z0 (t0.mp q)) ?_
      by_cases z2 : T = 255
      · rw [if_pos (Or.inr z2)] at h
        refine ifp (t1.mpr z2) ?_
        by_cases z1 : i < L
        · rw [if_pos z1] at h
          refine ifp (il.mpr z1) ⟨oi_in (by omega) (by omega), ?_⟩
          by_cases z3 : I 166 7 < Int32.ofNat (i + 1) + (8 : Int32) * I 171 i
          · rw [if_pos ⟨z2, z3⟩] at h
            exact ifp z3 h
          · rw [if_neg (fun q => z3 q.2)] at h
            exact ifn z3 h
        · rw [if_neg z1] at h
          exact ifn (fun q => z1 (il.mp q)) h
      · rw [if_neg (fun q => q.elim z0 z2)] at h
        exact ifn (fun q => z2 (t1.mp q)) h
  by_cases c3 : n < 300
  · refine ifp (n3.mpr c3) ⟨oi_in (by omega) (by omega), ?_⟩
    rw [oi_n (i := n) (by omega)]
    exact inner _ (by unfold gw; rw [if_pos c3])
  · exact ifn (fun q => c3 (n3.mp q)) (inner _ (by unfold gw; rw [if_neg c3]))
theorem mu_164 (eL : I 166 7 = Int32.ofNat L) (hL : L ≤ 1500) (hO : ∀ k, k < L → I 171 k = O k) {J : st_J} {n i u j : Nat} (hj : i + 8 * j + 8 ≤ L) : ∀ m k, k + m = 8 → ∀ w w', rgk O L 255 m k (i + 8 * j + k) w = some (w', i + 8 * j + 8) → ∀ r, Gx X (d + 1) (kc_M_unpacked, []) (164, [some (.ref 166), some (.int (Int32.ofNat n)), some (.int (Int32.ofNat i)), some (.int (Int32.ofNat 255)), some (.long w'), none, some (.int (Int32.ofNat u)), some (.int (Int32.ofNat j)), some (.int (Int32.ofNat 8))], [], st_h I J, 0, 0) r → Gx X (d + 1) (kc_M_unpacked, []) (164, [some (.ref 166), some (.int (Int32.ofNat n)), some (.int (Int32.ofNat i)), some (.int (Int32.ofNat 255)), some (.long w), none, some (.int (Int32.ofNat u)), some (.int (Int32.ofNat j)), some (.int (Int32.ofNat k))], [], st_h I J, 0, 0) r := by
  intro m
  induction m with
  | zero =>
    intro k hk w w' h r hr
    obtain rfl : k = 8 := hk
    injection h with h
    injection h with h1 h2
    rw [h1]
    exact hr
  | succ m ih =>
    intro k hk w w' h r hr
    have k8 : Int32.ofNat k < (8 : Int32) := by rw [show (8 : Int32) = Int32.ofNat 8 from rfl, oi_lt (by omega) (by omega)]; omega
    unfold rgk at h
    rw [if_neg (b255 ⟨k, by omega⟩), if_pos (show i + 8 * j + k < L by omega), ← hO _ (by omega)] at h
    refine (b_M_unpacked_164 r).mpr (ifp k8 (ifp rfl ?_))
    rw [show (8 : Int32) * Int32.ofNat j = Int32.ofNat (8 * j) from oi_mu 8 j, oi_p, oi_p, oi_a, oi_n (by omega)]
    exact ⟨oi_in (by omega) (by omega), ih (k + 1) (by omega) _ w' (by rw [show i + 8 * j + (k + 1) = i + 8 * j + k + 1 by omega]; exact h) r hr⟩
theorem mu_grow {J : st_J} {n T i u j : Nat} (hn : n < 2 ^ 30) (hj : j < 1000) {w : Int64} {v8 : Int32} (hk : ¬ (v8 < (8 : Int32)) ∨ ¬ (Int32.ofNat T = (255 : Int32))) (r : pm_R) (h : Gx X (d + 1) (kc_M_unpacked, []) (151, [some (.ref 166), some (.int (Int32.ofNat (n + 1))), some (.int (Int32.ofNat i)), some (.int (Int32.ofNat T)), some (.long w), none, some (.int (Int32.ofNat u)), some (.int (Int32.ofNat (j + 1))), some (.int v8)], [], st_h I (gw J n w), 0, 0) r) : Gx X (d + 1) (kc_M_unpacked, []) (164, [some (.ref 166), some (.int (Int32.ofNat n)), some (.int (Int32.ofNat i)), some (.int (Int32.ofNat T)), some (.long w), none, some (.int (Int32.ofNat u)), some (.int (Int32.ofNat j)), some (.int v8)], [], st_h I J, 0, 0) r := by
  have n3 : Int32.ofNat n < (300 : Int32) ↔ n < 300 := by rw [show (300 : Int32) = Int32.ofNat 300 from rfl, oi_lt (by omega) (by omega)]
  have inner : (if Int32.ofNat n < (300 : Int32) then ((pm_in (Int32.ofNat n) 300) = true ∧ Gx X (d + 1) (kc_M_unpacked, []) (151, [some (.ref 166), some (.int (Int32.ofNat n + (1 : Int32))), some (.int (Int32.ofNat i)), some (.int (Int32.ofNat T)), some (.long w), none, some (.int (Int32.ofNat u)), some (.int (Int32.ofNat j + (1 : Int32))), some (.int v8)], [], st_h I (st_y J 169 (Int32.toNatClampNeg (Int32.ofNat n)) w), 0, 0) r) else Gx X (d + 1) (kc_M_unpacked, []) (151, [some (.ref 166), some (.int (Int32.ofNat n + (1 : Int32))), some (.int (Int32.ofNat i)), some (.int (Int32.ofNat T)), some (.long w), none, some (.int (Int32.ofNat u)), some (.int (Int32.ofNat j + (1 : Int32))), some (.int v8)], [], st_h I J, 0, 0) r) := by
    unfold gw at h
    rw [oi_a, oi_a, oi_n (by omega)]
    by_cases c3 : n < 300
    · rw [if_pos c3] at h
      exact ifp (n3.mpr c3) ⟨oi_in c3 (by omega), h⟩
    · rw [if_neg c3] at h
      exact ifn (fun q => c3 (n3.mp q)) h
  refine (b_M_unpacked_164 r).mpr ?_
  by_cases c : v8 < (8 : Int32)
  · exact ifp c (ifn (hk.elim (fun q => absurd c q) id) inner)
  · exact ifn c inner
theorem mu_run (eL : I 166 7 = Int32.ofNat L) (hL : L ≤ 1500) (hO : ∀ k, k < L → I 171 k = O k) {T u i : Nat} (hT : T = 0 ∨ T = 255) (hu : u < 256) (hi : i ≤ L) (hf : T = 255 → i + 8 * u ≤ L) : ∀ m j, j + m = u → ∀ (A : List Int64) (J : st_J) (w0 : Int64) (u8 : Option Value), QM J0 J A → A.length + m < 2 ^ 30 → ∀ v, rgr O L T m (i + (if T = 255 then 8 * j else 0)) = some v → ∃ M, QM J0 M (A ++ v.1) ∧ ∃ (w1 : Int64) (u8' : Option Value), ∀ r, Gx X (d + 1) (kc_M_unpacked, []) (4, [some (.ref 166), some (.int (Int32.ofNat (A ++ v.1).length)), some (.int (Int32.ofNat v.2)), some (.int (Int32.ofNat T)), some (.long w1), none, some (.int (Int32.ofNat u)), some (.int (Int32.ofNat u)), u8'], [], st_h I M, 0, 0) r → Gx X (d + 1) (kc_M_unpacked, []) (151, [some (.ref 166), some (.int (Int32.ofNat A.length)), some (.int (Int32.ofNat i)), some (.int (Int32.ofNat T)), some (.long w0), none, some (.int (Int32.ofNat u)), some (.int (Int32.ofNat j)), u8], [], st_h I J, 0, 0) r := by
  intro m
  induction m with
  | zero =>
    intro j hj A J w0 u8 hA hl v hv
    obtain rfl : j = u := hj
    injection hv with hv
    subst hv
    rw [List.append_nil]
    refine ⟨J, hA, w0, u8, fun r hr => (b_M_unpacked_151 r).mpr (ifn (by rw [oi_lt (by omega) (by omega)]; omega) ?_)⟩
    rcases hT with rfl | rfl
    · refine ifn (by decide) ?_
      rw [if_neg (by omega), Nat.add_zero] at hr
      exact hr
    · refine ifp rfl ?_
      rw [if_pos rfl] at hr
      rw [show (8 : Int32) * Int32.ofNat j = Int32.ofNat (8 * j) from oi_mu 8 j, oi_p]
      exact hr
  | succ m ih =>
    intro j hj A J w0 u8 hA hl v hv
    have j1 : Int32.ofNat j < Int32.ofNat u := by rw [oi_lt (by omega) (by omega)]; omega
    unfold rgr at hv
    have hAl : ∀ w : Int64, (A ++ [w]).length = A.length + 1 := fun w => by rw [List.length_append]; rfl
    rcases hT with rfl | rfl
    · rw [if_neg (by omega), Nat.add_zero, rgk_0] at hv
      dsimp only at hv
      cases hr2 : rgr O L 0 m i with
      | none => rw [hr2] at hv; cases hv
      | some v2 =>
        rw [hr2] at hv
        obtain ⟨l, i2⟩ := v2
        injection hv with hv
        subst hv
        obtain ⟨M, hM, w1, u8', hG⟩ := ih (j + 1) (by omega) (A ++ [0]) (gw J A.length 0) 0 (some (.int 0)) (QM_s 0 hA) (by rw [hAl]; omega) (l, i2) (by rw [if_neg (by omega), Nat.add_zero]; exact hr2)
        rw [List.append_assoc] at hM hG
        refine ⟨M, hM, w1, u8', fun r hr => (b_M_unpacked_151 r).mpr (ifp j1 (mu_grow (by omega) (by omega) (Or.inr (by decide)) r ?_))⟩
        have hG := hG r hr
        rw [hAl] at hG
        exact hG
    · have hf8 := hf rfl
      rw [if_pos rfl] at hv
      obtain ⟨w, e⟩ := (rgk_f (O := O) (L := L) 8 0 (i + 8 * j) 0 rfl).1 (by omega)
      rw [e] at hv
      dsimp only at hv
      cases hr2 : rgr O L 255 m (i + 8 * j + 8) with
      | none => rw [hr2] at hv; cases hv
      | some v2 =>
        rw [hr2] at hv
        obtain ⟨l, i2⟩ := v2
        injection hv with hv
        subst hv
        obtain ⟨M, hM, w1, u8', hG⟩ := ih (j + 1) (by omega) (A ++ [w]) (gw J A.length w) w (some (.int (Int32.ofNat 8))) (QM_s w hA) (by rw [hAl]; omega) (l, i2) (by rw [if_pos rfl, show i + 8 * (j + 1) = i + 8 * j + 8 by omega]; exact hr2)
        rw [List.append_assoc] at hM hG
        refine ⟨M, hM, w1, u8', fun r hr => (b_M_unpacked_151 r).mpr (ifp j1 (mu_164 eL hL hO (by omega) 8 0 rfl 0 w e r (mu_grow (by omega) (by omega) (Or.inl (by decide)) r ?_)))⟩
        have hG := hG r hr
        rw [hAl] at hG
        exact hG
set_option maxRecDepth 20000 in
theorem mu_all (eL : I 166 7 = Int32.ofNat L) (hL : L ≤ 1500) (hO : ∀ k, k < L → I 171 k = O k) (h8 : ∀ k, k < L → 0 ≤ (O k).toInt ∧ (O k).toInt < 256) : ∀ m i, i ≤ L → L ≤ i + m → ∀ (A : List Int64) (J : st_J) (u3 u4 u5 u6 u7 u8 : Option Value), QM J0 J A → A.length ≤ 256 * i →
  (∀ l, ups O L m i = some l → ∃ M, QM J0 M (A ++ l) ∧ (A ++ l).length ≤ 256 * L ∧ Gx X (d + 1) (kc_M_unpacked, []) (4, [some (.ref 166), some (.int (Int32.ofNat A.length)), some (.int (Int32.ofNat i)), u3, u4, u5, u6, u7, u8], [], st_h I J, 0, 0) (.inl (some (.int (Int32.ofNat (A ++ l).length))), st_h I M, 0, 0)) ∧
  (ups O L m i = none → ∃ M, (∀ a, a ≠ 169 → M a = J0 a) ∧ Gx X (d + 1) (kc_M_unpacked, []) (4, [some (.ref 166), some (.int (Int32.ofNat A.length)), some (.int (Int32.ofNat i)), u3, u4, u5, u6, u7, u8], [], st_h I J, 0, 0) (.inl (some (.int (-1))), st_h I M, 0, 0)) := by
  intro m
  induction m with
  | zero =>
    intro i hi hm A J u3 u4 u5 u6 u7 u8 hA hl
    refine ⟨fun l h1 => ?_, fun h => by cases h⟩
    injection h1 with h1
    subst h1
    rw [List.append_nil]
    exact ⟨J, hA, by omega, (b_M_unpacked_4 _).mpr (ifn (by rw [eL, oi_lt (by omega) (by omega)]; omega) rfl)⟩
  | succ m ih =>
    intro i hi hm A J u3 u4 u5 u6 u7 u8 hA hl
    by_cases ci : i < L
    · have hT := h8 i ci
      have eT := oi_of hT.1
      have nT := cln hT.1
      obtain ⟨T, hTd⟩ : ∃ T, T = (O i).toNatClampNeg := ⟨_, rfl⟩
      rw [← hTd] at eT nT
      have t0 : O i = 0 ∨ O i = 255 ↔ T = 0 ∨ T = 255 := by
        rw [eT, show (Int32.ofNat T = (0 : Int32)) ↔ T = 0 from oi_eq (b := 0) (by omega) (by omega), show (Int32.ofNat T = (255 : Int32)) ↔ T = 255 from oi_eq (b := 255) (by omega) (by omega)]
      have z28 := mu_28 (X := X) (d := d) (O := O) eL hL hO (J := J) (n := A.length) (T := T) (by omega) (u7 := u7) (u8 := u8) 8 0 rfl (i + 1) 0 (by omega)
      have start : ∀ r, Gx X (d + 1) (kc_M_unpacked, []) (28, [some (.ref 166), some (.int (Int32.ofNat A.length)), some (.int (Int32.ofNat (i + 1))), some (.int (Int32.ofNat T)), some (.long 0), none, some (.int (Int32.ofNat 0)), u7, u8], [], st_h I J, 0, 0) r → Gx X (d + 1) (kc_M_unpacked, []) (4, [some (.ref 166), some (.int (Int32.ofNat A.length)), some (.int (Int32.ofNat i)), u3, u4, u5, u6, u7, u8], [], st_h I J, 0, 0) r := fun r hr => by
        refine (b_M_unpacked_4 _).mpr (ifp (by rw [eL, oi_lt (by omega) (by omega)]; exact ci) ⟨oi_in (by omega) (by omega), ?_⟩)
        rw [oi_a, oi_n (by omega), hO i ci, eT]
        exact hr
      cases hr : rgk O L T 8 0 (i + 1) 0 with
      | none =>
        have er : ups O L (m + 1) i = none := by
          unfold ups
          rw [if_pos ci, ← hTd, hr]
        rw [er]
        exact ⟨fun v hv => (by cases hv), fun _ => ⟨J, hA.1, start _ (z28.2 hr)⟩⟩
      | some v1 =>
        obtain ⟨w, i1⟩ := v1
        have hb := rgk_b _ _ _ _ _ hr
        have hb1 := hb.1
        have hb2 := hb.2 (by omega)
        dsimp only at hb1 hb2
        have hA1 := QM_s w hA
        have hAl : (A ++ [w]).length = A.length + 1 := by rw [List.length_append]; rfl
        have row := fun r h => start r (z28.1 _ hr r (mu_row (X := X) (d := d) eL hL (J := J) (n := A.length) (T := T) (i := i1) (by omega) (by omega) (by omega) (w := w) (u7 := u7) (u8 := u8) r h))
        by_cases ct : T = 0 ∨ T = 255
        · by_cases c1 : i1 < L
          · have hU := h8 i1 c1
            have eU := oi_of hU.1
            have nU := cln hU.1
            obtain ⟨U, hUd⟩ : ∃ U, U = (O i1).toNatClampNeg := ⟨_, rfl⟩
            rw [← hUd] at eU nU
            have full : (I 166 7 < Int32.ofNat (i1 + 1) + (8 : Int32) * I 171 i1) ↔ ¬ (i1 + 1 + 8 * U ≤ L) := by
              rw [hO i1 c1, eU, show (8 : Int32) * Int32.ofNat U = Int32.ofNat (8 * U) from oi_mu 8 U, oi_p, eL, oi_lt (by omega) (by omega)]
              omega
            have neg : ∀ r, T = 255 → ¬ (i1 + 1 + 8 * U ≤ L) → r = (.inl (some (.int (-1))), st_h I (gw J A.length w), 0, 0) → Gx X (d + 1) (kc_M_unpacked, []) (4, [some (.ref 166), some (.int (Int32.ofNat A.length)), some (.int (Int32.ofNat i)), u3, u4, u5, u6, u7, u8], [], st_h I J, 0, 0) r := fun r q1 q2 q3 => row r (ifp ct (ifp c1 (ifp ⟨q1, full.mpr q2⟩ q3)))
            have pos : ∀ r, (T = 255 → i1 + 1 + 8 * U ≤ L) → Gx X (d + 1) (kc_M_unpacked, []) (151, [some (.ref 166), some (.int (Int32.ofNat (A.length + 1))), some (.int (Int32.ofNat (i1 + 1))), some (.int (Int32.ofNat T)), some (.long w), none, some (.int (Int32.ofNat U)), some (.int (Int32.ofNat 0)), u8], [], st_h I (gw J A.length w), 0, 0) r → Gx X (d + 1) (kc_M_unpacked, []) (4, [some (.ref 166), some (.int (Int32.ofNat A.length)), some (.int (Int32.ofNat i)), u3, u4, u5, u6, u7, u8], [], st_h I J, 0, 0) r := fun r q1 q3 => row r (ifp ct (ifp c1 (ifn (fun q => full.mp q.2 (q1 q.1)) (by rw [hO i1 c1, eU]; exact q3))))
            by_cases cf : T = 255 → i1 + 1 + 8 * U ≤ L
            · cases hr2 : rgr O L T U (i1 + 1) with
              | none =>
                exfalso
                rcases ct with q | q
                · have : ∀ u i, rgr O L 0 u i ≠ none := by
                    intro u
                    induction u with
                    | zero => intro i z; cases z
                    | succ u ih2 =>
                      intro i z
                      unfold rgr at z
                      rw [rgk_0] at z
                      dsimp only at z
                      split at z
                      · rename_i q2; exact ih2 _ q2
                      · cases z
                  rw [q] at hr2
                  exact this _ _ hr2
                · obtain ⟨l, e⟩ := (rgr_f (O := O) (L := L) U (i1 + 1) (by omega)).1 (cf q)
                  rw [q, e] at hr2
                  cases hr2
              | some v2 =>
                obtain ⟨l1, i2⟩ := v2
                have gb := rgr_b _ _ _ hr2
                have gb1 := gb.1
                have gb2 := gb.2.1 (by omega)
                have gb3 := gb.2.2
                dsimp only at gb1 gb2 gb3
                obtain ⟨M1, hM1, w1, u8', hG1⟩ := mu_run (X := X) (d := d) (J0 := J0) (O := O) eL hL hO (T := T) (u := U) (i := i1 + 1) ct (by omega) (by omega) cf U 0 (by omega) (A ++ [w]) (gw J A.length w) w u8 hA1 (by omega) (l1, i2) (by rw [show (if T = 255 then 8 * 0 else 0) = 0 by split <;> rfl, Nat.add_zero]; exact hr2)
                dsimp only at hM1 hG1
                have hAl2 : (A ++ [w] ++ l1).length = A.length + 1 + l1.length := by rw [List.length_append, hAl]
                obtain ⟨k1, k2⟩ := ih i2 gb2 (by omega) (A ++ [w] ++ l1) M1 (some (.int (Int32.ofNat T))) (some (.long w1)) none (some (.int (Int32.ofNat U))) (some (.int (Int32.ofNat U))) u8' hM1 (by omega)
                rw [hAl] at hG1
                cases hr3 : ups O L m i2 with
                | none =>
                  have er : ups O L (m + 1) i = none := by
                    conv => lhs; unfold ups
                    rw [if_pos ci, ← hTd, hr]; dsimp only; rw [if_pos (t0.mpr ct), if_pos c1, ← hUd, hr2]; dsimp only; rw [hr3]
                  rw [er]
                  refine ⟨fun v hv => (by cases hv), fun _ => ?_⟩
                  obtain ⟨M, hM, hG⟩ := k2 hr3
                  exact ⟨M, hM, pos _ cf (hG1 _ hG)⟩
                | some l2 =>
                  have er : ups O L (m + 1) i = some (w :: (l1 ++ l2)) := by
                    conv => lhs; unfold ups
                    rw [if_pos ci, ← hTd, hr]; dsimp only; rw [if_pos (t0.mpr ct), if_pos c1, ← hUd, hr2]; dsimp only; rw [hr3]
                  rw [er]
                  have el : A ++ (w :: (l1 ++ l2)) = A ++ [w] ++ l1 ++ l2 := by simp only [List.append_assoc, List.cons_append, List.nil_append]
                  refine ⟨fun l hl1 => ?_, fun hv => (by cases hv)⟩
                  injection hl1 with hl1
                  subst hl1
                  obtain ⟨M, hM, hMl, hG⟩ := k1 l2 hr3
                  rw [el]
                  exact ⟨M, hM, hMl, pos _ cf (hG1 _ hG)⟩
            · have q1 : T = 255 := Decidable.byContradiction fun q => cf fun z => absurd z q
              have q2 : ¬ (i1 + 1 + 8 * U ≤ L) := fun q => cf fun _ => q
              have er : ups O L (m + 1) i = none := by
                conv => lhs; unfold ups
                rw [if_pos ci, ← hTd, hr]; dsimp only; rw [if_pos (t0.mpr ct), if_pos c1, ← hUd, q1, (rgr_f (O := O) (L := L) U (i1 + 1) (by omega)).2 q2]
              rw [er]
              exact ⟨fun v hv => (by cases hv), fun _ => ⟨_, hA1.1, neg _ q1 q2 rfl⟩⟩
          · have er : ups O L (m + 1) i = none := by
              conv => lhs; unfold ups
              rw [if_pos ci, ← hTd, hr]; dsimp only; rw [if_pos (t0.mpr ct), if_neg c1]
            rw [er]
            exact ⟨fun v hv => (by cases hv), fun _ => ⟨_, hA1.1, row _ (ifp ct (ifn c1 rfl))⟩⟩
        · obtain ⟨k1, k2⟩ := ih i1 (by omega) (by omega) (A ++ [w]) (gw J A.length w) (some (.int (Int32.ofNat T))) (some (.long w)) none (some (.int (Int32.ofNat 8))) u7 u8 hA1 (by omega)
          rw [hAl] at k1 k2
          cases hr3 : ups O L m i1 with
          | none =>
            have er : ups O L (m + 1) i = none := by
              conv => lhs; unfold ups
              rw [if_pos ci, ← hTd, hr]; dsimp only; rw [if_neg (fun q => ct (t0.mp q)), hr3]
            rw [er]
            refine ⟨fun v hv => (by cases hv), fun _ => ?_⟩
            obtain ⟨M, hM, hG⟩ := k2 hr3
            exact ⟨M, hM, row _ (ifn ct hG)⟩
          | some l2 =>
            have er : ups O L (m + 1) i = some (w :: l2) := by
              conv => lhs; unfold ups
              rw [if_pos ci, ← hTd, hr]; dsimp only; rw [if_neg (fun q => ct (t0.mp q)), hr3]
            rw [er]
            have el : A ++ (w :: l2) = A ++ [w] ++ l2 := by simp only [List.append_assoc, List.cons_append, List.nil_append]
            refine ⟨fun l hl1 => ?_, fun hv => (by cases hv)⟩
            injection hl1 with hl1
            subst hl1
            obtain ⟨M, hM, hMl, hG⟩ := k1 l2 hr3
            rw [el]
            exact ⟨M, hM, hMl, row _ (ifn ct hG)⟩
    · have er : ups O L (m + 1) i = some [] := by
        unfold ups
        rw [if_neg ci]
      rw [er]
      refine ⟨fun l h1 => ?_, fun h => by cases h⟩
      injection h1 with h1
      subst h1
      rw [List.append_nil]
      exact ⟨J, hA, by omega, (b_M_unpacked_4 _).mpr (ifn (by rw [eL, oi_lt (by omega) (by omega)]; omega) rfl)⟩
theorem mu_ex {J : st_J} (eL : I 166 7 = Int32.ofNat L) (hL : L ≤ 1500) (hO : ∀ k, k < L → I 171 k = O k) (h8 : ∀ k, k < L → 0 ≤ (O k).toInt ∧ (O k).toInt < 256) :
  (∀ l, ups O L 1501 0 = some l → ∃ M, QM J M l ∧ l.length ≤ 384000 ∧ Ex X (d + 2) 228 [.ref 166] (st_h I J) (.inl (some (.int (Int32.ofNat l.length))), st_h I M, 0, 0)) ∧
  (ups O L 1501 0 = none → ∃ M, (∀ a, a ≠ 169 → M a = J a) ∧ Ex X (d + 2) 228 [.ref 166] (st_h I J) (.inl (some (.int (-1))), st_h I M, 0, 0)) := by
  obtain ⟨h1, h2⟩ := mu_all (X := X) (d := d) (J0 := J) (O := O) eL hL hO h8 1501 0 (by omega) (by omega) [] J none none none none none none ⟨fun _ _ => rfl, fun k hk => absurd hk (Nat.not_lt_zero k)⟩ (by show 0 ≤ 0; omega)
  refine ⟨fun l hl => ?_, fun hn => ?_⟩
  · obtain ⟨M, hM, hMl, hG⟩ := h1 l hl
    rw [List.nil_append] at hM hMl hG
    exact ⟨M, hM, by omega, (e_M_unpacked _).mpr hG⟩
  · obtain ⟨M, hM, hG⟩ := h2 hn
    exact ⟨M, hM, (e_M_unpacked _).mpr hG⟩
end MUN
