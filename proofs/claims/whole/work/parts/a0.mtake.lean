/-! taking, by the reference -/
def lenm (G : Nat → Int64) (m s : Nat) : Nat := if s < m then hnm G (s + 1) else 0
def ddm (G : Nat → Int64) (m : Nat) : Nat → Nat
  | 0 => m / 2 + 1
  | s + 1 => ddm G m s + lenm G m s
def tgt (G : Nat → Int64) (m s k : Nat) : Int64 := if k < lenm G m s then G (ddm G m s + k) else 0
theorem ddm_due {G : Nat → Int64} {m : Nat} : ∀ s, s ≤ m → ddm G m s = due G m s := by
  intro s
  induction s with
  | zero => intro _; rfl
  | succ s ih =>
    intro h
    show ddm G m s + lenm G m s = due G m s + hnm G (s + 1)
    unfold lenm
    rw [ih (by omega), if_pos (by omega)]
theorem ddm_le {G : Nat → Int64} {m : Nat} (hm : m ≤ 4) (h : ∀ s, s < m → hnm G (s + 1) ≤ 64) : ∀ s, lenm G m s ≤ 64 ∧ (s ≤ 4 → ddm G m s ≤ 3 + 64 * s) := by
  have hl : ∀ s, lenm G m s ≤ 64 := fun s => by
    unfold lenm
    split
    · rename_i q; exact h s q
    · omega
  intro s
  refine ⟨hl s, ?_⟩
  induction s with
  | zero => intro _; show m / 2 + 1 ≤ _; omega
  | succ s ih =>
    intro hs
    have := ih (by omega)
    have := hl s
    show ddm G m s + lenm G m s ≤ _
    omega
def QT (G : Nat → Int64) (m : Nat) (L J : st_J) (s : Nat) : Prop := (∀ a, a ≠ 167 → J a = L a) ∧ ∀ s' k, s' < s → k < 64 → J 167 (64 * s' + k) = tgt G m s' k
section MT
variable {X : pm_X} {d : Nat} {L : st_J} {m n : Nat}
def QI (I0 I : st_I) (G : Nat → Int64) (m s : Nat) : Prop := (∀ a f, a ≠ 170 → I a f = I0 a f) ∧ ∀ x, x < s → I 170 x = Int32.ofNat (lenm G m x)
theorem mt_229 (hm : m ≤ 4) (h64 : ∀ s, s < m → hnm (L 169) (s + 1) ≤ 64) {I : st_I} {s : Nat} (hs : s < 4) (e170 : I 170 s = Int32.ofNat (lenm (L 169) m s)) {v1 : Int32} {v2 v6 : Int64} {v5 : Int32} : ∀ t k, k + t = lenm (L 169) m s → ∀ J : st_J, QT (L 169) m L J s → (∀ j, j < 64 → J 167 (64 * s + j) = if j < k then (L 169) (ddm (L 169) m s + j) else 0) → ∃ M, QT (L 169) m L M (s + 1) ∧ ∀ r, Gx X (d + 2) (kc_M_take, []) (194, [some (.ref 166), some (.int v1), some (.long v2), none, some (.int (Int32.ofNat m)), some (.int v5), some (.long v6), none, some (.int (Int32.ofNat (ddm (L 169) m (s + 1)))), some (.int (Int32.ofNat (s + 1))), some (.int (Int32.ofNat (lenm (L 169) m s)))], [], st_h I M, 0, 0) r → Gx X (d + 2) (kc_M_take, []) (229, [some (.ref 166), some (.int v1), some (.long v2), none, some (.int (Int32.ofNat m)), some (.int v5), some (.long v6), none, some (.int (Int32.ofNat (ddm (L 169) m s + k))), some (.int (Int32.ofNat s)), some (.int (Int32.ofNat k))], [], st_h I J, 0, 0) r := by
  obtain ⟨hl, hd⟩ := ddm_le hm h64 s
  have hd := hd (by omega)
  intro t
  induction t with
  | zero =>
    intro k hk J hJ hz
    have hk' : k = lenm (L 169) m s := hk
    subst hk'
    refine ⟨J, ⟨hJ.1, fun s' k' hs' hk' => ?_⟩, fun r hr => ib_M_take_229 r ⟨oi_in hs (by omega), ?_⟩⟩
    · by_cases c : s' = s
      · rw [c, hz k' hk']
        rfl
      · exact hJ.2 s' k' (by omega) hk'
    · rw [oi_n (i := s) (by omega), e170, oi_a s]
      exact ifn (by rw [oi_lt (by omega) (by omega)]; omega) hr
  | succ t ih =>
    intro k hk J hJ hz
    obtain ⟨M, hM, hG⟩ := ih (k + 1) (by omega) (st_y J 167 (64 * s + k) (J 169 (ddm (L 169) m s + k))) ⟨fun a ha => by rw [st_y_o _ _ _ ha, hJ.1 a ha], fun s' k' hs' hk' => by rw [st_y_e, if_neg (by omega)]; exact hJ.2 s' k' hs' hk'⟩ (fun j hj => by
      rw [st_y_e]
      by_cases c : j = k
      · rw [if_pos (by omega), if_pos (by omega), hJ.1 169 (by omega), c]
      · rw [if_neg (by omega), hz j hj]
        by_cases c2 : j < k
        · rw [if_pos c2, if_pos (by omega)]
        · rw [if_neg c2, if_neg (by omega)])
    refine ⟨M, hM, fun r hr => ib_M_take_229 r ⟨oi_in hs (by omega), ?_⟩⟩
    rw [oi_n (i := s) (by omega), e170, oi_64 (by omega) (by omega), oi_n (by omega), oi_n (by omega), oi_a, oi_a]
    exact ifp (by rw [oi_lt (by omega) (by omega)]; omega) ⟨oi_in (by omega) (by omega), oi_in (by omega) (by omega), hG r hr⟩
theorem mt_194 (hm : m ≤ 4) (h64 : ∀ s, s < m → hnm (L 169) (s + 1) ≤ 64) {I0 : st_I} {v1 : Int32} {v2 v6 : Int64} {v5 : Int32} : ∀ t s, s + t = 4 → ∀ (I : st_I) (J : st_J) (u10 : Option Value), QI I0 I (L 169) m s → QT (L 169) m L J s → ∃ I' M, QI I0 I' (L 169) m 4 ∧ QT (L 169) m L M 4 ∧ Gx X (d + 2) (kc_M_take, []) (194, [some (.ref 166), some (.int v1), some (.long v2), none, some (.int (Int32.ofNat m)), some (.int v5), some (.long v6), none, some (.int (Int32.ofNat (ddm (L 169) m s))), some (.int (Int32.ofNat s)), u10], [], st_h I J, 0, 0) (.inl (some (.int (Int32.ofNat m))), st_h (st_mz (st_w I' 166 11 0) 17) M, 0, 0) := by
  intro t
  induction t with
  | zero =>
    intro s hs I J u10 hI hJ
    obtain rfl : s = 4 := hs
    exact ⟨I, J, hI, hJ, ib_M_take_194 _ (ifn (by decide) rfl)⟩
  | succ t ih =>
    intro s hs I J u10 hI hJ
    have hs4 : s < 4 := by omega
    have hl := (ddm_le hm h64 s).1
    have hd := (ddm_le hm h64 s).2 (by omega)
    have hI1 : QI I0 (st_w I 170 s (Int32.ofNat (lenm (L 169) m s))) (L 169) m (s + 1) := ⟨fun a f ha => by rw [st_w_e, if_neg (fun z => ha z.1), hI.1 a f ha], fun x hx => by
      rw [st_w_e]
      by_cases c : x = s
      · rw [if_pos ⟨rfl, c⟩, c]
      · rw [if_neg (fun z => c z.2)]
        exact hI.2 x (by omega)⟩
    obtain ⟨M1, hM1, hG1⟩ := mt_229 (X := X) (d := d) hm h64 hs4 (I := st_w I 170 s (Int32.ofNat (lenm (L 169) m s))) (st_w_at _ _ _ _) (v1 := v1) (v2 := v2) (v6 := v6) (v5 := v5) (lenm (L 169) m s) 0 (by omega) (st_lz J s 64) ⟨fun a ha => by
      funext k
      unfold st_lz
      rw [if_neg (by omega), hJ.1 a ha], fun s' k' hs' hk' => by
      unfold st_lz
      rw [if_neg (by omega)]
      exact hJ.2 s' k' hs' hk'⟩ (fun j hj => by
      unfold st_lz
      rw [if_pos (by omega), if_neg (by omega)])
    obtain ⟨I', M, hI', hM, hE⟩ := ih (s + 1) (by omega) _ M1 (some (.int (Int32.ofNat (lenm (L 169) m s)))) hI1 hM1
    refine ⟨I', M, hI', hM, ib_M_take_194 _ (ifp (by rw [show (4 : Int32) = Int32.ofNat 4 from rfl, oi_lt (by omega) (by omega)]; exact hs4) ?_)⟩
    have hG := hG1 _ hE
    rw [Nat.add_zero] at hG
    have es : (1 : Int32) + Int32.ofNat s = Int32.ofNat (s + 1) := by rw [show (1 : Int32) = Int32.ofNat 1 from rfl, oi_p, Nat.add_comm]
    rw [es, hJ.1 169 (by omega), hnj_e _ (by omega), (oi_h (k := s + 1) (by omega)).1, oi_n (i := s) (by omega)]
    by_cases c : s < m
    · have e1 : lenm (L 169) m s = hnm (L 169) (s + 1) := if_pos c
      rw [e1] at hG
      have h6 := h64 s c
      rw [hnj_t (by omega)]
      exact ifp (by rw [oi_lt (by omega) (by omega)]; exact c) ⟨oi_in (by omega) (by omega), oi_in hs4 (by omega), hG⟩
    · have e1 : lenm (L 169) m s = 0 := if_neg c
      rw [e1] at hG
      exact ifn (by rw [oi_lt (by omega) (by omega)]; exact c) ⟨oi_in hs4 (by omega), hG⟩
end MT
theorem j64_eq {x y : Int64} : x = y ↔ x.toInt = y.toInt := Int64.toInt_inj.symm
set_option maxRecDepth 20000 in
/-- .. once the groups are known -/
theorem mt_ex {X : pm_X} {d : Nat} {I : st_I} {J L : st_J} {n : Nat} (hn : n ≤ 384000) (hE : Ex X (d + 2) 228 [.ref 166] (st_h (st_w I 166 10 0) J) (.inl (some (.int (Int32.ofNat n))), st_h (st_w I 166 10 0) L, 0, 0)) :
  (tkok (L 169) n → ∃ I' M, (∀ a f, a ≠ 170 → ¬ (a = 166 ∧ (f = 6 ∨ f = 10)) → I' a f = I a f) ∧ I' 166 6 = Int32.ofNat (hnm (L 169) 0 + 1) ∧ I' 166 10 = 0 ∧ (∀ x, x < 4 → I' 170 x = Int32.ofNat (lenm (L 169) (hnm (L 169) 0 + 1) x)) ∧ (∀ a, a ≠ 167 → M a = L a) ∧ (∀ s k, s < 4 → k < 64 → M 167 (64 * s + k) = tgt (L 169) (hnm (L 169) 0 + 1) s k) ∧ Ex X (d + 3) 227 [.ref 166] (st_h I J) (.inl (some (.int (Int32.ofNat (hnm (L 169) 0 + 1)))), st_h (st_mz (st_w I' 166 11 0) 17) M, 0, 0)) ∧
  (¬ tkok (L 169) n → Ex X (d + 3) 227 [.ref 166] (st_h I J) (.inl (some (.int 0)), st_h (st_w (st_w I 166 10 0) 166 10 1) L, 0, 0)) := by
  have e10 : (st_w I 166 10 0) 166 10 = 0 := st_w_at _ _ _ _
  have h32 := hnm_lt (L 169) 0
  have n1 : (Int32.ofNat n < (1 : Int32)) ↔ n = 0 := by rw [show (1 : Int32) = Int32.ofNat 1 from rfl, oi_lt (by omega) (by omega)]; omega
  by_cases c0 : n = 0
  · refine ⟨fun z => absurd c0 z.1, fun _ => ie_M_take _ ⟨hE, ifp (n1.mpr c0) (ifp e10 rfl)⟩⟩
  · have many : ((hnj (L 169) 0) + (1 : Int64)).toInt = ((hnm (L 169) 0 + 1 : Nat) : Int) := (ja2 (hnj_i (L 169) 0) (show (1 : Int64).toInt = 1 from rfl) (by omega) (by omega)).trans (by omega)
    have l4 : ((4 : Int64) < (hnj (L 169) 0) + (1 : Int64)) ↔ ¬ hnm (L 169) 0 < 4 := by rw [i64_lt, many, show (4 : Int64).toInt = 4 from rfl]; omega
    by_cases c4 : hnm (L 169) 0 < 4
    · obtain ⟨m, hm⟩ : ∃ m, m = hnm (L 169) 0 + 1 := ⟨_, rfl⟩
      rw [← hm] at many
      have em : Int64.toInt32 ((hnj (L 169) 0) + (1 : Int64)) = Int32.ofNat m := eq_of (ti2 many (by omega) (by omega))
      have eh : (Int32.ofNat m + (2 : Int32)) / (2 : Int32) = Int32.ofNat (m / 2 + 1) := by
        rw [show Int32.ofNat m + (2 : Int32) = Int32.ofNat (m + 2) from oi_p m 2, (oi_h (k := m + 2) (by omega)).1, show (m + 2) / 2 = m / 2 + 1 by omega]
      have hd : (Int32.ofNat n < Int32.ofNat (m / 2 + 1)) ↔ n < m / 2 + 1 := oi_lt (by omega) (by omega)
      have top : ∀ r, (if n < m / 2 + 1 then r = (.inl (some (.int (0 : Int32))), st_h (st_w (st_w I 166 10 0) 166 10 1) L, 0, 0) else Gx X (d + 2) (kc_M_take, []) (102, [some (.ref 166), some (.int (Int32.ofNat n)), some (.long ((hnj (L 169) 0) + (1 : Int64))), none, some (.int (Int32.ofNat m)), some (.int (Int32.ofNat (m / 2 + 1))), some (.long (Int32.toInt64 (Int32.ofNat (m / 2 + 1)))), none, some (.int (Int32.ofNat 0)), none, none], [], st_h (st_w I 166 10 0) L, 0, 0) r) → Ex X (d + 3) 227 [.ref 166] (st_h I J) r := fun r h => by
        refine ie_M_take _ ⟨hE, ifn (fun z => c0 (n1.mp z)) (ifp e10 ⟨by decide, ?_⟩)⟩
        rw [hnj_0, em, eh]
        refine ifn (fun z => l4.mp z c4) ?_
        by_cases c : n < m / 2 + 1
        · rw [if_pos c] at h
          exact ifp (hd.mpr c) h
        · rw [if_neg c] at h
          exact ifn (fun z => c (hd.mp z)) h
      by_cases ch : n < m / 2 + 1
      · refine ⟨fun z => absurd z.2.2.1 (by rw [← hm]; omega), fun _ => top _ (ifp ch rfl)⟩
      · -- the loop over the numbers in front
        have fail : ∀ t s, s + t = m → (∀ x, x < s → hnm (L 169) (x + 1) ≤ 64) → ∀ v6 : Int64, v6.toInt = due (L 169) m s → (¬ tkok (L 169) n → Gx X (d + 2) (kc_M_take, []) (102, [some (.ref 166), some (.int (Int32.ofNat n)), some (.long ((hnj (L 169) 0) + (1 : Int64))), none, some (.int (Int32.ofNat m)), some (.int (Int32.ofNat (m / 2 + 1))), some (.long v6), none, some (.int (Int32.ofNat s)), none, none], [], st_h (st_w I 166 10 0) L, 0, 0) (.inl (some (.int (0 : Int32))), st_h (st_w (st_w I 166 10 0) 166 10 1) L, 0, 0)) ∧ (tkok (L 169) n → ∃ v6' : Int64, ∀ r, Gx X (d + 2) (kc_M_take, []) (194, [some (.ref 166), some (.int (Int32.ofNat n)), some (.long ((hnj (L 169) 0) + (1 : Int64))), none, some (.int (Int32.ofNat m)), some (.int (Int32.ofNat (m / 2 + 1))), some (.long v6'), none, some (.int (Int32.ofNat (m / 2 + 1))), some (.int (Int32.ofNat 0)), none], [], st_h (st_w (st_w I 166 10 0) 166 6 (Int32.ofNat m)) L, 0, 0) r → Gx X (d + 2) (kc_M_take, []) (102, [some (.ref 166), some (.int (Int32.ofNat n)), some (.long ((hnj (L 169) 0) + (1 : Int64))), none, some (.int (Int32.ofNat m)), some (.int (Int32.ofNat (m / 2 + 1))), some (.long v6), none, some (.int (Int32.ofNat s)), none, none], [], st_h (st_w I 166 10 0) L, 0, 0) r) := by
          intro t
          induction t with
          | zero =>
            intro s hs ha v6 hv
            obtain rfl : s = m := hs
            have hdu := due_le (m := s) s ha
            have sl : ¬ (Int32.ofNat s < Int32.ofNat s) := by rw [oi_lt (by omega) (by omega)]; omega
            have ev : (v6 = Int32.toInt64 (Int32.ofNat n)) ↔ n = due (L 169) s s := by
              rw [j64_eq, hv, tl, oi_i (by omega)]
              omega
            refine ⟨fun z => ib_M_take_102 _ (ifn sl (ifn (fun q => z ⟨c0, c4, by rw [← hm]; omega, by rw [← hm]; exact ha, by rw [← hm]; exact ev.mp q⟩) (ifp e10 rfl))), fun z => ⟨v6, fun r hr => ib_M_take_102 _ (ifn sl (ifp (ev.mpr (by have := z.2.2.2.2; rw [← hm] at this; exact this)) (ifp e10 hr)))⟩⟩
          | succ t ih =>
            intro s hs ha v6 hv
            have hdu := due_le (m := m) s ha
            have sl : (Int32.ofNat s < Int32.ofNat m) := by rw [oi_lt (by omega) (by omega)]; omega
            have es : (1 : Int32) + Int32.ofNat s = Int32.ofNat (s + 1) := by rw [show (1 : Int32) = Int32.ofNat 1 from rfl, oi_p, Nat.add_comm]
            have l64 : ((64 : Int64) < hnj (L 169) (s + 1)) ↔ 64 < hnm (L 169) (s + 1) := by rw [i64_lt, hnj_i, show (64 : Int64).toInt = 64 from rfl]; omega
            have hs32 := hnm_lt (L 169) (s + 1)
            by_cases cl : 64 < hnm (L 169) (s + 1)
            · refine ⟨fun z => ib_M_take_102 _ (ifp sl ?_), fun z => absurd (z.2.2.2.1 s (by rw [← hm]; omega)) (by omega)⟩
              rw [es, hnj_e _ (by omega), (oi_h (k := s + 1) (by omega)).1]
              exact ⟨oi_in (by omega) (by omega), ifp (l64.mpr cl) (ifp e10 rfl)⟩
            · obtain ⟨i1, i2⟩ := ih (s + 1) (by omega) (fun x hx => by
                by_cases q : x = s
                · rw [q]; omega
                · exact ha x (by omega)) (v6 + hnj (L 169) (s + 1)) ((ja2 hv (hnj_i (L 169) (s + 1)) (by omega) (by omega)).trans (by show _ = ((due (L 169) m s + hnm (L 169) (s + 1) : Nat) : Int); omega))
              have step : ∀ r, Gx X (d + 2) (kc_M_take, []) (102, [some (.ref 166), some (.int (Int32.ofNat n)), some (.long ((hnj (L 169) 0) + (1 : Int64))), none, some (.int (Int32.ofNat m)), some (.int (Int32.ofNat (m / 2 + 1))), some (.long (v6 + hnj (L 169) (s + 1))), none, some (.int (Int32.ofNat (s + 1))), none, none], [], st_h (st_w I 166 10 0) L, 0, 0) r → Gx X (d + 2) (kc_M_take, []) (102, [some (.ref 166), some (.int (Int32.ofNat n)), some (.long ((hnj (L 169) 0) + (1 : Int64))), none, some (.int (Int32.ofNat m)), some (.int (Int32.ofNat (m / 2 + 1))), some (.long v6), none, some (.int (Int32.ofNat s)), none, none], [], st_h (st_w I 166 10 0) L, 0, 0) r := fun r hr => by
                refine ib_M_take_102 _ (ifp sl ?_)
                rw [es, hnj_e _ (by omega), (oi_h (k := s + 1) (by omega)).1, oi_a]
                exact ⟨oi_in (by omega) (by omega), ifn (fun z => cl (l64.mp z)) (ifp e10 hr)⟩
              refine ⟨fun z => step _ (i1 z), fun z => ?_⟩
              obtain ⟨v6', hG⟩ := i2 z
              exact ⟨v6', fun r hr => step _ (hG r hr)⟩
        obtain ⟨f1, f2⟩ := fail m 0 (by omega) (fun x hx => absurd hx (Nat.not_lt_zero x)) (Int32.toInt64 (Int32.ofNat (m / 2 + 1))) ((tl _).trans (oi_i (by omega)))
        refine ⟨fun z => ?_, fun z => top _ (ifn ch (f1 z))⟩
        obtain ⟨v6', hG⟩ := f2 z
        have z64 := z.2.2.2.1
        rw [← hm] at z64 ⊢
        obtain ⟨I', M, hI', hM, hF⟩ := mt_194 (X := X) (d := d) (L := L) (m := m) (by omega) z64 (I0 := st_w (st_w I 166 10 0) 166 6 (Int32.ofNat m)) (v1 := Int32.ofNat n) (v2 := (hnj (L 169) 0) + (1 : Int64)) (v6 := v6') (v5 := Int32.ofNat (m / 2 + 1)) 4 0 rfl _ L none ⟨fun _ _ _ => rfl, fun x hx => absurd hx (Nat.not_lt_zero x)⟩ ⟨fun _ _ => rfl, fun s' k' hs' => absurd hs' (Nat.not_lt_zero s')⟩
        refine ⟨I', M, fun a f q1 q2 => ?_, ?_, ?_, hI'.2, hM.1, hM.2, top _ (ifn ch (hG _ hF))⟩
        · rw [hI'.1 a f q1, st_w_e, if_neg (by omega), st_w_e, if_neg (by omega)]
        · rw [hI'.1 166 6 (by omega), st_w_at]
        · rw [hI'.1 166 10 (by omega), st_w_e, if_neg (by omega), st_w_at]
    · refine ⟨fun z => absurd z.2.1 c4, fun _ => ie_M_take _ ⟨hE, ifn (fun z => c0 (n1.mp z)) (ifp e10 ⟨by decide, ?_⟩)⟩⟩
      rw [hnj_0]
      exact ifp (l4.mpr c4) rfl
