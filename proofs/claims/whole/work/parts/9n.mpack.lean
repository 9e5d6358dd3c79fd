/-! .. the octets as they come -/
theorem gd_app (A B : List Int32) (j : Nat) : (A ++ B).getD j 0 = if j < A.length then A.getD j 0 else B.getD (j - A.length) 0 := by
  rw [List.getD_eq_getElem?_getD, List.getElem?_append]
  split <;> rw [List.getD_eq_getElem?_getD]
def QL (I0 I : st_I) (A : List Int32) : Prop := (∀ a f, a ≠ 172 → I a f = I0 a f) ∧ ∀ j, j < A.length → I 172 j = A.getD j 0
def QH (I0 I : st_I) (A B : List Int32) : Prop := (∀ a f, a ≠ 172 → I a f = I0 a f) ∧ (∀ j, j < A.length → I 172 j = A.getD j 0) ∧ (∀ j, j < B.length → I 172 (A.length + 1 + j) = B.getD j 0)
theorem QH_0 {I0 I : st_I} {A : List Int32} (h : QL I0 I A) : QH I0 I A [] := ⟨h.1, h.2, fun j hj => absurd hj (Nat.not_lt_zero j)⟩
theorem QH_fill {I0 I : st_I} {A B : List Int32} (x : Int32) (h : QH I0 I A B) : QL I0 (st_w I 172 A.length x) (A ++ x :: B) := by
  refine ⟨fun a f ha => by rw [st_w_e, if_neg (fun z => ha z.1), h.1 a f ha], fun j hj => ?_⟩
  rw [List.length_append, List.length_cons] at hj
  rw [st_w_e, gd_app]
  by_cases c : j = A.length
  · rw [if_pos ⟨rfl, c⟩, if_neg (by omega), c, Nat.sub_self]
    rfl
  · rw [if_neg (fun z => c z.2)]
    by_cases c2 : j < A.length
    · rw [if_pos c2]
      exact h.2.1 j c2
    · obtain ⟨q, rfl⟩ : ∃ q, j = A.length + 1 + q := ⟨j - A.length - 1, by omega⟩
      rw [if_neg c2, show A.length + 1 + q - A.length = q + 1 by omega]
      exact h.2.2 q (by omega)
theorem QH_add {I0 I : st_I} {A B : List Int32} (x : Int32) (h : QH I0 I A B) : QH I0 (st_w I 172 (A.length + 1 + B.length) x) A (B ++ [x]) := by
  refine ⟨fun a f ha => by rw [st_w_e, if_neg (fun z => ha z.1), h.1 a f ha], fun j hj => by rw [st_w_e, if_neg (by omega)]; exact h.2.1 j hj, fun j hj => ?_⟩
  rw [List.length_append] at hj
  have hj' : j < B.length + 1 := hj
  rw [st_w_e, gd_app]
  by_cases c : j = B.length
  · rw [if_pos ⟨rfl, by omega⟩, if_neg (by omega), c, Nat.sub_self]
    rfl
  · rw [if_neg (by omega), if_pos (by omega)]
    exact h.2.2 j (by omega)
theorem ocs_255 (w : Int64) : ocs w 255 8 0 = [Int32.ofNat (obn w 0), Int32.ofNat (obn w 1), Int32.ofNat (obn w 2), Int32.ofNat (obn w 3), Int32.ofNat (obn w 4), Int32.ofNat (obn w 5), Int32.ofNat (obn w 6), Int32.ofNat (obn w 7)] := rfl
theorem ocs_g (w : Int64) : ∀ j, j < 8 → (ocs w 255 8 0).getD j 0 = Int32.ofNat (obn w j) := by
  rw [ocs_255]
  intro j hj
  obtain rfl | rfl | rfl | rfl | rfl | rfl | rfl | rfl : j = 0 ∨ j = 1 ∨ j = 2 ∨ j = 3 ∨ j = 4 ∨ j = 5 ∨ j = 6 ∨ j = 7 := by omega
  all_goals rfl
theorem QH_whole {I0 I : st_I} {A B : List Int32} (w : Int64) (h : QH I0 I A B) : QH I0 (whI I (A.length + 1 + B.length) w) A (B ++ ocs w 255 8 0) := by
  have hl : (ocs w 255 8 0).length = 8 := by rw [ocs_255]; rfl
  unfold whI whn
  refine ⟨fun a f ha => by dsimp only; rw [if_neg (fun z => ha z.1), h.1 a f ha], fun j hj => by dsimp only; rw [if_neg (by omega)]; exact h.2.1 j hj, fun j hj => ?_⟩
  rw [List.length_append, hl] at hj
  dsimp only
  rw [gd_app]
  by_cases c : j < B.length
  · rw [if_neg (by omega), if_pos c]
    exact h.2.2 j c
  · rw [if_pos (by omega), if_neg c, ocs_g w _ (by omega), show A.length + 1 + j - (A.length + 1 + B.length) = j - B.length by omega]
theorem ocs_le (w : Int64) (t : Nat) : ∀ m k, (ocs w t m k).length ≤ m := by
  intro m
  induction m with
  | zero => intro k; exact Nat.le_refl 0
  | succ m ih =>
    intro k
    have := ih (k + 1)
    unfold ocs
    split
    · omega
    · rw [List.length_cons]; omega
theorem fls_len (G : Nat → Int64) : ∀ u i, (fls G u i).length = 8 * u := by
  intro u
  induction u with
  | zero => intro i; rfl
  | succ u ih =>
    intro i
    show (ocs (G i) 255 8 0 ++ fls G u (i + 1)).length = _
    rw [List.length_append, ih, ocs_255]
    show 8 + 8 * u = 8 * (u + 1)
    omega
section MPK
variable {X : pm_X} {d : Nat} {J : st_J} {n : Nat} {I0 : st_I}
theorem mp_42 (hn : n ≤ 259) {A : List Int32} (hA : A.length ≤ 2580) {w : Int64} {i : Nat} : ∀ m k, k + m = 8 → ∀ (I : st_I) (B : List Int32), QH I0 I A B → B.length ≤ k → ∃ I', QH I0 I' A (B ++ ocs w (tgn w) m k) ∧ ∀ r, Gx X (d + 1) (kc_M_pack, []) (42, [some (.ref 166), some (.int (Int32.ofNat n)), some (.int (Int32.ofNat (A.length + 1 + (B ++ ocs w (tgn w) m k).length))), some (.int (Int32.ofNat i)), some (.long w), none, some (.int (Int32.ofNat (tgn w))), some (.int (Int32.ofNat A.length)), some (.int 0), some (.int (Int32.ofNat 8))], [], st_h I' J, 0, 0) r → Gx X (d + 1) (kc_M_pack, []) (42, [some (.ref 166), some (.int (Int32.ofNat n)), some (.int (Int32.ofNat (A.length + 1 + B.length))), some (.int (Int32.ofNat i)), some (.long w), none, some (.int (Int32.ofNat (tgk w k))), some (.int (Int32.ofNat A.length)), some (.int 0), some (.int (Int32.ofNat k))], [], st_h I J, 0, 0) r := by
  intro m
  induction m with
  | zero =>
    intro k hk I B hB hl
    obtain rfl : k = 8 := hk
    refine ⟨I, by rw [show ocs w (tgn w) 0 8 = [] from rfl, List.append_nil]; exact hB, fun r hr => ?_⟩
    rw [show ocs w (tgn w) 0 8 = [] from rfl, List.append_nil] at hr
    exact hr
  | succ m ih =>
    intro k hk I B hB hl
    have hb := tg_b w k (by omega)
    have e : ((ju w ((8 : Int32) * Int32.ofNat k)) &&& (255 : Int64) = 0) ↔ obn w k = 0 := by
      rw [wn_0]
      unfold wn
      rw [bn_and64 (n := 8) 255 rfl]
      exact Iff.rfl
    have k8 : Int32.ofNat k < (8 : Int32) := by rw [show (8 : Int32) = Int32.ofNat 8 from rfl, oi_lt (by omega) (by omega)]; omega
    by_cases c : obn w k = 0
    · have e1 : ocs w (tgn w) (m + 1) k = ocs w (tgn w) m (k + 1) := by
        conv => lhs; unfold ocs
        rw [if_pos (hb.mpr c)]
      have e2 : tgk w (k + 1) = tgk w k := by show tgk w k + _ = _; rw [if_pos c]; rfl
      obtain ⟨I', h1, h2⟩ := ih (k + 1) (by omega) I B hB (by omega)
      rw [e1]
      refine ⟨I', h1, fun r hr => ib_M_pack_42 r (ifp k8 (ifp (e.mpr c) ?_))⟩
      rw [oi_a, ← e2]
      exact h2 r hr
    · have e1 : ocs w (tgn w) (m + 1) k = Int32.ofNat (obn w k) :: ocs w (tgn w) m (k + 1) := by
        conv => lhs; unfold ocs
        rw [if_neg (fun z => c (hb.mp z))]
      have e2 : tgk w (k + 1) = tgk w k + 2 ^ k := by show tgk w k + _ = _; rw [if_neg c]
      have ht := tgk_lt w k
      have hp : 2 ^ k ≤ 128 := Nat.pow_le_pow_right (n := 2) (by omega) (show k ≤ 7 by omega)
      obtain ⟨I', h1, h2⟩ := ih (k + 1) (by omega) _ _ (QH_add (Int32.ofNat (obn w k)) hB) (by rw [List.length_append]; show B.length + 1 ≤ k + 1; omega)
      rw [List.append_assoc] at h1 h2
      have e3 : (B ++ [Int32.ofNat (obn w k)]).length = B.length + 1 := by rw [List.length_append]; rfl
      rw [e1]
      refine ⟨I', h1, fun r hr => ib_M_pack_42 r (ifp k8 (ifn (fun z => c (e.mp z)) ⟨oi_in (by omega) (by omega), ?_⟩))⟩
      have := h2 r hr
      rw [e3, e2] at this
      rw [oi_a, oi_a, tg_or ⟨k, by omega⟩ ⟨tgk w k, by omega⟩ ht, oi_n (by omega), ob_m]
      exact this
theorem mp_z (hn : n ≤ 259) {v2 v7 : Int32} {w : Int64} {p : Nat} (hp : p < 2600) {I : st_I} : ∀ m u i, u + m = 255 → i ≤ n → ∀ r, Gx X (d + 1) (kc_M_pack, []) (14, [some (.ref 166), some (.int (Int32.ofNat n)), some (.int v2), some (.int (Int32.ofNat (i + zrn (fun j => decide (J 169 j = 0)) n m i))), some (.long w), none, some (.int 0), some (.int v7), some (.int (Int32.ofNat (u + zrn (fun j => decide (J 169 j = 0)) n m i))), some (.int (Int32.ofNat p))], [], st_h (st_w I 172 p (Int32.ofNat (u + zrn (fun j => decide (J 169 j = 0)) n m i))) J, 0, 0) r → Gx X (d + 1) (kc_M_pack, []) (137, [some (.ref 166), some (.int (Int32.ofNat n)), some (.int v2), some (.int (Int32.ofNat i)), some (.long w), none, some (.int 0), some (.int v7), some (.int (Int32.ofNat u)), some (.int (Int32.ofNat p))], [], st_h I J, 0, 0) r := by
  intro m
  induction m with
  | zero =>
    intro u i hu hi r hr
    have hp2 := oi_in hp (show 2600 ≤ 2 ^ 31 by omega)
    have u255 : ¬ Int32.ofNat u < (255 : Int32) := by rw [show (255 : Int32) = Int32.ofNat 255 from rfl, oi_lt (by omega) (by omega)]; omega
    refine ib_M_pack_137 r ?_
    rw [oi_n (i := p) (by omega)]
    by_cases c : i < n
    · exact ifp ((oi_lt (by omega) (by omega)).mpr c) (ifn u255 ⟨hp2, hr⟩)
    · exact ifn (fun z => c ((oi_lt (by omega) (by omega)).mp z)) ⟨hp2, hr⟩
  | succ m ih =>
    intro u i hu hi r hr
    have hp2 := oi_in hp (show 2600 ≤ 2 ^ 31 by omega)
    have u255 : Int32.ofNat u < (255 : Int32) := by rw [show (255 : Int32) = Int32.ofNat 255 from rfl, oi_lt (by omega) (by omega)]; omega
    refine ib_M_pack_137 r ?_
    rw [oi_n (i := p) (by omega), oi_n (i := i) (by omega), oi_a, oi_a]
    unfold zrn at hr
    by_cases c : i < n
    · refine ifp ((oi_lt (by omega) (by omega)).mpr c) (ifp u255 (ifp rfl ⟨oi_in (by omega) (by omega), ?_⟩))
      by_cases c2 : J 169 i = 0
      · rw [if_pos ⟨c, decide_eq_true c2⟩] at hr
        refine ifp c2 (ih (u + 1) (i + 1) (by omega) (by omega) r ?_)
        rw [show i + 1 + zrn (fun j => decide (J 169 j = 0)) n m (i + 1) = i + (zrn (fun j => decide (J 169 j = 0)) n m (i + 1) + 1) by omega, show u + 1 + zrn (fun j => decide (J 169 j = 0)) n m (i + 1) = u + (zrn (fun j => decide (J 169 j = 0)) n m (i + 1) + 1) by omega]
        exact hr
      · rw [if_neg (fun z => c2 (of_decide_eq_true z.2))] at hr
        exact ifn c2 ⟨hp2, hr⟩
    · rw [if_neg (fun z => c z.1)] at hr
      exact ifn (fun z => c ((oi_lt (by omega) (by omega)).mp z)) ⟨hp2, hr⟩
theorem mp_f (hn : n ≤ 259) {v7 : Int32} {w : Int64} {A : List Int32} : ∀ m u i, u + m = 255 → i ≤ n → ∀ (I : st_I) (C : List Int32), QH I0 I A C → A.length + 1 + C.length ≤ 10 * i → ∃ I', QH I0 I' A (C ++ fls (J 169) (zrn (fun j => decide (zn (J 169 j) < 2)) n m i) i) ∧ ∀ r, Gx X (d + 1) (kc_M_pack, []) (14, [some (.ref 166), some (.int (Int32.ofNat n)), some (.int (Int32.ofNat (A.length + 1 + (C ++ fls (J 169) (zrn (fun j => decide (zn (J 169 j) < 2)) n m i) i).length))), some (.int (Int32.ofNat (i + zrn (fun j => decide (zn (J 169 j) < 2)) n m i))), some (.long w), none, some (.int 255), some (.int v7), some (.int (Int32.ofNat (u + zrn (fun j => decide (zn (J 169 j) < 2)) n m i))), some (.int (Int32.ofNat A.length))], [], st_h (st_w I' 172 A.length (Int32.ofNat (u + zrn (fun j => decide (zn (J 169 j) < 2)) n m i))) J, 0, 0) r → Gx X (d + 1) (kc_M_pack, []) (137, [some (.ref 166), some (.int (Int32.ofNat n)), some (.int (Int32.ofNat (A.length + 1 + C.length))), some (.int (Int32.ofNat i)), some (.long w), none, some (.int 255), some (.int v7), some (.int (Int32.ofNat u)), some (.int (Int32.ofNat A.length))], [], st_h I J, 0, 0) r := by
  intro m
  induction m with
  | zero =>
    intro u i hu hi I C hC hl
    have hp2 := oi_in (show A.length < 2600 by omega) (show 2600 ≤ 2 ^ 31 by omega)
    have u255 : ¬ Int32.ofNat u < (255 : Int32) := by rw [show (255 : Int32) = Int32.ofNat 255 from rfl, oi_lt (by omega) (by omega)]; omega
    rw [show fls (J 169) (zrn (fun j => decide (zn (J 169 j) < 2)) n 0 i) i = [] from rfl, List.append_nil]
    refine ⟨I, hC, fun r hr => ib_M_pack_137 r ?_⟩
    rw [oi_n (i := A.length) (by omega)]
    by_cases c : i < n
    · exact ifp ((oi_lt (by omega) (by omega)).mpr c) (ifn u255 ⟨hp2, hr⟩)
    · exact ifn (fun z => c ((oi_lt (by omega) (by omega)).mp z)) ⟨hp2, hr⟩
  | succ m ih =>
    intro u i hu hi I C hC hl
    have hp2 := oi_in (show A.length < 2600 by omega) (show 2600 ≤ 2 ^ 31 by omega)
    have u255 : Int32.ofNat u < (255 : Int32) := by rw [show (255 : Int32) = Int32.ofNat 255 from rfl, oi_lt (by omega) (by omega)]; omega
    unfold zrn
    by_cases c : i < n
    · by_cases c2 : zn (J 169 i) < 2
      · rw [if_pos ⟨c, decide_eq_true c2⟩]
        have hl8 : (ocs (J 169 i) 255 8 0).length = 8 := by rw [ocs_255]; rfl
        obtain ⟨I', h1, h2⟩ := ih (u + 1) (i + 1) (by omega) (by omega) _ _ (QH_whole (J 169 i) hC) (by rw [List.length_append, hl8]; omega)
        have ef : ∀ z, fls (J 169) (z + 1) i = ocs (J 169 i) 255 8 0 ++ fls (J 169) z (i + 1) := fun _ => rfl
        rw [ef, ← List.append_assoc]
        refine ⟨I', h1, fun r hr => ib_M_pack_137 r ?_⟩
        rw [oi_n (i := A.length) (by omega), oi_n (i := i) (by omega), oi_a, oi_a, oi_n (i := A.length + 1 + C.length) (by omega)]
        refine ifp ((oi_lt (by omega) (by omega)).mpr c) (ifp u255 (ifn (by decide) ⟨oi_in (by omega) (by omega), ifp (by rw [show (2 : Int32) = Int32.ofNat 2 from rfl, oi_lt (by omega) (by omega)]; exact c2) (ifp rfl ⟨⟨by rw [oi_i (by omega)]; omega, by rw [oi_i (by omega)]; omega⟩, ?_⟩)⟩))
        have h3 := h2 r (by
          rw [show i + 1 + zrn (fun j => decide (zn (J 169 j) < 2)) n m (i + 1) = i + (zrn (fun j => decide (zn (J 169 j) < 2)) n m (i + 1) + 1) by omega, show u + 1 + zrn (fun j => decide (zn (J 169 j) < 2)) n m (i + 1) = u + (zrn (fun j => decide (zn (J 169 j) < 2)) n m (i + 1) + 1) by omega]
          exact hr)
        rw [List.length_append, hl8] at h3
        rw [show Int32.ofNat (A.length + 1 + C.length) + (8 : Int32) = Int32.ofNat (A.length + 1 + (C.length + 8)) from oi_p _ 8]
        exact h3
      · rw [if_neg (fun z => c2 (of_decide_eq_true z.2)), show fls (J 169) 0 i = [] from rfl, List.append_nil]
        refine ⟨I, hC, fun r hr => ib_M_pack_137 r ?_⟩
        have h8 := pc_zn (J 169 i)
        rw [oi_n (i := A.length) (by omega), oi_n (i := i) (by omega)]
        exact ifp ((oi_lt (by omega) (by omega)).mpr c) (ifp u255 (ifn (by decide) ⟨oi_in (by omega) (by omega), ifn (by rw [show (2 : Int32) = Int32.ofNat 2 from rfl, oi_lt (by omega) (by omega)]; exact c2) ⟨hp2, hr⟩⟩))
    · rw [if_neg (fun z => c z.1), show fls (J 169) 0 i = [] from rfl, List.append_nil]
      refine ⟨I, hC, fun r hr => ib_M_pack_137 r ?_⟩
      rw [oi_n (i := A.length) (by omega)]
      exact ifn (fun z => c ((oi_lt (by omega) (by omega)).mp z)) ⟨hp2, hr⟩
end MPK
