/-! .. a pointer followed, a thing laid down, then what its pointers lead to -/
def MS (W : Nat → Nat → Int64) (U : Nat → Nat) (S : Nat) (I : st_I) (J : st_J) : Prop := I 1 2 = Int32.ofNat S ∧ (1 ≤ S ∧ S ≤ 4) ∧ (∀ x, x < 4 → I 7 x = Int32.ofNat (U x) ∧ U x ≤ 64) ∧ (∀ s, s < 4 → J (3 + s) = W s)
theorem MS_f {W : Nat → Nat → Int64} {U : Nat → Nat} {S D : Nat} {I I' : st_I} {J J' : st_J} (h : MS W U S I J) (hf : FR D I I' J J') : MS W U S I' J' := ⟨(hf.1 1 2 (by omega) (by omega) (by omega)).trans h.1, h.2.1, fun x hx => ⟨(hf.1 7 x (by omega) (by omega) (by omega)).trans (h.2.2.1 x hx).1, (h.2.2.1 x hx).2⟩, fun s hs => (hf.2 (3 + s) (by omega) (by omega)).trans (h.2.2.2 s hs)⟩
theorem cw_s (J : st_J) {s : Nat} (h : s < 4) : cw J s = J (3 + s) := by
  obtain rfl | rfl | rfl | rfl : s = 0 ∨ s = 1 ∨ s = 2 ∨ s = 3 := by omega
  all_goals rfl
theorem isL_15 {D : Nat} (h : D ≤ 64) : st_isL (15 + 2 * D) = true := by
  unfold st_isL
  rw [Nat.ble_eq_true_of_le (show 15 ≤ 15 + 2 * D by omega), Nat.ble_eq_true_of_le (show 15 + 2 * D ≤ 144 by omega)]
  have e : (15 + 2 * D) % 2 = 1 := by omega
  rw [e]
  rfl
section CPY
variable {X : pm_X} {W : Nat → Nat → Int64} {U : Nat → Nat} {S : Nat}
theorem lead_c (hX : X 1 = (8, eb)) {d : Nat} {I : st_I} {J : st_J} {g : CR} {s k D : Nat} (hM : MS W U S I J) (hC : CS I J g) (hs : s < 4) (hk : k < 64) (hD : D ≤ 64) :
  (ld W U S g.1 s k D = none → ∃ K M, (∀ a f, ¬ (a = 8 ∧ f ≠ 0) → K a f = I a f) ∧ (∀ a, a ≠ 8 → M a = J a) ∧ Ex X (d + 4) 30 [.ref 8, .ref 1, .ref (15 + 2 * D + 1), .int (Int32.ofNat s), .int (Int32.ofNat k), .int (Int32.ofNat D)] (st_h I J) (.inr 2, st_h K M, 1, 6)) ∧
  (∀ v, ld W U S g.1 s k D = some v → ∃ K M, (∀ a f, a ≠ 8 → a ≠ 15 + 2 * D + 1 → K a f = I a f) ∧ (∀ f, f < 9 → K (15 + 2 * D + 1) f = spv v.1 f) ∧ K 8 0 = Int32.ofNat (g.1 - v.2) ∧ (∀ a, a ≠ 8 → M a = J a) ∧ Ex X (d + 4) 30 [.ref 8, .ref 1, .ref (15 + 2 * D + 1), .int (Int32.ofNat s), .int (Int32.ofNat k), .int (Int32.ofNat D)] (st_h I J) (.inl none, st_h K M, 0, 0)) := by
  obtain ⟨m1, m2, m3, m4⟩ := hM
  obtain ⟨⟨c1, c2⟩, c3, c4⟩ := hC
  have hw : wfm I := ⟨by rw [m1, oi_i (by omega)]; omega, fun x hx => by have := m3 x hx; rw [this.1, oi_i (by omega)]; omega, by rw [c1, oi_i (by omega)]; omega⟩
  have uU : ∀ x, x < 4 → un (I 7) x = U x ∧ U x ≤ 64 := fun x hx => by
    have := m3 x hx
    unfold un
    rw [this.1, oi_n (by omega)]
    exact ⟨rfl, this.2⟩
  have e : ldo I J (Int32.ofNat s) (Int32.ofNat k) (Int32.ofNat D) = ld W U S g.1 s k D := by
    unfold ldo
    rw [m1, c1, oi_n (by omega), oi_n (by omega), oi_n (by omega), oi_n (by omega), oi_n (by omega)]
    exact ld_cg (fun s k hs hk => by rw [cw_s J hs, m4 s hs]) uU (by omega) hs hk
  have gS : st_isS (15 + 2 * D + 1) = true := (st_isL_n (isL_15 hD)).2.2
  have hp : dpk (Int32.ofNat D) := by unfold dpk; rw [oi_i (by omega)]; omega
  refine ⟨fun h => ⟨_, _, ?_, ?_, hc_Re_lead hX gS _ ⟨hw, oi_in hs (by omega), oi_in hk (by omega), hp, by rw [e, h]; exact rfl⟩⟩, fun v h => ⟨_, _, ?_, ?_, ?_, ?_, hc_Re_lead hX gS _ ⟨hw, oi_in hs (by omega), oi_in hk (by omega), hp, by rw [e, h]; exact rfl⟩⟩⟩
  · intro a f h1
    rw [st_w_e, if_neg (by omega), st_w_e, if_neg (by omega)]
  · intro a h1
    rw [st_y_o _ _ _ h1]
  · intro a f h1 h2
    unfold st_sq
    rw [if_neg (fun z => h2 z.1), st_w_e, if_neg (fun z => h1 z.1), st_w_e, if_neg (fun z => h1 z.1), st_w_e, if_neg (fun z => h1 z.1)]
  · intro f hf
    unfold st_sq
    rw [if_pos ⟨rfl, hf⟩]
  · unfold st_sq
    rw [if_neg (by omega), st_w_at, c1, oi_n (by omega)]
  · intro a h1
    rw [st_y_o _ _ _ h1]
theorem lay_c (hX : X 1 = (8, eb)) {d : Nat} {I : st_I} {J : st_J} {l n t : Nat} {v : V8} (gl : st_isL l = true) (hv : vk U (v98 v)) (hU : ∀ x, x < 4 → U x ≤ 64) (h0 : v.1 ≠ 0) (h9 : ∀ f, f < 9 → I (l + 1) f = spv v f) (hn : n ≤ 64) (en : I 12 1 = Int32.ofNat n) (ht : t < 64) : LYQ l I J (J (3 + v.2.2.1)) v t n (Ex X (d + 4) 154 [.ref 12, .ref (3 + v.2.2.1), .ref l, .int (Int32.ofNat t)] (st_h I J)) := by
  obtain ⟨kd, dp, sg, pl, db, pt, ct, cd⟩ := v
  have hsg : sg < 4 := hv.2.1
  have hU' := hU sg hsg
  have hc := hv.2.2.2.2
  dsimp only [v98] at hc h0
  have e0 : I (l + 1) 0 = Int32.ofNat kd := h9 0 (by omega)
  have e3 : I (l + 1) 3 = Int32.ofNat pl := h9 3 (by omega)
  have e5 : I (l + 1) 5 = Int32.ofNat db := h9 5 (by omega)
  have e6 : I (l + 1) 6 = Int32.ofNat pt := h9 6 (by omega)
  have e7 : I (l + 1) 7 = Int32.ofNat ct := h9 7 (by omega)
  have e8 : I (l + 1) 8 = Int32.ofNat cd := h9 8 (by omega)
  have gw_ : st_aJ (3 + sg) = some 64 := by
    obtain rfl | rfl | rfl | rfl : sg = 0 ∨ sg = 1 ∨ sg = 2 ∨ sg = 3 := by omega
    all_goals rfl
  show LYQ l I J (J (3 + sg)) (kd, dp, sg, pl, db, pt, ct, cd) t n (Ex X (d + 4) 154 [.ref 12, .ref (3 + sg), .ref l, .int (Int32.ofNat t)] (st_h I J))
  have tr : ∀ G G' : pm_R → Prop, (∀ r, G r → G' r) → LYQ l I J (J (3 + sg)) (kd, dp, sg, pl, db, pt, ct, cd) t n G → LYQ l I J (J (3 + sg)) (kd, dp, sg, pl, db, pt, ct, cd) t n G' := fun G G' hG h => ⟨fun c => by
    obtain ⟨K, k1, k2⟩ := h.1 c
    exact ⟨K, k1, hG _ k2⟩, fun c => by
    obtain ⟨K, k1, k2, k3, k4, k5⟩ := h.2 c
    exact ⟨K, k1, k2, k3, k4, hG _ k5⟩⟩
  by_cases k1 : kd = 1
  · subst k1
    have hb : pl + db / 64 + pt ≤ 64 := by
      rcases hc with q | q | q
      · omega
      · obtain ⟨q1, q2, q3, q4, q5 | q5⟩ := q
        · omega
        · omega
      · omega
    have z := ly_struct (X := X) (d := d) (I := I) (J := J) (R := J (3 + sg)) (dp := dp) (ct := ct) (cd := cd) gl hsg ⟨e3, e5, e6⟩ rfl hb hn en ht
    refine ⟨fun c => ?_, fun c => ?_⟩
    · obtain ⟨K, k1, k2⟩ := z.1 c
      exact ⟨K, k1, iv_Ca_lay (o := none) (Z := (K, J)) gw_ gl _ (ifp e0 ⟨fun r hr => by rw [show r = _ from hr]; exact k2, rfl⟩)⟩
    · obtain ⟨K, k1, k2, k3, k4, k5⟩ := z.2 c
      exact ⟨K, k1, k2, k3, k4, iv_Ca_lay (o := some (K, _)) (Z := (K, J)) gw_ gl _ (ifp e0 ⟨fun r hr => by rw [show r = _ from hr]; exact k5, rfl⟩)⟩
  · have n0 : ¬ (I (l + 1) 0 = (1 : Int32)) := by
      rw [e0]
      have : kd ≤ 2 := by rcases hc with q | q | q <;> omega
      exact fun q => k1 ((oi_eq (b := 1) (by omega) (by omega)).mp q)
    have k2 : kd = 2 := by rcases hc with q | q | q <;> omega
    subst k2
    have cd7 : cd ≤ 7 := by rcases hc with q | q | q <;> omega
    by_cases c7 : cd = 7
    · subst c7
      have hb : db % 64 = 0 ∧ pl + 1 + ct * (db / 64 + pt) ≤ 64 ∧ db ≤ 4194240 ∧ pt ≤ 65535 ∧ ct ≤ 100000 := by
        rcases hc with q | q | q
        · omega
        · omega
        · obtain ⟨q1, q2, q3, q4 | q4 | q4⟩ := q
          · omega
          · omega
          · have e : ct * (db + 64 * pt) = 64 * (ct * (db / 64 + pt)) := by
              rw [show db + 64 * pt = 64 * (db / 64 + pt) by omega, Nat.mul_left_comm]
            omega
      have z := ly_structs (X := X) (d := d) (I := I) (J := J) (R := J (3 + sg)) (dp := dp) gl hsg ⟨e3, e5, e6, e7, e8⟩ rfl hb hn en ht
      refine ⟨fun c => ?_, fun c => ?_⟩
      · obtain ⟨K, k1, k2⟩ := z.1 c
        exact ⟨K, k1, iv_Ca_lay (o := none) (Z := (K, J)) gw_ gl _ (ifn n0 (ifp e8 ⟨fun r hr => by rw [show r = _ from hr]; exact k2, rfl⟩))⟩
      · obtain ⟨K, k1, k2, k3, k4, k5⟩ := z.2 c
        exact ⟨K, k1, k2, k3, k4, iv_Ca_lay (o := some (K, _)) (Z := (K, J)) gw_ gl _ (ifn n0 (ifp e8 ⟨fun r hr => by rw [show r = _ from hr]; exact k5, rfl⟩))⟩
    · have n7 : ¬ (I (l + 1) 8 = (7 : Int32)) := by
        rw [e8]
        exact fun q => c7 ((oi_eq (b := 7) (by omega) (by omega)).mp q)
      by_cases c6 : cd = 6
      · subst c6
        have hb : db = 0 ∧ pt = 1 ∧ pl + ct ≤ 64 := by
          rcases hc with q | q | q
          · omega
          · omega
          · obtain ⟨q1, q2, q3, q4 | q4 | q4⟩ := q
            · omega
            · omega
            · omega
        have z := ly_pointers (X := X) (d := d) (I := I) (J := J) (R := J (3 + sg)) (sg := sg) (dp := dp) gl ⟨e3, e5, e6, e7⟩ hb hn en ht
        refine ⟨fun c => ?_, fun c => ?_⟩
        · obtain ⟨K, k1, k2⟩ := z.1 c
          exact ⟨K, k1, iv_Ca_lay (o := none) (Z := (K, J)) gw_ gl _ (ifn n0 (ifn n7 (ifp e8 ⟨fun r hr => by rw [show r = _ from hr]; exact k2, rfl⟩)))⟩
        · obtain ⟨K, k1, k2, k3, k4, k5⟩ := z.2 c
          exact ⟨K, k1, k2, k3, k4, iv_Ca_lay (o := some (K, _)) (Z := (K, J)) gw_ gl _ (ifn n0 (ifn n7 (ifp e8 ⟨fun r hr => by rw [show r = _ from hr]; exact k5, rfl⟩)))⟩
      · have n6 : ¬ (I (l + 1) 8 = (6 : Int32)) := by
          rw [e8]
          exact fun q => c6 ((oi_eq (b := 6) (by omega) (by omega)).mp q)
        have hb : cd ≤ 5 ∧ ct ≤ 100000 ∧ pl + (ct * ebn cd + 63) / 64 ≤ 64 := by
          rcases hc with q | q | q
          · omega
          · omega
          · obtain ⟨q1, q2, q3, q4 | q4 | q4⟩ := q
            · obtain ⟨q5, q6, q7, q8⟩ := q4
              rw [q6] at q8
              generalize ct * ebn cd = y at *
              omega
            · omega
            · omega
        have z := ly_numbers (d := d) (I := I) (J := J) (R := J (3 + sg)) (dp := dp) (db := db) (pt := pt) hX gl hsg ⟨e3, e7, e8⟩ rfl hb hn en ht
        refine ⟨fun c => ?_, fun c => ?_⟩
        · obtain ⟨K, k1, k2⟩ := z.1 c
          exact ⟨K, k1, iv_Ca_lay (o := none) (Z := (K, J)) gw_ gl _ (ifn n0 (ifn n7 (ifn n6 ⟨fun r hr => by rw [show r = _ from hr]; exact k2, rfl⟩)))⟩
        · obtain ⟨K, k1, k2, k3, k4, k5⟩ := z.2 c
          exact ⟨K, k1, k2, k3, k4, iv_Ca_lay (o := some (K, _)) (Z := (K, J)) gw_ gl _ (ifn n0 (ifn n7 (ifn n6 ⟨fun r hr => by rw [show r = _ from hr]; exact k5, rfl⟩)))⟩
end CPY
