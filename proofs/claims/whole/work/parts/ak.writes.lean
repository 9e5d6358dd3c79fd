/-! .. all of it -/
section WRU
variable {X : pm_X} {d : Nat} {I : st_I} {J : st_J} {B : List IT} {t n sg dp pl db pt ct : Nat} {R F : Nat → Int64}
set_option maxRecDepth 20000 in
theorem wr_structs (hc : ∀ a, 173 ≤ a → a ≤ 182 → I a 16 = mcv (2, dp, sg, pl, db, pt, ct, 7) a) (h10 : I 166 10 = 0) (hsg : sg < 4) (hb : db % 64 = 0 ∧ pl + 1 + ct * (db / 64 + pt) ≤ 64 ∧ db ≤ 4194240 ∧ pt ≤ 65535 ∧ ct ≤ 100000) (hR : ∀ k, k < 64 → J 167 (64 * sg + k) = R k) (hF : ∀ k, k < 64 → J 168 k = F k) (ht : t < 64) (hn : n ≤ 64) (hB : PS I B) (hBl : B.length ≤ n) : WQ B I J R F (2, dp, sg, pl, db, pt, ct, 7) t n (Ex X (d + 2) 235 [.ref 166, .int (Int32.ofNat t), .int (Int32.ofNat n)] (st_h I J)) := by
  have e174 : I 174 16 = Int32.ofNat dp := hc 174 (by omega) (by omega)
  have e175 : I 175 16 = Int32.ofNat sg := hc 175 (by omega) (by omega)
  have e176 : I 176 16 / (64 : Int32) = Int32.ofNat pl := by
    rw [hc 176 (by omega) (by omega)]
    show Int32.ofNat (64 * pl) / 64 = _
    rw [oi_d (by omega), Nat.mul_div_cancel_left _ (by omega)]
  have e179 : I 179 16 = Int32.ofNat ct := hc 179 (by omega) (by omega)
  have e181 : I 181 16 = Int32.ofNat (db / 64) := by
    rw [hc 181 (by omega) (by omega)]
    show (if (2 : Nat) = 2 ∧ (7 : Nat) = 7 then Int32.ofNat (db / 64) else 0) = _
    rw [if_pos ⟨rfl, rfl⟩]
  have e182 : I 182 16 = Int32.ofNat pt := by
    rw [hc 182 (by omega) (by omega)]
    show (if (2 : Nat) = 2 ∧ (7 : Nat) = 7 then Int32.ofNat pt else 0) = _
    rw [if_pos ⟨rfl, rfl⟩]
  obtain ⟨fd, hfd⟩ : ∃ fd, fd = db / 64 := ⟨_, rfl⟩
  obtain ⟨w1, hw1⟩ : ∃ w1, w1 = fd + pt := ⟨_, rfl⟩
  obtain ⟨E, hE⟩ : ∃ E, E = if db + pt = 0 then 0 else ct := ⟨_, rfl⟩
  have hE0 : w1 = 0 → E = 0 := fun z => by rw [hE, if_pos (by omega)]
  have hE1 : w1 ≠ 0 → E = ct := fun z => by rw [hE, if_neg (by omega)]
  obtain ⟨D, hD⟩ : ∃ D, D = mx (fun e => nd R (pl + 1 + e * w1) fd) E := ⟨_, rfl⟩
  obtain ⟨P, hP⟩ : ∃ P, P = mx (fun e => nd R (pl + 1 + e * w1 + fd) pt) E := ⟨_, rfl⟩
  have D1 : D ≤ fd := by rw [hD]; exact mx_le (fun e => nd_le _ _ _) E
  have P1 : P ≤ pt := by rw [hP]; exact mx_le (fun e => nd_le _ _ _) E
  have hDP0 : E = 0 → D = 0 ∧ P = 0 := fun z => by
    rw [hD, hP, z]
    exact ⟨rfl, rfl⟩
  rw [← hfd, ← hw1] at hb
  have w100 : ct = 0 ∨ w1 ≤ 64 := by
    by_cases z : ct = 0
    · exact Or.inl z
    · have h1 : 1 * w1 ≤ ct * w1 := Nat.mul_le_mul_right _ (by omega)
      omega
  have hcE : ct * (D + P) = E * (D + P) := by
    by_cases z : w1 = 0
    · have := hDP0 (hE0 z)
      rw [this.1, this.2]
      rfl
    · rw [hE1 z]
  have hDP : D + P ≤ 64 := by
    by_cases z : E = 0
    · have := hDP0 z; omega
    · have : w1 ≠ 0 := fun q => z (hE0 q)
      have : E = ct := hE1 this
      omega
  obtain ⟨H, hH⟩ : ∃ H, H = E * (D + P) := ⟨_, rfl⟩
  have H64 : H ≤ 64 := by
    by_cases z : w1 = 0
    · have := hDP0 (hE0 z)
      rw [hH, this.1, this.2]
      omega
    · have h1 : ct * (D + P) ≤ ct * w1 := Nat.mul_le_mul_left _ (by omega)
      rw [hcE, ← hH] at h1
      omega
  have ely : lyp R (2, dp, sg, pl, db, pt, ct, 7) n = (E, pl + 1, fd, pt, n + 1, D, P) := by
    rw [hD, hP, hE, hw1, hfd]
    rfl
  have esz : lyn R (2, dp, sg, pl, db, pt, ct, 7) n = H + 1 := by
    show (lyp R (2, dp, sg, pl, db, pt, ct, 7) n).1 * ((lyp R (2, dp, sg, pl, db, pt, ct, 7) n).2.2.2.2.2.1 + (lyp R (2, dp, sg, pl, db, pt, ct, 7) n).2.2.2.2.2.2) + 1 = _
    rw [ely, hH]
  obtain ⟨O, hO⟩ : ∃ O : Int32, O = Int32.ofNat n - Int32.ofNat t - 1 := ⟨_, rfl⟩
  obtain ⟨F2, hF2⟩ : ∃ F2, F2 = fset (fset F t (lptr 7 H O)) n (sptr D P (Int32.ofNat ct)) := ⟨_, rfl⟩
  have elF : lyF R F (2, dp, sg, pl, db, pt, ct, 7) t n = fcd R F2 (pl + 1) w1 (n + 1) (D + P) D E := by
    unfold lyF
    dsimp only
    rw [if_neg (show ¬ (2 : Nat) = 1 by omega), if_pos (show (7 : Nat) = 7 from rfl), ely, hF2, hH, hO, hw1, hfd]
  have eml : (Int32.toInt64 (Int32.ofNat ct)) * (Int32.toInt64 (Int32.ofNat D + Int32.ofNat P)) = Int32.toInt64 (Int32.ofNat H) := by
    rw [oi_p, i64_eq, jm2 ((tl _).trans (oi_i (by omega))) ((tl _).trans (oi_i (by omega))) (by rw [← Int.natCast_mul, hcE, ← hH]; omega) (by rw [← Int.natCast_mul, hcE, ← hH]; omega), tl, oi_i (by omega), ← Int.natCast_mul, hcE, ← hH]
  have elt : (((64 : Int64) < ((Int32.toInt64 (Int32.ofNat n)) + Int32.toInt64 (Int32.ofNat H)) + (1 : Int64))) ↔ 64 < n + (H + 1) := by
    rw [i64_lt, ja2 (ja2 ((tl _).trans (oi_i (by omega))) ((tl _).trans (oi_i (by omega))) (by omega) (by omega)) (show (1 : Int64).toInt = 1 from rfl) (by omega) (by omega), show (64 : Int64).toInt = 64 from rfl]
    omega
  have elp : ((30064771073 : Int64) ||| (jl (Int32.toInt64 (Int32.ofNat H)) (35 : Int32))) ||| (jl ((Int32.toInt64 O) &&& (1073741823 : Int64)) (2 : Int32)) = lptr 7 H O := by
    rw [show (30064771073 : Int64) = (1 : Int64) ||| (jl (Int32.toInt64 (Int32.ofNat 7)) (32 : Int32)) by decide]
    rfl
  -- the end of the first loop
  have tail : ∀ r u12, (if 64 < n + (H + 1) then r = (.inl (some (.int (Int32.ofNat n))), st_h (st_w I 166 10 2) (st_y J 168 t (lptr 7 H O)), 0, 0) else Gx X (d + 1) (kc_M_writesStructs, []) (251, [some (.ref 166), some (.int (Int32.ofNat t)), some (.int (Int32.ofNat n)), some (.int (Int32.ofNat sg)), some (.int (Int32.ofNat (pl + 1))), some (.int (Int32.ofNat ct)), some (.int (Int32.ofNat D)), some (.int (Int32.ofNat P)), some (.int (Int32.ofNat w1)), some (.long (Int32.toInt64 (Int32.ofNat H))), none, some (.int (Int32.ofNat 0)), u12], [], st_h I (st_y (st_y J 168 t (lptr 7 H O)) 168 n (sptr D P (Int32.ofNat ct))), 0, 0) r) → ((pm_in (Int32.ofNat t) 64) = true ∧ (if (64 : Int64) < (((Int32.toInt64 (Int32.ofNat n)) + ((Int32.toInt64 (Int32.ofNat ct)) * (Int32.toInt64 (Int32.ofNat D + Int32.ofNat P)))) + (1 : Int64)) then (if (I 166 10) = (0 : Int32) then r = (.inl (some (.int (Int32.ofNat n))), st_h (st_w I 166 10 (2 : Int32)) (st_y J 168 (Int32.toNatClampNeg (Int32.ofNat t)) (((30064771073 : Int64) ||| (jl ((Int32.toInt64 (Int32.ofNat ct)) * (Int32.toInt64 (Int32.ofNat D + Int32.ofNat P))) (35 : Int32))) ||| (jl ((Int32.toInt64 ((Int32.ofNat n - Int32.ofNat t) - (1 : Int32))) &&& (1073741823 : Int64)) (2 : Int32)))), 0, 0) else r = (.inl (some (.int (Int32.ofNat n))), st_h I (st_y J 168 (Int32.toNatClampNeg (Int32.ofNat t)) (((30064771073 : Int64) ||| (jl ((Int32.toInt64 (Int32.ofNat ct)) * (Int32.toInt64 (Int32.ofNat D + Int32.ofNat P))) (35 : Int32))) ||| (jl ((Int32.toInt64 ((Int32.ofNat n - Int32.ofNat t) - (1 : Int32))) &&& (1073741823 : Int64)) (2 : Int32)))), 0, 0)) else (if (I 166 10) = (0 : Int32) then ((pm_in (Int32.ofNat n) 64) = true ∧ Gx X (d + 1) (kc_M_writesStructs, []) (251, [some (.ref 166), some (.int (Int32.ofNat t)), some (.int (Int32.ofNat n)), some (.int (Int32.ofNat sg)), some (.int (Int32.ofNat (pl + 1))), some (.int (Int32.ofNat ct)), some (.int (Int32.ofNat D)), some (.int (Int32.ofNat P)), some (.int (Int32.ofNat w1)), some (.long ((Int32.toInt64 (Int32.ofNat ct)) * (Int32.toInt64 (Int32.ofNat D + Int32.ofNat P)))), none, some (.int (0 : Int32)), u12], [], st_h I (st_y (st_y J 168 (Int32.toNatClampNeg (Int32.ofNat t)) (((30064771073 : Int64) ||| (jl ((Int32.toInt64 (Int32.ofNat ct)) * (Int32.toInt64 (Int32.ofNat D + Int32.ofNat P))) (35 : Int32))) ||| (jl ((Int32.toInt64 ((Int32.ofNat n - Int32.ofNat t) - (1 : Int32))) &&& (1073741823 : Int64)) (2 : Int32)))) 168 (Int32.toNatClampNeg (Int32.ofNat n)) (((jl (Int32.toInt64 (Int32.ofNat ct)) (2 : Int32)) ||| (jl (Int32.toInt64 (Int32.ofNat D)) (32 : Int32))) ||| (jl (Int32.toInt64 (Int32.ofNat P)) (48 : Int32)))), 0, 0) r) else r = (.inl (some (.int (Int32.ofNat n))), st_h I (st_y J 168 (Int32.toNatClampNeg (Int32.ofNat t)) (((30064771073 : Int64) ||| (jl ((Int32.toInt64 (Int32.ofNat ct)) * (Int32.toInt64 (Int32.ofNat D + Int32.ofNat P))) (35 : Int32))) ||| (jl ((Int32.toInt64 ((Int32.ofNat n - Int32.ofNat t) - (1 : Int32))) &&& (1073741823 : Int64)) (2 : Int32)))), 0, 0)))) := fun r u12 h => by
    rw [eml, ← hO, elp, sp_t (by omega), oi_n (i := t) (by omega), oi_n (i := n) (by omega)]
    refine ⟨oi_in ht (by omega), ?_⟩
    by_cases c : 64 < n + (H + 1)
    · rw [if_pos c] at h
      exact ifp (elt.mpr c) (ifp h10 h)
    · rw [if_neg c] at h
      exact ifn (fun z => c (elt.mp z)) (ifp h10 ⟨oi_in (by omega) (by omega), h⟩)
  have eW : (I 181 16) + (I 182 16) = Int32.ofNat w1 := by rw [e181, e182, oi_p, hw1, hfd]
  have eA : (I 176 16 / (64 : Int32)) + (1 : Int32) = Int32.ofNat (pl + 1) := by rw [e176, oi_a]
  -- the first loop
  have head : ∀ r, ((if 64 < n + (H + 1) then r = (.inl (some (.int (Int32.ofNat n))), st_h (st_w I 166 10 2) (st_y J 168 t (lptr 7 H O)), 0, 0) else Gx X (d + 1) (kc_M_writesStructs, []) (251, [some (.ref 166), some (.int (Int32.ofNat t)), some (.int (Int32.ofNat n)), some (.int (Int32.ofNat sg)), some (.int (Int32.ofNat (pl + 1))), some (.int (Int32.ofNat ct)), some (.int (Int32.ofNat D)), some (.int (Int32.ofNat P)), some (.int (Int32.ofNat w1)), some (.long (Int32.toInt64 (Int32.ofNat H))), none, some (.int (Int32.ofNat 0)), none], [], st_h I (st_y (st_y J 168 t (lptr 7 H O)) 168 n (sptr D P (Int32.ofNat ct))), 0, 0) r)) → Ex X (d + 2) 235 [.ref 166, .int (Int32.ofNat t), .int (Int32.ofNat n)] (st_h I J) r := fun r h => by
    refine ie_M_writesStructs _ ?_
    rw [e175, eA, e179, eW]
    by_cases z : w1 = 0
    · have z0 := hDP0 (hE0 z)
      have tl_ := tail r none h
      rw [z0.1, z0.2] at tl_
      refine ib_M_writesStructs_57 _ ?_
      by_cases c : 0 < ct
      · refine ifp (by rw [show (0 : Int32) = Int32.ofNat 0 from rfl, oi_lt (by omega) (by omega)]; exact c) (ifn (by rw [z]; decide) ?_)
        exact tl_
      · refine ifn (by rw [show (0 : Int32) = Int32.ofNat 0 from rfl, oi_lt (by omega) (by omega)]; exact c) ?_
        exact tl_
    · have hEc := hE1 z
      have key : ∀ m e, e + m = ct → ∀ u10 u11, Gx X (d + 1) (kc_M_writesStructs, []) (57, [some (.ref 166), some (.int (Int32.ofNat t)), some (.int (Int32.ofNat n)), some (.int (Int32.ofNat sg)), some (.int (Int32.ofNat (pl + 1))), some (.int (Int32.ofNat ct)), some (.int (Int32.ofNat (mx (fun e => nd R (pl + 1 + e * w1) fd) e))), some (.int (Int32.ofNat (mx (fun e => nd R (pl + 1 + e * w1 + fd) pt) e))), some (.int (Int32.ofNat w1)), some (.int (Int32.ofNat e)), u10, u11, none], [], st_h I J, 0, 0) r := by
        intro m
        induction m with
        | zero =>
          intro e he u10 u11
          obtain rfl : e = ct := he
          refine ib_M_writesStructs_57 _ (ifn (by rw [oi_lt (by omega) (by omega)]; omega) ?_)
          rw [← hEc, ← hD, ← hP, hEc]
          exact tail r none h
        | succ m ih =>
          intro e he u10 u11
          have e1 : (e + 1) * w1 ≤ ct * w1 := Nat.mul_le_mul_right _ (by omega)
          rw [Nat.succ_mul] at e1
          have n1 := nd_le R (pl + 1 + e * w1) fd
          have n2 := nd_le R (pl + 1 + e * w1 + fd) pt
          have m1 : mx (fun e => nd R (pl + 1 + e * w1) fd) e ≤ fd := mx_le (fun e => nd_le _ _ _) e
          have m2 : mx (fun e => nd R (pl + 1 + e * w1 + fd) pt) e ≤ pt := mx_le (fun e => nd_le _ _ _) e
          have q1 : nd (rwM J sg) (pl + 1 + e * w1) fd = nd R (pl + 1 + e * w1) fd := nd_cg _ (fun k hk => hR k (by omega))
          have q2 : nd (rwM J sg) (pl + 1 + e * w1 + fd) pt = nd R (pl + 1 + e * w1 + fd) pt := nd_cg _ (fun k hk => hR k (by omega))
          have z1 := ih (e + 1) (by omega)
          unfold mx at z1
          refine ib_M_writesStructs_57 _ (ifp (by rw [oi_lt (by omega) (by omega)]; omega) (ifp (by rw [show (0 : Int32) = Int32.ofNat 0 from rfl, oi_lt (by omega) (by omega)]; omega) ?_))
          rw [e181, e182, ← hfd, oi_mu, oi_p (pl + 1) (e * w1), oi_p (pl + 1 + e * w1) fd, oi_n (i := sg) (by omega), oi_n (i := pl + 1 + e * w1) (by omega), oi_n (i := fd) (by omega), oi_n (i := pl + 1 + e * w1 + fd) (by omega), oi_n (i := pt) (by omega), q1, q2, oi_mx (by omega) (by omega), oi_mx (by omega) (by omega), oi_a e]
          refine ⟨oi_in hsg (by omega), ⟨?_, ?_, ?_⟩, ⟨?_, ?_, ?_⟩, z1 _ _⟩
          · rw [oi_i (by omega)]; omega
          · rw [oi_i (by omega)]; omega
          · rw [oi_i (by omega), oi_i (by omega)]; omega
          · rw [oi_i (by omega)]; omega
          · rw [oi_i (by omega)]; omega
          · rw [oi_i (by omega), oi_i (by omega)]; omega
      exact key ct 0 (by omega) _ _
  unfold WQ
  rw [esz, ely, elF]
  refine ⟨fun c => ⟨_, fun a ha => st_y_o _ _ _ ha, head _ (ifp c rfl)⟩, fun c => ?_⟩
  have hn64 : n < 64 := by omega
  have hlD : D + P ≠ 0 → E = ct := fun z => hE1 (fun q => by have := hDP0 (hE0 q); omega)
  obtain ⟨L', g1, u, g2⟩ := wt_251 (X := X) (d := d) (I := I) (J := J) (n := n) (sg := sg) (pl := pl) (ct := ct) (R := R) (v1 := Int32.ofNat t) (v9 := Int32.toInt64 (Int32.ofNat H)) (w1 := w1) (D := D) (P := P) (F2 := F2) hR hsg ⟨by omega, by omega, by omega⟩ (fun z => ⟨hb.2.1, by rw [hcE, ← hH]; omega⟩) hb.2.2.2.2 ct 0 (by omega) (st_y (st_y J 168 t (lptr 7 H O)) 168 n (sptr D P (Int32.ofNat ct))) none (by show CW J _ F2; rw [hF2]; exact CW_w (CW_w ⟨fun _ _ => rfl, hF⟩ t _) n _)
  obtain ⟨I2, f1, f2, f3⟩ := wt_335 (X := X) (d := d) (I := I) (B := B) (n := n) (sg := sg) (dp := dp) (pl := pl) (pt := pt) (ct := ct) (L := L') (v1 := Int32.ofNat t) (v9 := Int32.toInt64 (Int32.ofNat H)) (w1 := w1) (fd := fd) (D := D) (P := P) (H := H) e174 (by rw [e181, hfd]) hw1 (by omega) hb.2.2.2.2 (fun z => by have h1 : ct * P ≤ ct * (D + P) := Nat.mul_le_mul_left _ (by omega); rw [hcE, ← hH] at h1; omega) (fun z => ⟨hb.2.1, by rw [hcE, ← hH]; omega, P1⟩) (titl _) ct (Nat.le_refl ct) I u (fun _ _ _ _ => rfl) (by rw [Nat.sub_self]; show PS I (B ++ []); rw [List.append_nil]; exact hB)
  refine ⟨I2, L', f1, ?_, ?_, ?_⟩
  · show PS I2 (B ++ rout sg dp (E, pl + 1, fd, pt, n + 1, D, P) E 0)
    rw [rout_c sg dp E ct]
    by_cases z : P = 0
    · rw [rout_0 _ _ _ (show (ct, pl + 1, fd, pt, n + 1, D, P).2.2.2.2.2.2 = 0 from z)] at f2 ⊢
      exact f2
    · rw [hlD (by omega)]
      exact f2
  · by_cases z : D + P = 0
    · have D0 : D = 0 := by omega
      rw [D0, fcd_0] at g1 ⊢
      exact g1
    · rw [hlD z]
      exact g1
  · refine head _ (ifn c (g2 _ ?_))
    rw [show n + (H + 1) = n + 1 + H by omega]
    exact f3
end WRU
