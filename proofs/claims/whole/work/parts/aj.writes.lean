/-! a list of structs, by the reference -/
theorem fcd_0 (R F : Nat → Int64) (fr w1 to w2 : Nat) : ∀ e, fcd R F fr w1 to w2 0 e = F := by
  intro e
  induction e with
  | zero => rfl
  | succ e ih => show va_cpy R (fcd R F fr w1 to w2 0 e) _ _ 0 = _; rw [cpy_0, ih]
theorem rout_0 (sg dp : Nat) (q : P7) (h : q.2.2.2.2.2.2 = 0) : ∀ m e, rout sg dp q m e = [] := by
  intro m
  induction m with
  | zero => intro e; rfl
  | succ m ih => intro e; show rout sg dp q m (e + 1) ++ rin _ _ _ _ _ _ = _; rw [ih, h]; rfl
theorem sp_t {a b c : Nat} (h : a < 2 ^ 30) : ((jl (Int32.toInt64 (Int32.ofNat a)) (2 : Int32)) ||| (jl (Int32.toInt64 (Int32.ofNat b)) (32 : Int32))) ||| (jl (Int32.toInt64 (Int32.ofNat c)) (48 : Int32)) = sptr b c (Int32.ofNat a) := (tg_e h).symm.trans (sp_e b c (Int32.ofNat a))
theorem rout_c (sg dp a a' : Nat) (x : Nat × Nat × Nat × Nat × Nat × Nat) : ∀ m e, rout sg dp (a, x) m e = rout sg dp (a', x) m e := by
  intro m
  induction m with
  | zero => intro e; rfl
  | succ m ih => intro e; show rout sg dp (a, x) m (e + 1) ++ _ = rout sg dp (a', x) m (e + 1) ++ _; rw [ih]
section WRT
variable {X : pm_X} {d : Nat} {I : st_I} {J : st_J} {B : List IT} {t n sg dp pl db pt ct : Nat} {R F : Nat → Int64}
theorem wt_351 {L : st_J} {v1 v5 : Int32} {v9 : Int64} {w1 fd D P e : Nat} {BB : List IT} (h174 : I 174 16 = Int32.ofNat dp) (h181 : I 181 16 = Int32.ofNat fd) (hP : P ≤ 64) (hB : BB.length + P ≤ 80) (hl : pl + 1 + e * w1 + fd + P ≤ 10000 ∧ n + 1 + e * (D + P) + D + P ≤ 10000) : ∀ j, j ≤ P → ∀ I1, PF I I1 → PS I1 (BB ++ rin sg dp (pl + 1 + e * w1 + fd) (n + 1 + e * (D + P) + D) (P - j) j) → ∃ I2, PF I I2 ∧ PS I2 (BB ++ rin sg dp (pl + 1 + e * w1 + fd) (n + 1 + e * (D + P) + D) P 0) ∧ ∃ u12, ∀ r, Gx X (d + 1) (kc_M_writesStructs, []) (335, [some (.ref 166), some (.int v1), some (.int (Int32.ofNat n)), some (.int (Int32.ofNat sg)), some (.int (Int32.ofNat (pl + 1))), some (.int v5), some (.int (Int32.ofNat D)), some (.int (Int32.ofNat P)), some (.int (Int32.ofNat w1)), some (.long v9), none, some (.int (Int32.ofNat e - 1)), u12], [], st_h I2 L, 0, 0) r → Gx X (d + 1) (kc_M_writesStructs, []) (351, [some (.ref 166), some (.int v1), some (.int (Int32.ofNat n)), some (.int (Int32.ofNat sg)), some (.int (Int32.ofNat (pl + 1))), some (.int v5), some (.int (Int32.ofNat D)), some (.int (Int32.ofNat P)), some (.int (Int32.ofNat w1)), some (.long v9), none, some (.int (Int32.ofNat e)), some (.int (Int32.ofNat j - 1))], [], st_h I1 L, 0, 0) r := by
  intro j
  induction j with
  | zero =>
    intro _ I1 h1 h2
    refine ⟨I1, h1, h2, some (.int (Int32.ofNat 0 - 1)), fun r hr => ib_M_writesStructs_351 _ (ifp n_0 ?_)⟩
    rw [m_1]
    exact hr
  | succ j ih =>
    intro hj I1 h1 h2
    have hlen : (BB ++ rin sg dp (pl + 1 + e * w1 + fd) (n + 1 + e * (D + P) + D) (P - (j + 1)) (j + 1)).length = BB.length + (P - (j + 1)) := by rw [List.length_append, rin_len]
    have h174' : I1 174 16 = Int32.ofNat dp := (h1 174 16 (by omega) (by omega)).trans h174
    have h181' : I1 181 16 = Int32.ofNat fd := (h1 181 16 (by omega) (by omega)).trans h181
    have q := PS_s (a := sg) (b := pl + 1 + e * w1 + fd + j) (c := n + 1 + e * (D + P) + D + j) (e := dp) h2 (by omega)
    have el : BB ++ rin sg dp (pl + 1 + e * w1 + fd) (n + 1 + e * (D + P) + D) (P - (j + 1)) (j + 1) ++ [(sg, pl + 1 + e * w1 + fd + j, n + 1 + e * (D + P) + D + j, dp)] = BB ++ rin sg dp (pl + 1 + e * w1 + fd) (n + 1 + e * (D + P) + D) (P - j) j := by
      rw [List.append_assoc, show P - j = (P - (j + 1)) + 1 by omega]
      rfl
    rw [el] at q
    obtain ⟨I2, g1, g2, u12, g3⟩ := ih (by omega) _ (PF_t h1 (PF_s I1 _ _ _ _)) q
    refine ⟨I2, g1, g2, u12, fun r hr => ib_M_writesStructs_351 _ ?_⟩
    have z := g3 r hr
    rw [oi_s1, h174', h181', oi_mu, oi_p (pl + 1), oi_p _ fd, oi_p _ j, oi_a n, oi_p D P, oi_mu, oi_p (n + 1), oi_p _ D, oi_p (n + 1 + e * (D + P) + D) j, m_1 j]
    exact ifn (oi_ng (by omega)) ⟨by rw [h2.1, hlen]; exact oi_in (by omega) (by omega), z⟩
theorem wt_335 {L : st_J} {v1 : Int32} {v9 : Int64} {w1 fd D P H : Nat} (h174 : I 174 16 = Int32.ofNat dp) (h181 : I 181 16 = Int32.ofNat fd) (hw : w1 = fd + pt) (hP : P ≤ 64) (hct : ct ≤ 100000) (hB : P ≠ 0 → B.length + ct * P ≤ 80) (hl : P ≠ 0 → pl + 1 + ct * w1 ≤ 64 ∧ n + 1 + ct * (D + P) ≤ 1000 ∧ P ≤ pt) (t9 : Int64.toInt32 v9 = Int32.ofNat H) : ∀ i, i ≤ ct → ∀ I1 u12, PF I I1 → PS I1 (B ++ rout sg dp (ct, pl + 1, fd, pt, n + 1, D, P) (ct - i) i) → ∃ I2, PF I I2 ∧ PS I2 (B ++ rout sg dp (ct, pl + 1, fd, pt, n + 1, D, P) ct 0) ∧ Gx X (d + 1) (kc_M_writesStructs, []) (335, [some (.ref 166), some (.int v1), some (.int (Int32.ofNat n)), some (.int (Int32.ofNat sg)), some (.int (Int32.ofNat (pl + 1))), some (.int (Int32.ofNat ct)), some (.int (Int32.ofNat D)), some (.int (Int32.ofNat P)), some (.int (Int32.ofNat w1)), some (.long v9), none, some (.int (Int32.ofNat i - 1)), u12], [], st_h I1 L, 0, 0) (.inl (some (.int (Int32.ofNat (n + 1 + H)))), st_h I2 L, 0, 0) := by
  intro i
  induction i with
  | zero =>
    intro _ I1 u12 h1 h2
    refine ⟨I1, h1, h2, ib_M_writesStructs_335 _ (ifp n_0 ?_)⟩
    rw [oi_a, t9, oi_p]
  | succ i ih =>
    intro hi I1 u12 h1 h2
    by_cases p0 : P = 0
    · refine ⟨I1, h1, by rw [rout_0 _ _ _ (show (ct, pl + 1, fd, pt, n + 1, D, P).2.2.2.2.2.2 = 0 from p0)] at h2 ⊢; exact h2, ib_M_writesStructs_335 _ ?_⟩
      rw [oi_s1, p0]
      refine ifn (oi_ng (by omega)) (ifn (by decide) ?_)
      rw [oi_a, t9, oi_p]
    · have hB := hB p0
      have hl := hl p0
      have e1 : (i + 1) * w1 ≤ ct * w1 := Nat.mul_le_mul_right _ hi
      have e2 : (i + 1) * (D + P) ≤ ct * (D + P) := Nat.mul_le_mul_right _ hi
      rw [Nat.succ_mul] at e1 e2
      have e3 : (ct - (i + 1)) * P + P ≤ ct * P := by
        have : (ct - (i + 1) + 1) * P ≤ ct * P := Nat.mul_le_mul_right _ (by omega)
        rw [Nat.succ_mul] at this
        exact this
      obtain ⟨I2, g1, g2, u, g3⟩ := wt_351 (X := X) (d := d) (I := I) (n := n) (sg := sg) (dp := dp) (pl := pl) (L := L) (v1 := v1) (v5 := Int32.ofNat ct) (v9 := v9) (w1 := w1) (fd := fd) (D := D) (P := P) (e := i) (BB := B ++ rout sg dp (ct, pl + 1, fd, pt, n + 1, D, P) (ct - (i + 1)) (i + 1)) h174 h181 hP (by rw [List.length_append, rout_len]; show _ + _ * P + P ≤ 80; omega) (by omega) P (Nat.le_refl P) I1 h1 (by rw [Nat.sub_self]; show PS I1 (_ ++ []); rw [List.append_nil]; exact h2)
      have el : B ++ rout sg dp (ct, pl + 1, fd, pt, n + 1, D, P) (ct - (i + 1)) (i + 1) ++ rin sg dp (pl + 1 + i * w1 + fd) (n + 1 + i * (D + P) + D) P 0 = B ++ rout sg dp (ct, pl + 1, fd, pt, n + 1, D, P) (ct - i) i := by
        rw [List.append_assoc, show ct - i = (ct - (i + 1)) + 1 by omega, hw]
        rfl
      rw [el] at g2
      obtain ⟨I3, f1, f2, f3⟩ := ih (by omega) I2 u g1 g2
      refine ⟨I3, f1, f2, ib_M_writesStructs_335 _ ?_⟩
      rw [oi_s1]
      exact ifn (oi_ng (by omega)) (ifp (by rw [show (0 : Int32) = Int32.ofNat 0 from rfl, oi_lt (by omega) (by omega)]; omega) (g3 _ f3))
theorem wt_251 {v1 : Int32} {v9 : Int64} {w1 D P : Nat} {F2 : Nat → Int64} (hR : ∀ k, k < 64 → J 167 (64 * sg + k) = R k) (hsg : sg < 4) (hDP : D + P ≤ 100 ∧ D ≤ w1 ∧ w1 ≤ 200000) (hl : D + P ≠ 0 → pl + 1 + ct * w1 ≤ 64 ∧ n + 1 + ct * (D + P) ≤ 64) (hct : ct ≤ 100000) : ∀ m e, e + m = ct → ∀ L u12, CW J L (fcd R F2 (pl + 1) w1 (n + 1) (D + P) D e) → ∃ L', CW J L' (fcd R F2 (pl + 1) w1 (n + 1) (D + P) D ct) ∧ ∃ u, ∀ r, Gx X (d + 1) (kc_M_writesStructs, []) (335, [some (.ref 166), some (.int v1), some (.int (Int32.ofNat n)), some (.int (Int32.ofNat sg)), some (.int (Int32.ofNat (pl + 1))), some (.int (Int32.ofNat ct)), some (.int (Int32.ofNat D)), some (.int (Int32.ofNat P)), some (.int (Int32.ofNat w1)), some (.long v9), none, some (.int (Int32.ofNat ct - 1)), u], [], st_h I L', 0, 0) r → Gx X (d + 1) (kc_M_writesStructs, []) (251, [some (.ref 166), some (.int v1), some (.int (Int32.ofNat n)), some (.int (Int32.ofNat sg)), some (.int (Int32.ofNat (pl + 1))), some (.int (Int32.ofNat ct)), some (.int (Int32.ofNat D)), some (.int (Int32.ofNat P)), some (.int (Int32.ofNat w1)), some (.long v9), none, some (.int (Int32.ofNat e)), u12], [], st_h I L, 0, 0) r := by
  intro m
  induction m with
  | zero =>
    intro e he L u12 hL
    obtain rfl : e = ct := he
    exact ⟨L, hL, u12, fun r hr => ib_M_writesStructs_251 _ (ifn (by rw [oi_lt (by omega) (by omega)]; omega) hr)⟩
  | succ m ih =>
    intro e he L u12 hL
    have el : Int32.ofNat e < Int32.ofNat ct := by rw [oi_lt (by omega) (by omega)]; omega
    by_cases z : D + P = 0
    · have D0 : D = 0 := by omega
      refine ⟨L, by rw [D0, fcd_0] at hL ⊢; exact hL, u12, fun r hr => ib_M_writesStructs_251 _ (ifp el (ifn ?_ hr))⟩
      rw [oi_p, z]
      decide
    · have hl := hl z
      have e1 : (e + 1) * w1 ≤ ct * w1 := Nat.mul_le_mul_right _ (by omega)
      have e2 : (e + 1) * (D + P) ≤ ct * (D + P) := Nat.mul_le_mul_right _ (by omega)
      rw [Nat.succ_mul] at e1 e2
      have data : ∀ u k, k + u = D → ∀ L1 : st_J, CW J L1 (va_cpy R (fcd R F2 (pl + 1) w1 (n + 1) (D + P) D e) (pl + 1 + e * w1) (n + 1 + e * (D + P)) k) → ∃ L2, CW J L2 (fcd R F2 (pl + 1) w1 (n + 1) (D + P) D (e + 1)) ∧ ∀ r, Gx X (d + 1) (kc_M_writesStructs, []) (251, [some (.ref 166), some (.int v1), some (.int (Int32.ofNat n)), some (.int (Int32.ofNat sg)), some (.int (Int32.ofNat (pl + 1))), some (.int (Int32.ofNat ct)), some (.int (Int32.ofNat D)), some (.int (Int32.ofNat P)), some (.int (Int32.ofNat w1)), some (.long v9), none, some (.int (Int32.ofNat (e + 1))), some (.int (Int32.ofNat D))], [], st_h I L2, 0, 0) r → Gx X (d + 1) (kc_M_writesStructs, []) (269, [some (.ref 166), some (.int v1), some (.int (Int32.ofNat n)), some (.int (Int32.ofNat sg)), some (.int (Int32.ofNat (pl + 1))), some (.int (Int32.ofNat ct)), some (.int (Int32.ofNat D)), some (.int (Int32.ofNat P)), some (.int (Int32.ofNat w1)), some (.long v9), none, some (.int (Int32.ofNat e)), some (.int (Int32.ofNat k))], [], st_h I L1, 0, 0) r := by
        intro u
        induction u with
        | zero =>
          intro k hk L1 hL1
          obtain rfl : k = D := hk
          refine ⟨L1, hL1, fun r hr => ib_M_writesStructs_269 _ (ifn (by rw [oi_lt (by omega) (by omega)]; omega) ?_)⟩
          rw [oi_a e]
          exact hr
        | succ u ihu =>
          intro k hk L1 hL1
          have z1 := CW_w hL1 (n + 1 + e * (D + P) + k) (R (pl + 1 + e * w1 + k))
          rw [cpy_s] at z1
          obtain ⟨L2, g1, g2⟩ := ihu (k + 1) (by omega) _ z1
          refine ⟨L2, g1, fun r hr => ib_M_writesStructs_269 _ (ifp (by rw [oi_lt (by omega) (by omega)]; omega) ?_)⟩
          have eR : L1 167 (64 * sg + (pl + 1) + e * w1 + k) = R (pl + 1 + e * w1 + k) := by
            rw [hL1.1 167 (by omega), show 64 * sg + (pl + 1) + e * w1 + k = 64 * sg + (pl + 1 + e * w1 + k) by omega]
            exact hR _ (by omega)
          rw [oi_64 (by omega) (by omega), oi_mu e w1, oi_p _ (e * w1), oi_p _ k, oi_a n, oi_p D P, oi_mu, oi_p (n + 1), oi_p (n + 1 + e * (D + P)) k, oi_a k, oi_n (i := 64 * sg + (pl + 1) + e * w1 + k) (by omega), oi_n (i := n + 1 + e * (D + P) + k) (by omega), eR]
          exact ⟨oi_in (by omega) (by omega), oi_in (by omega) (by omega), g2 r hr⟩
      obtain ⟨L2, g1, g2⟩ := data D 0 (by omega) L (by rw [cpy_0]; exact hL)
      obtain ⟨L', f1, u, f2⟩ := ih (e + 1) (by omega) L2 (some (.int (Int32.ofNat D))) g1
      refine ⟨L', f1, u, fun r hr => ib_M_writesStructs_251 _ (ifp el (ifp ?_ (g2 r (f2 r hr))))⟩
      rw [oi_p, show (0 : Int32) = Int32.ofNat 0 from rfl, oi_lt (by omega) (by omega)]
      omega
end WRT
