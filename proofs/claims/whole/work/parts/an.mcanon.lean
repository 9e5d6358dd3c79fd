/-! .. item by item -/
section RCQ
variable {X : pm_X} {W : Nat → Nat → Int64} {U : Nat → Nat} {S : Nat} {d : Nat}
theorem rc_stop {I : st_I} {J : st_J} {v1 : Int32} {u2 u3 : Option Value} (h : ¬ (I 166 10 = 0)) : Gx X (d + 4) (kc_M_canonical, []) (66, [some (.ref 166), some (.int v1), u2, u3], [], st_h I J, 0, 0) (.inl (some (.int 0)), st_h I J, 0, 0) := by
  refine ib_M_canonical_66 (K := I) (b := 0) (K29 := I) (b29 := 0) (L29 := J) (K50 := I) (b50 := 0) (L50 := J) (K53 := I) (b53 := 0) (L53 := J) _ ?_
  by_cases c : (0 : Int32) < I 166 26
  · exact ifp c (ifn h rfl)
  · exact ifn c (ifn h rfl)
set_option maxRecDepth 20000 in
theorem rc_go {D : Nat} (hD : D ≤ 64) {B : List IT} {s k t : Nat} {I : st_I} {J : st_J} {g : CR} {u2 u3 : Option Value} (hs : s < 4) (hk : k < 64) (ht : t < 64) (hB : B.length + 1 ≤ g.2.1) (hM : MR W U S I J) (hC : RS I J g) (hS : PS I (B ++ [(s, k, t, D)])) (h10 : I 166 10 = 0) :
  (ld W U S g.1 s k D = none → RG X d B I J (.inr (2, g.1)) (Gx X (d + 4) (kc_M_canonical, []) (66, [some (.ref 166), some (.int (Int32.ofNat g.2.1)), u2, u3], [], st_h I J, 0, 0))) ∧
  (∀ v, ld W U S g.1 s k D = some v → ∃ K, RF I K J J ∧ RS K J (g.1 - v.2, g.2.1, g.2.2) ∧ PS K B ∧ K 166 10 = 0 ∧ (∀ a, 173 ≤ a → a ≤ 182 → K a 16 = mcv v.1 a) ∧
    (v.1.1 = 0 → ∀ r, Gx X (d + 4) (kc_M_canonical, []) (66, [some (.ref 166), some (.int (Int32.ofNat g.2.1)), some (.int (Int32.ofNat t)), some (.int 1)], [], st_h K J, 0, 0) r → Gx X (d + 4) (kc_M_canonical, []) (66, [some (.ref 166), some (.int (Int32.ofNat g.2.1)), u2, u3], [], st_h I J, 0, 0) r) ∧
    (v.1.1 = 1 → ∀ b' K' L' r, Ex X (d + 4) 233 [.ref 166, .int (Int32.ofNat t), .int (Int32.ofNat g.2.1)] (st_h K J) (.inl (some (.int b')), st_h K' L', 0, 0) → Gx X (d + 4) (kc_M_canonical, []) (66, [some (.ref 166), some (.int b'), some (.int (Int32.ofNat t)), some (.int 1)], [], st_h K' L', 0, 0) r → Gx X (d + 4) (kc_M_canonical, []) (66, [some (.ref 166), some (.int (Int32.ofNat g.2.1)), u2, u3], [], st_h I J, 0, 0) r) ∧
    (v.1.1 = 2 → v.1.2.2.2.2.2.2.2 = 7 → ∀ b' K' L' r, Ex X (d + 4) 235 [.ref 166, .int (Int32.ofNat t), .int (Int32.ofNat g.2.1)] (st_h K J) (.inl (some (.int b')), st_h K' L', 0, 0) → Gx X (d + 4) (kc_M_canonical, []) (66, [some (.ref 166), some (.int b'), some (.int (Int32.ofNat t)), some (.int 1)], [], st_h K' L', 0, 0) r → Gx X (d + 4) (kc_M_canonical, []) (66, [some (.ref 166), some (.int (Int32.ofNat g.2.1)), u2, u3], [], st_h I J, 0, 0) r) ∧
    (v.1.1 = 2 → v.1.2.2.2.2.2.2.2 < 7 → ∀ b' K' L' r, Ex X (d + 4) 236 [.ref 166, .int (Int32.ofNat t), .int (Int32.ofNat g.2.1)] (st_h K J) (.inl (some (.int b')), st_h K' L', 0, 0) → Gx X (d + 4) (kc_M_canonical, []) (66, [some (.ref 166), some (.int b'), some (.int (Int32.ofNat t)), some (.int 1)], [], st_h K' L', 0, 0) r → Gx X (d + 4) (kc_M_canonical, []) (66, [some (.ref 166), some (.int (Int32.ofNat g.2.1)), u2, u3], [], st_h I J, 0, 0) r)) := by
  obtain ⟨m1, m2, m3, m4⟩ := hM
  obtain ⟨⟨c1, c2⟩, c3, c4⟩ := hC
  have hl : (B ++ [(s, k, t, D)]).length = B.length + 1 := by rw [List.length_append]; rfl
  have e26 : I 166 26 = Int32.ofNat (B.length + 1) := by rw [hS.1, hl]
  obtain ⟨q1, q2, q3, q4⟩ := hS.2 B.length (by omega)
  have hg : (B ++ [(s, k, t, D)]).getD B.length (0, 0, 0, 0) = (s, k, t, D) := by
    rw [gd_it, if_neg (Nat.lt_irrefl _), Nat.sub_self]
    rfl
  rw [hg] at q1 q2 q3 q4
  dsimp only at q1 q2 q3 q4
  obtain ⟨I1, hI1⟩ : ∃ I1, I1 = st_w I 166 26 (Int32.ofNat B.length) := ⟨_, rfl⟩
  have I1o : ∀ a f, ¬ (a = 166 ∧ f = 26) → I1 a f = I a f := fun a f h => by rw [hI1, st_w_e, if_neg h]
  have hS1 : PS I1 B := ⟨by rw [hI1, st_w_at], fun i hi => by
    have := hS.2 i (by omega)
    rw [gd_it, if_pos hi] at this
    rw [I1o 183 i (by omega), I1o 184 i (by omega), I1o 185 i (by omega), I1o 186 i (by omega)]
    exact this⟩
  have hw : wmm I1 := by
    refine ⟨?_, fun x hx => ?_, ?_⟩
    · rw [I1o 166 6 (by omega), m1, oi_i (by omega)]; omega
    · have := m3 x hx
      rw [I1o 170 x (by omega), this.1, oi_i (by omega)]; omega
    · rw [I1o 166 8 (by omega), c1, oi_i (by omega)]; omega
  obtain ⟨K, b, hE, hMA, hMP⟩ := mf_ex (X := X) (d := d) (I := I1) (J := J) hw hs hk hD
  have uU : ∀ x, x < 4 → un (I1 170) x = U x ∧ U x ≤ 64 := fun x hx => by
    have := m3 x hx
    unfold un
    rw [I1o 170 x (by omega), this.1, oi_n (by omega)]
    exact ⟨rfl, this.2⟩
  have eld : ld (mw J) (un (I1 170)) (I1 166 6).toNatClampNeg (I1 166 8).toNatClampNeg s k D = ld W U S g.1 s k D := by
    rw [I1o 166 6 (by omega), I1o 166 8 (by omega), m1, c1, oi_n (by omega), oi_n (by omega)]
    exact ld_cg (fun s k hs hk => m4 s k hs hk) uU (by omega) hs hk
  rw [eld, I1o 166 8 (by omega), c1, oi_n (by omega)] at hMP
  have K10 : K 166 10 = 0 := by rw [hMA 166 10 (by omega) (by omega), I1o 166 10 (by omega), h10]
  have hKF : RF I K J J := ⟨fun a f h1 h2 h3 => by rw [hMA a f h1 (by omega), I1o a f (by omega)], fun _ _ => rfl⟩
  have hSK : PS K B := ⟨by rw [hMA 166 26 (by omega) (by omega)]; exact hS1.1, fun i hi => by
    rw [hMA 183 i (by omega) (by omega), hMA 184 i (by omega) (by omega), hMA 185 i (by omega) (by omega), hMA 186 i (by omega) (by omega)]
    exact hS1.2 i hi⟩
  have p0 : (0 : Int32) < I 166 26 := by rw [e26, show (0 : Int32) = Int32.ofNat 0 from rfl, oi_lt (by omega) (by omega)]; omega
  have eS1 : I 166 26 - (1 : Int32) = Int32.ofNat B.length := by rw [e26, oi_s1]
  have row : ∀ (r : pm_R) (K29 K50 K53 : st_I) (b29 b50 b53 : Int32) (L29 L50 L53 : st_J), (if b = (0 : Int32) then (if (K 166 10) = (0 : Int32) then r = (.inl (some (.int (0 : Int32))), st_h (st_w K 166 10 (1 : Int32)) J, 0, 0) else r = (.inl (some (.int (0 : Int32))), st_h K J, 0, 0)) else (if (K 166 10) = (0 : Int32) then (if (K 173 16) = (1 : Int32) then (Ex X (d + 4) 233 [.ref 166, .int (Int32.ofNat t), .int (Int32.ofNat g.2.1)] (st_h K J) (.inl (some (.int b29)), st_h K29 L29, 0, 0) ∧ Gx X (d + 4) (kc_M_canonical, []) (66, [some (.ref 166), some (.int b29), some (.int (Int32.ofNat t)), some (.int b)], [], st_h K29 L29, 0, 0) r) else (if (K 173 16) = (2 : Int32) then (if (K 180 16) = (7 : Int32) then (Ex X (d + 4) 235 [.ref 166, .int (Int32.ofNat t), .int (Int32.ofNat g.2.1)] (st_h K J) (.inl (some (.int b50)), st_h K50 L50, 0, 0) ∧ Gx X (d + 4) (kc_M_canonical, []) (66, [some (.ref 166), some (.int b50), some (.int (Int32.ofNat t)), some (.int b)], [], st_h K50 L50, 0, 0) r) else (Ex X (d + 4) 236 [.ref 166, .int (Int32.ofNat t), .int (Int32.ofNat g.2.1)] (st_h K J) (.inl (some (.int b53)), st_h K53 L53, 0, 0) ∧ Gx X (d + 4) (kc_M_canonical, []) (66, [some (.ref 166), some (.int b53), some (.int (Int32.ofNat t)), some (.int b)], [], st_h K53 L53, 0, 0) r)) else Gx X (d + 4) (kc_M_canonical, []) (66, [some (.ref 166), some (.int (Int32.ofNat g.2.1)), some (.int (Int32.ofNat t)), some (.int b)], [], st_h K J, 0, 0) r)) else r = (.inl (some (.int (0 : Int32))), st_h K J, 0, 0))) → Gx X (d + 4) (kc_M_canonical, []) (66, [some (.ref 166), some (.int (Int32.ofNat g.2.1)), u2, u3], [], st_h I J, 0, 0) r := fun r K29 K50 K53 b29 b50 b53 L29 L50 L53 h => by
    refine ib_M_canonical_66 (K := K) (b := b) (K29 := K29) (b29 := b29) (L29 := L29) (K50 := K50) (b50 := b50) (L50 := L50) (K53 := K53) (b53 := b53) (L53 := L53) _ (ifp p0 (ifp h10 ?_))
    rw [eS1, oi_n (by omega), q1, q2, q3, q4, ← hI1]
    exact ⟨oi_in (by omega) (by omega), hE, h⟩
  constructor
  · intro hn
    rw [hn] at hMP
    obtain ⟨b0, k8⟩ := hMP
    refine ⟨st_w K 166 10 1, J, RF_t hKF ⟨fun a f h1 h2 h3 => by rw [st_w_e, if_neg (by omega)], fun _ _ => rfl⟩, ⟨?_, c2⟩, Or.inl ⟨rfl, st_w_at _ _ _ _⟩, row _ K K K 0 0 0 J J J (ifp b0 (ifp K10 rfl))⟩
    rw [st_w_e, if_neg (by omega), k8]
    first
      | exact c1
      | (rw [I1o 166 8 (by omega)]; exact c1)
  · intro v hv
    rw [hv] at hMP
    obtain ⟨vv, ch⟩ := v
    obtain ⟨b1, k8, k9⟩ := hMP
    have nb : ¬ (b = 0) := by rw [b1]; decide
    have k173 : K 173 16 = Int32.ofNat vv.1 := k9 173 (by omega) (by omega)
    have k180 : K 180 16 = Int32.ofNat vv.2.2.2.2.2.2.2 := k9 180 (by omega) (by omega)
    rw [b1] at row
    have nb1 : ¬ ((1 : Int32) = 0) := by decide
    refine ⟨K, hKF, ⟨⟨k8, by show g.1 - ch ≤ 100000; omega⟩, c3, c4⟩, hSK, K10, k9, fun v0 r hr => ?_, fun v1 b' K' L' r hE' hr => ?_, fun v2 c7 b' K' L' r hE' hr => ?_, fun v2 c7 b' K' L' r hE' hr => ?_⟩
    · dsimp only at v0
      exact row r K K K 0 0 0 J J J (ifn nb1 (ifp K10 (ifn (by rw [k173, v0]; decide) (ifn (by rw [k173, v0]; decide) hr))))
    · dsimp only at v1
      exact row r K' K K b' 0 0 L' J J (ifn nb1 (ifp K10 (ifp (by rw [k173, v1]; rfl) ⟨hE', hr⟩)))
    · dsimp only at v2 c7
      exact row r K K' K 0 b' 0 J L' J (ifn nb1 (ifp K10 (ifn (by rw [k173, v2]; decide) (ifp (by rw [k173, v2]; rfl) (ifp (by rw [k180, c7]; rfl) ⟨hE', hr⟩)))))
    · dsimp only at v2 c7
      have n7 : ¬ (K 180 16 = (7 : Int32)) := by
        rw [k180]
        exact fun q => by have := (oi_eq (b := 7) (by omega) (by omega)).mp q; omega
      exact row r K K K' 0 0 b' J J L' (ifn nb1 (ifp K10 (ifn (by rw [k173, v2]; decide) (ifp (by rw [k173, v2]; rfl) (ifn n7 ⟨hE', hr⟩)))))
set_option maxRecDepth 20000 in
theorem rc : ∀ D, D ≤ 64 → RC X W U S D d := by
  intro D
  induction D with
  | zero =>
    intro hD B s k t I J g u2 u3 hs hk ht hB hM hC hS h10
    obtain ⟨g1, g2⟩ := rc_go (X := X) (d := d) (u2 := u2) (u3 := u3) hD hs hk ht hB hM hC hS h10
    unfold cpy
    cases hl : ld W U S g.1 s k 0 with
    | none => exact g1 hl
    | some v =>
      obtain ⟨K, f1, f2, f3, f4, f5, f6, -⟩ := g2 v hl
      exact RG_i f1 (RG_0 f2 f3 f4) (f6 (ld_0 hl))
  | succ D ihD =>
    intro hD B s k t I J g u2 u3 hs hk ht hB hM hC hS h10
    have ih := ihD (by omega)
    obtain ⟨g1, g2⟩ := rc_go (X := X) (d := d) (u2 := u2) (u3 := u3) hD hs hk ht hB hM hC hS h10
    unfold cpy
    cases hl : ld W U S g.1 s k (D + 1) with
    | none => exact g1 hl
    | some v =>
      obtain ⟨K, f1, f2, f3, f4, f5, f6, f7, f8, f9⟩ := g2 v hl
      dsimp only
      by_cases v0 : v.1.1 = 0
      · rw [if_pos v0]
        exact RG_i f1 (RG_0 f2 f3 f4) (f6 v0)
      · rw [if_neg v0]
        have hd := ld_d hl v0
        obtain ⟨vv, ch⟩ := v
        have hU : ∀ x, x < 4 → U x ≤ 64 := fun x hx => (hM.2.2.1 x hx).2
        obtain ⟨hvk, hch⟩ := ld_vk hl (by have := hM.2.1; omega) hs hk hU hC.1.2 hD
        dsimp only at v0 hd f2 f5 f6 f7 f8 f9 ⊢
        have hMK := MR_f hM f1
        -- once the thing itself is written
        have fin : ∀ (G' : pm_R → Prop), WQ B K J (W vv.2.2.1) g.2.2 vv t g.2.1 G' → (∀ b' K' L' r, G' (.inl (some (.int b')), st_h K' L', 0, 0) → Gx X (d + 4) (kc_M_canonical, []) (66, [some (.ref 166), some (.int b'), some (.int (Int32.ofNat t)), some (.int 1)], [], st_h K' L', 0, 0) r → Gx X (d + 4) (kc_M_canonical, []) (66, [some (.ref 166), some (.int (Int32.ofNat g.2.1)), u2, u3], [], st_h I J, 0, 0) r) → RG X d B I J (if 64 < g.2.1 + lyn (W vv.2.2.1) vv g.2.1 then .inr (3, g.1 - ch) else cout (fun k' t' g' => cpy W U S D vv.2.2.1 k' t' g') (lyp (W vv.2.2.1) vv g.2.1) (lyp (W vv.2.2.1) vv g.2.1).1 0 (g.1 - ch, g.2.1 + lyn (W vv.2.2.1) vv g.2.1, lyF (W vv.2.2.1) g.2.2 vv t g.2.1)) (Gx X (d + 4) (kc_M_canonical, []) (66, [some (.ref 166), some (.int (Int32.ofNat g.2.1)), u2, u3], [], st_h I J, 0, 0)) := fun G' hW hG => by
          have hsg : vv.2.2.1 < 4 := by
            obtain ⟨kd, dp, sg, pl, db, pt, ct, cd⟩ := vv
            exact hvk.2.1
          by_cases c64 : 64 < g.2.1 + lyn (W vv.2.2.1) vv g.2.1
          · rw [if_pos c64]
            obtain ⟨L, l1, l2⟩ := hW.1 c64
            refine ⟨st_w K 166 10 2, L, RF_t f1 ⟨fun a f h1 h2 h3 => by rw [st_w_e, if_neg (by omega)], l1⟩, ⟨by rw [st_w_e, if_neg (by omega)]; exact f2.1.1, f2.1.2⟩, Or.inr ⟨rfl, st_w_at _ _ _ _⟩, hG _ _ _ _ l2 (rc_stop (by rw [st_w_at]; decide))⟩
          · rw [if_neg c64]
            obtain ⟨I2, L, l1, l2, l3, l4⟩ := hW.2 c64
            have hb := ly_bv (U := U) (R := W vv.2.2.1) (n := g.2.1) (v := vv) hvk (hU _ hsg) v0 (by omega)
            obtain ⟨hb1, hb2, hb3, hb4⟩ := hb
            rw [hd] at l2
            have fK : RF K I2 J L := ⟨fun a f h1 h2 h3 => l1 a f h2 (by omega), l3.1⟩
            have out := rc_out (X := X) (W := W) (U := U) (S := S) (d := d) ih hsg (q := lyp (W vv.2.2.1) vv g.2.1) (fun e he p0 => by
              have z := hb2 e ((lyp (W vv.2.2.1) vv g.2.1).2.2.2.2.2.2 - 1) he (by omega)
              omega) (B := B) (lyp (W vv.2.2.1) vv g.2.1).1 0 (by omega) I2 L (g.1 - ch, g.2.1 + lyn (W vv.2.2.1) vv g.2.1, lyF (W vv.2.2.1) g.2.2 vv t g.2.1) (some (.int (Int32.ofNat t))) (some (.int 1)) (by show B.length + _ ≤ g.2.1 + lyn (W vv.2.2.1) vv g.2.1; omega) (MR_f hMK fK) ⟨⟨by rw [l1 166 8 (by omega) (by omega)]; exact f2.1.1, f2.1.2⟩, by show g.2.1 + lyn (W vv.2.2.1) vv g.2.1 ≤ 64; omega, l3.2⟩ l2 (by rw [l1 166 10 (by omega) (by omega)]; exact f4)
            exact RG_i (RF_t f1 fK) out (fun r hr => hG _ _ _ _ l4 hr)
        have hRR : vv.2.2.1 < 4 → ∀ k, k < 64 → J 167 (64 * vv.2.2.1 + k) = W vv.2.2.1 k := fun h k hk => hM.2.2.2 _ k h hk
        obtain ⟨kd, dp, sg, pl, db, pt, ct, cd⟩ := vv
        have hsg : sg < 4 := hvk.2.1
        have hU' := hU sg hsg
        have hc := hvk.2.2.2.2
        dsimp only [v98] at hc v0
        dsimp only at hRR f5 f7 f8 f9
        have hRR := hRR hsg
        have hBl : B.length ≤ g.2.1 := by omega
        have hn64 : g.2.1 ≤ 64 := hC.2.1
        by_cases k1 : kd = 1
        · subst k1
          have hb : pl + db / 64 + pt ≤ 64 := by
            rcases hc with q | q | q
            · omega
            · obtain ⟨q1, q2, q3, q4, q5 | q5⟩ := q
              · omega
              · omega
            · omega
          exact fin _ (wr_struct (X := X) (d := d + 2) f5 f4 hsg hb hRR hC.2.2 ht hn64 f3 hBl) (f7 rfl)
        · have k2 : kd = 2 := by rcases hc with q | q | q <;> omega
          subst k2
          have cd7 : cd ≤ 7 := by rcases hc with q | q | q <;> omega
          by_cases c7 : cd = 7
          · subst c7
            have hb : db % 64 = 0 ∧ pl + 1 + ct * (db / 64 + pt) ≤ 64 ∧ db ≤ 4194240 ∧ pt ≤ 65535 ∧ ct ≤ 100000 := by
              rcases hc with q | q | q
              · omega
              · omega
              · obtain ⟨q1, q2, q3, q4 | q4 | q4⟩ := q
                · omega
                · omega
                · have e : ct * (db + 64 * pt) = 64 * (ct * (db / 64 + pt)) := by
                    rw [show db + 64 * pt = 64 * (db / 64 + pt) by omega, Nat.mul_left_comm]
                  omega
            exact fin _ (wr_structs (X := X) (d := d + 2) f5 f4 hsg hb hRR hC.2.2 ht hn64 f3 hBl) (f8 rfl rfl)
          · by_cases c6 : cd = 6
            · subst c6
              have hb : pl + ct ≤ 64 := by
                rcases hc with q | q | q
                · omega
                · omega
                · obtain ⟨q1, q2, q3, q4 | q4 | q4⟩ := q
                  · omega
                  · omega
                  · omega
              exact fin _ (wr_pointers (X := X) (d := d + 1) f5 f4 hsg hb hC.2.2 ht hn64 f3 hBl) (f9 rfl (by show (6 : Nat) < 7; omega))
            · have hb : cd ≤ 5 ∧ ct ≤ 100000 ∧ pl + (ct * ebn cd + 63) / 64 ≤ 64 := by
                rcases hc with q | q | q
                · omega
                · omega
                · obtain ⟨q1, q2, q3, q4 | q4 | q4⟩ := q
                  · obtain ⟨q5, q6, q7, q8⟩ := q4
                    rw [q6] at q8
                    generalize ct * ebn cd = y at *
                    omega
                  · omega
                  · omega
              exact fin _ (wr_numbers (X := X) (d := d + 1) f5 f4 hsg hb hRR hC.2.2 ht hn64 f3) (f9 rfl (by show cd < 7; omega))
end RCQ
