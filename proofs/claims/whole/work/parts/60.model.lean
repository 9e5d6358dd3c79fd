/-! the reference follows a pointer -/
def mw (J : st_J) : Nat → Nat → Int64 := fun s k => J 167 (64 * s + k)
def wmm (I : st_I) : Prop := (1 ≤ (I 166 6).toInt ∧ (I 166 6).toInt ≤ 4) ∧ (∀ s, s < 4 → 0 ≤ (I 170 s).toInt ∧ (I 170 s).toInt ≤ 64) ∧ (0 ≤ (I 166 8).toInt ∧ (I 166 8).toInt ≤ 100000)
/-- nothing else is written than the hand's place and the allowance -/
def MA (I K : st_I) : Prop := ∀ a f, ¬ (173 ≤ a ∧ a ≤ 182 ∧ f = 16) → ¬ (a = 166 ∧ f = 8) → K a f = I a f
def mcv (v : Nat × Nat × Nat × Nat × Nat × Nat × Nat × Nat) : Nat → Int32 := fun a => match a with
  | 173 => Int32.ofNat v.1
  | 174 => Int32.ofNat v.2.1
  | 175 => Int32.ofNat v.2.2.1
  | 176 => Int32.ofNat (64 * v.2.2.2.1)
  | 177 => if v.1 = 1 then Int32.ofNat v.2.2.2.2.1 else 0
  | 178 => if v.1 = 1 then Int32.ofNat v.2.2.2.2.2.1 else 0
  | 179 => Int32.ofNat v.2.2.2.2.2.2.1
  | 180 => Int32.ofNat v.2.2.2.2.2.2.2
  | 181 => if v.1 = 2 ∧ v.2.2.2.2.2.2.2 = 7 then Int32.ofNat (v.2.2.2.2.1 / 64) else 0
  | 182 => if v.1 = 2 ∧ v.2.2.2.2.2.2.2 = 7 then Int32.ofNat v.2.2.2.2.2.1 else 0
  | _ => 0
def MP (I K : st_I) (A : Nat) (b : Int32) (o : Option ((Nat × Nat × Nat × Nat × Nat × Nat × Nat × Nat) × Nat)) : Prop := match o with
  | none => b = 0 ∧ K 166 8 = I 166 8
  | some (v, ch) => b = 1 ∧ K 166 8 = Int32.ofNat (A - ch) ∧ ∀ a, 173 ≤ a → a ≤ 182 → K a 16 = mcv v a
theorem mp_of {K : st_I} {g : Nat → Int32} (h3 : K 173 16 = g 173) (h4 : K 174 16 = g 174) (h5 : K 175 16 = g 175) (h6 : K 176 16 = g 176) (h7 : K 177 16 = g 177) (h8 : K 178 16 = g 178) (h9 : K 179 16 = g 179) (h0 : K 180 16 = g 180) (h1 : K 181 16 = g 181) (h2 : K 182 16 = g 182) : ∀ a, 173 ≤ a → a ≤ 182 → K a 16 = g a := by
  intro a ha hb
  rcases (show a = 173 ∨ a = 174 ∨ a = 175 ∨ a = 176 ∨ a = 177 ∨ a = 178 ∨ a = 179 ∨ a = 180 ∨ a = 181 ∨ a = 182 by omega) with e | e | e | e | e | e | e | e | e | e <;> subst e <;> assumption
theorem bit_c {c : Nat} (h : c < 8) (x : Int32) (hx : x.toInt = c) : (if x = (0 : Int32) then (0 : Int32) else (if (5 : Int32) < x then (0 : Int32) else (if x = (1 : Int32) then (1 : Int32) else (il (4 : Int32) (x - (1 : Int32)))))) = Int32.ofNat (if c ≤ 5 then ebn c else 0) := by
  rw [eq_of hx]
  match c, h with
  | 0, _ => decide
  | 1, _ => decide
  | 2, _ => decide
  | 3, _ => decide
  | 4, _ => decide
  | 5, _ => decide
  | 6, _ => decide
  | 7, _ => decide
  | c + 8, h => exact absurd h (by omega)
/-- how many words a list has, as the reference reckons it -/
def mwo (x : Int64) : Int64 := (if (Int64.toInt32 ((ju x (32 : Int32)) &&& (7 : Int64))) = (7 : Int32) then ((ju x (35 : Int32)) + (1 : Int64)) else (if (Int64.toInt32 ((ju x (32 : Int32)) &&& (7 : Int64))) = (6 : Int32) then (ju x (35 : Int32)) else ((((ju x (35 : Int32)) * (Int32.toInt64 (if (Int64.toInt32 ((ju x (32 : Int32)) &&& (7 : Int64))) = (0 : Int32) then (0 : Int32) else (if (5 : Int32) < (Int64.toInt32 ((ju x (32 : Int32)) &&& (7 : Int64))) then (0 : Int32) else (if (Int64.toInt32 ((ju x (32 : Int32)) &&& (7 : Int64))) = (1 : Int32) then (1 : Int32) else (il (4 : Int32) ((Int64.toInt32 ((ju x (32 : Int32)) &&& (7 : Int64))) - (1 : Int32)))))))) + (63 : Int64)) / (64 : Int64))))
theorem lw_m (x : Int64) : (mwo x).toInt = ((if wc x = 7 then we x + 1 else (we x * ebn (wc x) + 63) / 64 : Nat) : Int) := by
  have hc := bm_code x
  have hcl := wc_lt x
  have hel := we_lt x
  have he := bm_elem x
  unfold mwo
  rw [bit_c hcl _ hc]
  by_cases c7 : wc x = 7
  · rw [if_pos (by rw [i32_eq, hc, c7]; rfl), if_pos c7, ja2 he (show (1 : Int64).toInt = 1 from rfl) (by omega) (by omega)]
    omega
  · rw [if_neg (by rw [i32_eq, hc, show (7 : Int32).toInt = 7 from rfl]; omega), if_neg c7]
    by_cases c6 : wc x = 6
    · rw [if_pos (by rw [i32_eq, hc, c6]; rfl), he, c6]
      show (we x : Int) = ((we x * 64 + 63) / 64 : Nat)
      omega
    · rw [if_neg (by rw [i32_eq, hc, show (6 : Int32).toInt = 6 from rfl]; omega), if_pos (by omega)]
      have h2 := ebn_le (wc x)
      have hm : we x * ebn (wc x) ≤ 536870912 * 64 := Nat.mul_le_mul (by omega) h2
      have e1 : (ju x 35 * Int32.toInt64 (Int32.ofNat (ebn (wc x)))).toInt = ((we x * ebn (wc x) : Nat) : Int) := by
        rw [jm2 he (tl2 (oi_i (i := ebn (wc x)) (by omega)))] <;> rw [← Int.natCast_mul] <;> omega
      generalize we x * ebn (wc x) = m at *
      have e2 : (ju x 35 * Int32.toInt64 (Int32.ofNat (ebn (wc x))) + 63).toInt = ((m + 63 : Nat) : Int) := by
        have e63 : (63 : Int64).toInt = 63 := rfl
        rw [ja2 e1 e63 (by omega) (by omega)]
        omega
      have e64 : (64 : Int64).toInt = 64 := rfl
      rw [jd (by rw [e2]; omega) (by rw [e64]; omega), e2, e64]
      omega
theorem m_fin {x : Int32} {y : Int64} {n m : Nat} (hx : x.toInt = n) (hy : y.toInt = m) (h : m ≤ n) : x - Int64.toInt32 y = Int32.ofNat (n - m) := by
  have := x.toInt_lt
  exact i_fin hx (ti2 hy (by omega) (by omega)) h
theorem m_64 {x : Int32} {n : Nat} (hx : x.toInt = n) (h : n < 16777216) : 64 * x = Int32.ofNat (64 * n) := by
  refine eq_of ?_
  have e : (64 : Int32).toInt = 64 := rfl
  rw [im2 e hx (by omega) (by omega)]
  omega
set_option maxRecDepth 20000 in
theorem ms_ex {X : pm_X} {d : Nat} {I : st_I} {J : st_J} {x y : Int64} {n dp : Nat} {z : Int} (hm : wmm I) (hc : ∀ a, 173 ≤ a → a ≤ 182 → I a 16 = 0) (hn : n < 4) (hdp : dp ≤ 64) (hz : y.toInt = z) (z1 : -2147483648 ≤ z) (z2 : z < 2147483648) (hx : wk x < 2) : ∃ K b, Ex X (d + 3) 184 [.ref 166, .int 16, .long x, .long y, .int (Int32.ofNat n), .int (Int32.ofNat dp)] (st_h I J) (.inl (some (.int b)), st_h K J, 0, 0) ∧ MA I K ∧ MP I K (I 166 8).toNatClampNeg b (if dp = 0 then none else match lds (mw J) (un (I 170)) n z x (I 166 8).toNatClampNeg with
    | none => none
    | some (kd, db, pt, ct, cd, ch) => some ((kd, dp - 1, n, z.toNat, db, pt, ct, cd), ch)) := by
  obtain ⟨⟨s1, s4⟩, hu, a0, a1⟩ := hm
  have hA := cln a0
  have hU := hu n hn
  have hUn := un_i hU.1
  have hnn : (Int32.ofNat n).toNatClampNeg = n := oi_n (by omega)
  have hpin : pm_in (Int32.ofNat n) 4 = true := oi_in hn (by omega)
  have hneg : (y < 0) ↔ z < 0 := by rw [i64_lt, hz, j0]
  have hk0 : (x &&& 3) = 0 ↔ wk x = 0 := by rw [i64_eq, bm_kind, j0]; omega
  have hd0 : (Int32.ofNat dp = 0) ↔ dp = 0 := by rw [i32_eq, oi_i (by omega), i0]; omega
  have hdep : dp ≠ 0 → Int32.ofNat dp - 1 = Int32.ofNat (dp - 1) := fun h => i_fin (oi_i (by omega)) (show (1 : Int32).toInt = ((1 : Nat) : Int) from rfl) (by omega)
  have hwit : ∀ {m : Int64} {l : Nat}, m.toInt = l → l ≤ 1073741824 → ((Int32.toInt64 (I 170 (Int32.ofNat n).toNatClampNeg) < y + m) ↔ ¬ z + (l : Int) ≤ (un (I 170) n : Int)) := fun {m l} hm' hl => by
    rw [hnn, i64_lt, tl, ja2 hz hm' (by omega) (by omega)]
    omega
  have hal : ∀ {m : Int64} {l : Nat}, m.toInt = l → ((Int32.toInt64 (I 166 8) < m) ↔ ¬ l ≤ (I 166 8).toNatClampNeg) := fun {m l} hm' => by
    rw [i64_lt, tl, hm']
    omega
  have hyi : 0 ≤ z → (Int64.toInt32 y).toInt = ((z.toNat : Nat) : Int) := fun h => by
    rw [ti2 hz (by omega) (by omega)]
    omega
  have c173 := hc 173 (by omega) (by omega)
  have c174 := hc 174 (by omega) (by omega)
  have c175 := hc 175 (by omega) (by omega)
  have c176 := hc 176 (by omega) (by omega)
  have c177 := hc 177 (by omega) (by omega)
  have c178 := hc 178 (by omega) (by omega)
  have c179 := hc 179 (by omega) (by omega)
  have c180 := hc 180 (by omega) (by omega)
  have c181 := hc 181 (by omega) (by omega)
  have c182 := hc 182 (by omega) (by omega)
  have nope : ∀ {K : st_I} {o : Option ((Nat × Nat × Nat × Nat × Nat × Nat × Nat × Nat) × Nat)}, o = none → K 166 8 = I 166 8 → MP I K (I 166 8).toNatClampNeg 0 o := fun {K o} ho h => by
    subst ho
    exact ⟨rfl, h⟩
  by_cases c1 : z < 0
  · refine ⟨?K1, ?b1, iv_M_stands _ ?h1, ?m1, ?p1⟩
    case h1 =>
      rw [if_pos (hneg.mpr c1)]
    case m1 =>
      exact fun _ _ _ _ => rfl
    case p1 =>
      refine nope ?_ rfl
      have e : lds (mw J) (un (I 170)) n z x (I 166 8).toNatClampNeg = none := by
        unfold lds
        by_cases q1 : wk x = 0
        · rw [if_pos q1, if_neg (by omega)]
        · rw [if_neg q1]
          by_cases q2 : wc x = 7
          · rw [if_pos q2, if_neg (by omega)]
          · rw [if_neg q2, if_neg (by omega)]
      rw [e]
      split <;> rfl
  · have z0 : 0 ≤ z := by omega
    have hyz := hyi z0
    by_cases c2 : wk x = 0
    · have hda := bm_data x
      have hpt := bp_ptrs x
      have hx1 := wd_lt x
      have hx2 := wp_lt x
      have hl : (Int32.toInt64 (Int64.toInt32 (ju x 32 &&& 65535) + Int64.toInt32 (ju x 48))).toInt = ((wd x + wp x : Nat) : Int) := by
        refine tl2 ?_
        rw [ia2 hda hpt (by omega) (by omega)]
        omega
      have ld0 : lds (mw J) (un (I 170)) n z x (I 166 8).toNatClampNeg = if 0 ≤ z ∧ z + (wd x + wp x : Nat) ≤ un (I 170) n ∧ wd x + wp x ≤ (I 166 8).toNatClampNeg then some (1, wd x * 64, wp x, 0, 0, wd x + wp x) else none := by
        unfold lds
        rw [if_pos c2]
      rw [ld0]
      by_cases c3 : z + ((wd x + wp x : Nat) : Int) ≤ (un (I 170) n : Int)
      · by_cases c4 : dp = 0
        · refine ⟨?K2, ?b2, iv_M_stands _ ?h2, ?m2, ?p2⟩
          case h2 =>
            rw [if_neg (fun q => c1 (hneg.mp q)), if_pos (hk0.mpr c2)]
            refine ⟨hpin, ?_⟩
            rw [if_neg (fun q => (hwit hl (by omega)).mp q c3), if_pos (hd0.mpr c4)]
          case m2 =>
            intro a f h1 h2
            simp only [st_w_e]
            repeat rw [if_neg (by omega)]
          case p2 =>
            exact nope (by rw [if_pos c4]) rfl
        · by_cases c5 : wd x + wp x ≤ (I 166 8).toNatClampNeg
          · refine ⟨?K3, ?b3, iv_M_stands _ ?h3, ?m3, ?p3⟩
            case h3 =>
              rw [if_neg (fun q => c1 (hneg.mp q)), if_pos (hk0.mpr c2)]
              refine ⟨hpin, ?_⟩
              rw [if_neg (fun q => (hwit hl (by omega)).mp q c3), if_neg (fun q => c4 (hd0.mp q)), if_neg (fun q => (hal hl).mp q c5)]
            case m3 =>
              intro a f h1 h2
              simp only [st_w_e]
              repeat rw [if_neg (by omega)]
            case p3 =>
              rw [if_neg c4, if_pos ⟨z0, c3, c5⟩]
              refine ⟨rfl, m_fin hA.symm hl c5, mp_of rfl (hdep c4) rfl (m_64 (n := z.toNat) hyz (by omega)) ?_ (eq_of hpt) c179 c180 c181 c182⟩
              show 64 * Int64.toInt32 (ju x 32 &&& 65535) = Int32.ofNat (wd x * 64)
              rw [m_64 hda (by omega), Nat.mul_comm]
          · refine ⟨?K4, ?b4, iv_M_stands _ ?h4, ?m4, ?p4⟩
            case h4 =>
              rw [if_neg (fun q => c1 (hneg.mp q)), if_pos (hk0.mpr c2)]
              refine ⟨hpin, ?_⟩
              rw [if_neg (fun q => (hwit hl (by omega)).mp q c3), if_neg (fun q => c4 (hd0.mp q)), if_pos ((hal hl).mpr c5)]
            case m4 =>
              intro a f h1 h2
              simp only [st_w_e]
              repeat rw [if_neg (by omega)]
            case p4 =>
              exact nope (by rw [if_neg c4, if_neg (fun q => c5 q.2.2)]) rfl
      · refine ⟨?K5, ?b5, iv_M_stands _ ?h5, ?m5, ?p5⟩
        case h5 =>
          rw [if_neg (fun q => c1 (hneg.mp q)), if_pos (hk0.mpr c2)]
          refine ⟨hpin, ?_⟩
          rw [if_pos ((hwit hl (by omega)).mpr c3)]
        case m5 =>
          intro a f h1 h2
          simp only [st_w_e]
          repeat rw [if_neg (by omega)]
        case p5 =>
          exact nope (by rw [if_neg (show ¬ (0 ≤ z ∧ z + ((wd x + wp x : Nat) : Int) ≤ (un (I 170) n : Int) ∧ wd x + wp x ≤ (I 166 8).toNatClampNeg) from fun q => c3 q.2.1)]; split <;> rfl) rfl
    · have hcx := wc_lt x
      have hex := we_lt x
      have hcm := bm_code x
      have hcd := eq_of hcm
      have hec := eq_of (bp_elem x)
      have hlw := lw_m x
      have h0 : (Int64.toInt32 (ju x 32 &&& 7) = 0) ↔ wc x = 0 := by rw [i32_eq, hcm, i0]; omega
      have h7 : (Int64.toInt32 (ju x 32 &&& 7) = 7) ↔ wc x = 7 := by rw [i32_eq, hcm, show (7 : Int32).toInt = 7 from rfl]; omega
      have hml : (if wc x = 7 then we x + 1 else (we x * ebn (wc x) + 63) / 64) ≤ 1073741824 := by
        have h2 := ebn_le (wc x)
        have hm : we x * ebn (wc x) ≤ 536870912 * 64 := Nat.mul_le_mul (by omega) h2
        split <;> omega
      have hN : ¬ (x &&& 3) = 0 := fun q => c2 (hk0.mp q)
      by_cases c3 : z + ((if wc x = 7 then we x + 1 else (we x * ebn (wc x) + 63) / 64 : Nat) : Int) ≤ (un (I 170) n : Int)
      · have hW : ¬ (Int32.toInt64 (I 170 (Int32.ofNat n).toNatClampNeg) < y + mwo x) := fun q => (hwit hlw hml).mp q c3
        unfold mwo at hW
        by_cases c0 : wc x = 0
        · have ld0 : lds (mw J) (un (I 170)) n z x (I 166 8).toNatClampNeg = if we x ≤ (I 166 8).toNatClampNeg then some (2, 0, 0, we x, 0, we x) else none := by
            unfold lds
            rw [if_neg c2, if_neg (by omega), if_pos c0]
            have c3' := c3
            rw [if_neg (by omega)] at c3'
            by_cases q : we x ≤ (I 166 8).toNatClampNeg
            · rw [if_pos ⟨z0, c3', q⟩, if_pos q, c0]; rfl
            · rw [if_neg (fun w => q w.2.2), if_neg q]
          rw [ld0]
          by_cases c4 : dp = 0
          · refine ⟨?K6, ?b6, iv_M_stands _ ?h6, ?m6, ?p6⟩
            case h6 =>
              rw [if_neg (fun q => c1 (hneg.mp q)), if_neg hN]
              refine ⟨hpin, ?_⟩
              rw [if_neg hW, if_pos (h0.mpr c0)]
              rw [if_pos (hd0.mpr c4)]
            case m6 =>
              intro a f h1 h2
              simp only [st_w_e]
              repeat rw [if_neg (by omega)]
            case p6 =>
              exact nope (by rw [if_pos c4]) rfl
          · by_cases c5 : we x ≤ (I 166 8).toNatClampNeg
            · refine ⟨?K7, ?b7, iv_M_stands _ ?h7, ?m7, ?p7⟩
              case h7 =>
                rw [if_neg (fun q => c1 (hneg.mp q)), if_neg hN]
                refine ⟨hpin, ?_⟩
                rw [if_neg hW, if_pos (h0.mpr c0)]
                rw [if_neg (fun q => c4 (hd0.mp q)), if_neg (fun q => (hal (bm_elem x)).mp q c5)]
              case m7 =>
                intro a f h1 h2
                simp only [st_w_e]
                repeat rw [if_neg (by omega)]
              case p7 =>
                rw [if_neg c4, if_pos c5]
                refine ⟨rfl, m_fin hA.symm (bm_elem x) c5, mp_of rfl (hdep c4) rfl (m_64 (n := z.toNat) hyz (by omega)) c177 c178 hec ?_ c181 c182⟩
                show Int64.toInt32 (ju x 32 &&& 7) = Int32.ofNat 0
                rw [hcd, c0]
            · refine ⟨?K8, ?b8, iv_M_stands _ ?h8, ?m8, ?p8⟩
              case h8 =>
                rw [if_neg (fun q => c1 (hneg.mp q)), if_neg hN]
                refine ⟨hpin, ?_⟩
                rw [if_neg hW, if_pos (h0.mpr c0)]
                rw [if_neg (fun q => c4 (hd0.mp q)), if_pos ((hal (bm_elem x)).mpr c5)]
              case m8 =>
                intro a f h1 h2
                simp only [st_w_e]
                repeat rw [if_neg (by omega)]
              case p8 =>
                exact nope (by rw [if_neg c4, if_neg c5]) rfl
        · by_cases c7 : wc x = 7
          · rw [if_pos c7] at c3
            have hlw' : (mwo x).toInt = ((we x + 1 : Nat) : Int) := by rw [hlw, if_pos c7]
            have hz64 : z.toNat < 64 := by omega
            have hidx : (64 : Int32) * Int32.ofNat n + Int64.toInt32 y = Int32.ofNat (64 * n + z.toNat) := by
              rw [eq_of hyz]
              exact oi_64 (by omega) (by omega)
            have hJt : J 167 (Int32.ofNat (64 * n + z.toNat)).toNatClampNeg = mw J n z.toNat := by
              rw [oi_n (by omega)]
              rfl
            have ld0 : lds (mw J) (un (I 170)) n z x (I 166 8).toNatClampNeg = if wk (mw J n z.toNat) = 0 ∧ 0 ≤ wo (mw J n z.toNat) ∧ (wo (mw J n z.toNat)).toNat * (wd (mw J n z.toNat) + wp (mw J n z.toNat)) ≤ we x ∧ we x + 1 + (if wd (mw J n z.toNat) + wp (mw J n z.toNat) = 0 then (wo (mw J n z.toNat)).toNat else 0) ≤ (I 166 8).toNatClampNeg then some (2, wd (mw J n z.toNat) * 64, wp (mw J n z.toNat), (wo (mw J n z.toNat)).toNat, 7, we x + 1 + (if wd (mw J n z.toNat) + wp (mw J n z.toNat) = 0 then (wo (mw J n z.toNat)).toNat else 0)) else none := by
              unfold lds
              rw [if_neg c2, if_pos c7]
              by_cases q : wk (mw J n z.toNat) = 0 ∧ 0 ≤ wo (mw J n z.toNat) ∧ (wo (mw J n z.toNat)).toNat * (wd (mw J n z.toNat) + wp (mw J n z.toNat)) ≤ we x ∧ we x + 1 + (if wd (mw J n z.toNat) + wp (mw J n z.toNat) = 0 then (wo (mw J n z.toNat)).toNat else 0) ≤ (I 166 8).toNatClampNeg
              · rw [if_pos ⟨z0, c3, q⟩, if_pos q]
              · rw [if_neg (fun w => q w.2.2), if_neg q]
            rw [ld0]
            generalize mw J n z.toNat = t at hJt ⊢
            have ho := bp_off t
            have hob := wo_b t
            have hkt : (t &&& 3) = 0 ↔ wk t = 0 := by rw [i64_eq, bm_kind, j0]; omega
            have hot : (ir (Int64.toInt32 t) 2 < 0) ↔ wo t < 0 := by rw [i32_lt, ho, i0]
            generalize wo t = o at ho hob hot ⊢
            have ht1 := wd_lt t
            have ht2 := wp_lt t
            have hda := bm_data t
            have hpt := bp_ptrs t
            have hlt : (Int32.toInt64 (Int64.toInt32 (ju t 32 &&& 65535) + Int64.toInt32 (ju t 48))).toInt = ((wd t + wp t : Nat) : Int) := by
              refine tl2 ?_
              rw [ia2 hda hpt (by omega) (by omega)]
              omega
            by_cases d1 : wk t = 0
            · by_cases d2 : 0 ≤ o
              · have hmul : (Int32.toInt64 (Int64.toInt32 (ju t 32 &&& 65535) + Int64.toInt32 (ju t 48)) * Int32.toInt64 (ir (Int64.toInt32 t) 2)).toInt = ((o.toNat * (wd t + wp t) : Nat) : Int) := by
                  have hb : o.toNat * (wd t + wp t) ≤ 536870912 * 131072 := Nat.mul_le_mul (by omega) (by omega)
                  have e : (((o.toNat * (wd t + wp t) : Nat) : Int)) = ((wd t + wp t : Nat) : Int) * o := by
                    rw [Int.natCast_mul, Int.toNat_of_nonneg d2, Int.mul_comm]
                  rw [e]
                  refine jm2 hlt (tl2 ho) ?_ ?_ <;> rw [← e] <;> omega
                have hcmp : (ju x 35 < Int32.toInt64 (Int64.toInt32 (ju t 32 &&& 65535) + Int64.toInt32 (ju t 48)) * Int32.toInt64 (ir (Int64.toInt32 t) 2)) ↔ ¬ o.toNat * (wd t + wp t) ≤ we x := by
                  rw [i64_lt, bm_elem, hmul]
                  omega
                by_cases d3 : o.toNat * (wd t + wp t) ≤ we x
                · have hz0 : (Int32.toInt64 (Int64.toInt32 (ju t 32 &&& 65535) + Int64.toInt32 (ju t 48)) = 0) ↔ wd t + wp t = 0 := by rw [i64_eq, hlt, j0]; omega
                  by_cases d4 : wd t + wp t = 0
                  · have hch : (mwo x + Int32.toInt64 (ir (Int64.toInt32 t) 2)).toInt = ((we x + 1 + o.toNat : Nat) : Int) := by
                      rw [ja2 hlw' (tl2 ho) (by omega) (by omega)]
                      omega
                    have hch2 : (ju x 35 + 1 + Int32.toInt64 (ir (Int64.toInt32 t) 2)).toInt = ((we x + 1 + o.toNat : Nat) : Int) := by
                      rw [ja2 (ja2 (bm_elem x) (show (1 : Int64).toInt = 1 from rfl) (by omega) (by omega)) (tl2 ho) (by omega) (by omega)]
                      omega
                    rw [if_pos d4]
                    by_cases c4 : dp = 0
                    · refine ⟨?K101, ?b101, iv_M_stands _ ?h101, ?m101, ?p101⟩
                      case h101 =>
                        rw [if_neg (fun q => c1 (hneg.mp q)), if_neg hN]
                        refine ⟨hpin, ?_⟩
                        rw [if_neg hW, if_neg (fun q => c0 (h0.mp q)), if_pos (h7.mpr c7), hidx]
                        refine ⟨oi_in (by omega) (by omega), ?_⟩
                        rw [hJt]
                        rw [if_pos (hkt.mpr d1), if_neg (fun q => absurd (hot.mp q) (by omega)), if_neg (fun q => hcmp.mp q d3)]
                        rw [if_pos (hz0.mpr d4)]
                        rw [if_pos (hd0.mpr c4)]
                      case m101 =>
                        intro a f h1 h2
                        simp only [st_w_e]
                        repeat rw [if_neg (by omega)]
                      case p101 =>
                        exact nope (by rw [if_pos c4]) rfl
                    · by_cases c5 : we x + 1 + o.toNat ≤ (I 166 8).toNatClampNeg
                      · refine ⟨?K102, ?b102, iv_M_stands _ ?h102, ?m102, ?p102⟩
                        case h102 =>
                          rw [if_neg (fun q => c1 (hneg.mp q)), if_neg hN]
                          refine ⟨hpin, ?_⟩
                          rw [if_neg hW, if_neg (fun q => c0 (h0.mp q)), if_pos (h7.mpr c7), hidx]
                          refine ⟨oi_in (by omega) (by omega), ?_⟩
                          rw [hJt]
                          rw [if_pos (hkt.mpr d1), if_neg (fun q => absurd (hot.mp q) (by omega)), if_neg (fun q => hcmp.mp q d3)]
                          rw [if_pos (hz0.mpr d4)]
                          have q5 : ¬ (Int32.toInt64 (I 166 8) < mwo x + Int32.toInt64 (ir (Int64.toInt32 t) 2)) := fun q => (hal hch).mp q c5
                          unfold mwo at q5
                          rw [if_neg (fun q => c4 (hd0.mp q)), if_neg q5]
                        case m102 =>
                          intro a f h1 h2
                          simp only [st_w_e]
                          repeat rw [if_neg (by omega)]
                        case p102 =>
                          rw [if_neg c4, if_pos (show wk t = 0 ∧ 0 ≤ o ∧ o.toNat * (wd t + wp t) ≤ we x ∧ _ from ⟨d1, d2, d3, c5⟩)]
                          refine ⟨rfl, m_fin (y := mwo x + Int32.toInt64 (ir (Int64.toInt32 t) 2)) hA.symm hch c5, mp_of rfl (hdep c4) rfl (m_64 (n := z.toNat) hyz (by omega)) c177 c178 (show ir (Int64.toInt32 t) 2 = Int32.ofNat o.toNat from eq_of (by rw [ho]; omega)) (by show Int64.toInt32 (ju x 32 &&& 7) = Int32.ofNat 7; rw [hcd, c7]) ?_ ?_⟩
                          · show Int64.toInt32 (ju t 32 &&& 65535) = Int32.ofNat (wd t * 64 / 64)
                            rw [show wd t * 64 / 64 = wd t by omega]
                            exact eq_of hda
                          · exact eq_of hpt
                      · refine ⟨?K103, ?b103, iv_M_stands _ ?h103, ?m103, ?p103⟩
                        case h103 =>
                          rw [if_neg (fun q => c1 (hneg.mp q)), if_neg hN]
                          refine ⟨hpin, ?_⟩
                          rw [if_neg hW, if_neg (fun q => c0 (h0.mp q)), if_pos (h7.mpr c7), hidx]
                          refine ⟨oi_in (by omega) (by omega), ?_⟩
                          rw [hJt]
                          rw [if_pos (hkt.mpr d1), if_neg (fun q => absurd (hot.mp q) (by omega)), if_neg (fun q => hcmp.mp q d3)]
                          rw [if_pos (hz0.mpr d4)]
                          have q5 : Int32.toInt64 (I 166 8) < mwo x + Int32.toInt64 (ir (Int64.toInt32 t) 2) := (hal hch).mpr c5
                          unfold mwo at q5
                          rw [if_neg (fun q => c4 (hd0.mp q)), if_pos q5]
                        case m103 =>
                          intro a f h1 h2
                          simp only [st_w_e]
                          repeat rw [if_neg (by omega)]
                        case p103 =>
                          exact nope (by rw [if_neg c4, if_neg (fun w => c5 w.2.2.2)]) rfl
                  · have hch : (mwo x).toInt = ((we x + 1 + 0 : Nat) : Int) := hlw'
                    have hch2 : (ju x 35 + 1).toInt = ((we x + 1 + 0 : Nat) : Int) := by
                      rw [ja2 (bm_elem x) (show (1 : Int64).toInt = 1 from rfl) (by omega) (by omega)]
                      omega
                    rw [if_neg d4]
                    by_cases c4 : dp = 0
                    · refine ⟨?K104, ?b104, iv_M_stands _ ?h104, ?m104, ?p104⟩
                      case h104 =>
                        rw [if_neg (fun q => c1 (hneg.mp q)), if_neg hN]
                        refine ⟨hpin, ?_⟩
                        rw [if_neg hW, if_neg (fun q => c0 (h0.mp q)), if_pos (h7.mpr c7), hidx]
                        refine ⟨oi_in (by omega) (by omega), ?_⟩
                        rw [hJt]
                        rw [if_pos (hkt.mpr d1), if_neg (fun q => absurd (hot.mp q) (by omega)), if_neg (fun q => hcmp.mp q d3)]
                        rw [if_neg (fun q => d4 (hz0.mp q))]
                        rw [if_pos (hd0.mpr c4)]
                      case m104 =>
                        intro a f h1 h2
                        simp only [st_w_e]
                        repeat rw [if_neg (by omega)]
                      case p104 =>
                        exact nope (by rw [if_pos c4]) rfl
                    · by_cases c5 : we x + 1 + 0 ≤ (I 166 8).toNatClampNeg
                      · refine ⟨?K105, ?b105, iv_M_stands _ ?h105, ?m105, ?p105⟩
                        case h105 =>
                          rw [if_neg (fun q => c1 (hneg.mp q)), if_neg hN]
                          refine ⟨hpin, ?_⟩
                          rw [if_neg hW, if_neg (fun q => c0 (h0.mp q)), if_pos (h7.mpr c7), hidx]
                          refine ⟨oi_in (by omega) (by omega), ?_⟩
                          rw [hJt]
                          rw [if_pos (hkt.mpr d1), if_neg (fun q => absurd (hot.mp q) (by omega)), if_neg (fun q => hcmp.mp q d3)]
                          rw [if_neg (fun q => d4 (hz0.mp q))]
                          have q5 : ¬ (Int32.toInt64 (I 166 8) < mwo x) := fun q => (hal hch).mp q c5
                          unfold mwo at q5
                          rw [if_neg (fun q => c4 (hd0.mp q)), if_neg q5]
                        case m105 =>
                          intro a f h1 h2
                          simp only [st_w_e]
                          repeat rw [if_neg (by omega)]
                        case p105 =>
                          rw [if_neg c4, if_pos (show wk t = 0 ∧ 0 ≤ o ∧ o.toNat * (wd t + wp t) ≤ we x ∧ _ from ⟨d1, d2, d3, c5⟩)]
                          refine ⟨rfl, m_fin (y := mwo x) hA.symm hch c5, mp_of rfl (hdep c4) rfl (m_64 (n := z.toNat) hyz (by omega)) c177 c178 (show ir (Int64.toInt32 t) 2 = Int32.ofNat o.toNat from eq_of (by rw [ho]; omega)) (by show Int64.toInt32 (ju x 32 &&& 7) = Int32.ofNat 7; rw [hcd, c7]) ?_ ?_⟩
                          · show Int64.toInt32 (ju t 32 &&& 65535) = Int32.ofNat (wd t * 64 / 64)
                            rw [show wd t * 64 / 64 = wd t by omega]
                            exact eq_of hda
                          · exact eq_of hpt
                      · refine ⟨?K106, ?b106, iv_M_stands _ ?h106, ?m106, ?p106⟩
                        case h106 =>
                          rw [if_neg (fun q => c1 (hneg.mp q)), if_neg hN]
                          refine ⟨hpin, ?_⟩
                          rw [if_neg hW, if_neg (fun q => c0 (h0.mp q)), if_pos (h7.mpr c7), hidx]
                          refine ⟨oi_in (by omega) (by omega), ?_⟩
                          rw [hJt]
                          rw [if_pos (hkt.mpr d1), if_neg (fun q => absurd (hot.mp q) (by omega)), if_neg (fun q => hcmp.mp q d3)]
                          rw [if_neg (fun q => d4 (hz0.mp q))]
                          have q5 : Int32.toInt64 (I 166 8) < mwo x := (hal hch).mpr c5
                          unfold mwo at q5
                          rw [if_neg (fun q => c4 (hd0.mp q)), if_pos q5]
                        case m106 =>
                          intro a f h1 h2
                          simp only [st_w_e]
                          repeat rw [if_neg (by omega)]
                        case p106 =>
                          exact nope (by rw [if_neg c4, if_neg (fun w => c5 w.2.2.2)]) rfl
                · refine ⟨?K107, ?b107, iv_M_stands _ ?h107, ?m107, ?p107⟩
                  case h107 =>
                    rw [if_neg (fun q => c1 (hneg.mp q)), if_neg hN]
                    refine ⟨hpin, ?_⟩
                    rw [if_neg hW, if_neg (fun q => c0 (h0.mp q)), if_pos (h7.mpr c7), hidx]
                    refine ⟨oi_in (by omega) (by omega), ?_⟩
                    rw [hJt]
                    rw [if_pos (hkt.mpr d1), if_neg (fun q => absurd (hot.mp q) (by omega)), if_pos (hcmp.mpr d3)]
                  case m107 =>
                    intro a f h1 h2
                    simp only [st_w_e]
                    repeat rw [if_neg (by omega)]
                  case p107 =>
                    exact nope (by rw [if_neg (show ¬ (wk t = 0 ∧ 0 ≤ o ∧ o.toNat * (wd t + wp t) ≤ we x ∧ we x + 1 + (if wd t + wp t = 0 then o.toNat else 0) ≤ (I 166 8).toNatClampNeg) from fun w => d3 w.2.2.1)]; split <;> rfl) rfl
              · refine ⟨?K108, ?b108, iv_M_stands _ ?h108, ?m108, ?p108⟩
                case h108 =>
                  rw [if_neg (fun q => c1 (hneg.mp q)), if_neg hN]
                  refine ⟨hpin, ?_⟩
                  rw [if_neg hW, if_neg (fun q => c0 (h0.mp q)), if_pos (h7.mpr c7), hidx]
                  refine ⟨oi_in (by omega) (by omega), ?_⟩
                  rw [hJt]
                  rw [if_pos (hkt.mpr d1), if_pos (hot.mpr (by omega))]
                case m108 =>
                  intro a f h1 h2
                  simp only [st_w_e]
                  repeat rw [if_neg (by omega)]
                case p108 =>
                  exact nope (by rw [if_neg (show ¬ (wk t = 0 ∧ 0 ≤ o ∧ o.toNat * (wd t + wp t) ≤ we x ∧ we x + 1 + (if wd t + wp t = 0 then o.toNat else 0) ≤ (I 166 8).toNatClampNeg) from fun w => d2 w.2.1)]; split <;> rfl) rfl
            · refine ⟨?K109, ?b109, iv_M_stands _ ?h109, ?m109, ?p109⟩
              case h109 =>
                rw [if_neg (fun q => c1 (hneg.mp q)), if_neg hN]
                refine ⟨hpin, ?_⟩
                rw [if_neg hW, if_neg (fun q => c0 (h0.mp q)), if_pos (h7.mpr c7), hidx]
                refine ⟨oi_in (by omega) (by omega), ?_⟩
                rw [hJt]
                rw [if_neg (fun q => d1 (hkt.mp q))]
              case m109 =>
                intro a f h1 h2
                simp only [st_w_e]
                repeat rw [if_neg (by omega)]
              case p109 =>
                exact nope (by rw [if_neg (show ¬ (wk t = 0 ∧ 0 ≤ o ∧ o.toNat * (wd t + wp t) ≤ we x ∧ we x + 1 + (if wd t + wp t = 0 then o.toNat else 0) ≤ (I 166 8).toNatClampNeg) from fun w => d1 w.1)]; split <;> rfl) rfl
          · have hlw' : (mwo x).toInt = (((we x * ebn (wc x) + 63) / 64 : Nat) : Int) := by rw [hlw, if_neg c7]
            rw [if_neg c7] at c3
            have ld0 : lds (mw J) (un (I 170)) n z x (I 166 8).toNatClampNeg = if (we x * ebn (wc x) + 63) / 64 ≤ (I 166 8).toNatClampNeg then some (2, if wc x ≤ 5 then ebn (wc x) else 0, if wc x = 6 then 1 else 0, we x, wc x, (we x * ebn (wc x) + 63) / 64) else none := by
              unfold lds
              rw [if_neg c2, if_neg c7, if_neg c0]
              by_cases q : (we x * ebn (wc x) + 63) / 64 ≤ (I 166 8).toNatClampNeg
              · rw [if_pos ⟨z0, c3, q⟩, if_pos q]
              · rw [if_neg (fun w => q w.2.2), if_neg q]
            rw [ld0]
            by_cases c4 : dp = 0
            · refine ⟨?K9, ?b9, iv_M_stands _ ?h9, ?m9, ?p9⟩
              case h9 =>
                rw [if_neg (fun q => c1 (hneg.mp q)), if_neg hN]
                refine ⟨hpin, ?_⟩
                rw [if_neg hW, if_neg (fun q => c0 (h0.mp q)), if_neg (fun q => c7 (h7.mp q))]
                rw [if_pos (hd0.mpr c4)]
              case m9 =>
                intro a f h1 h2
                simp only [st_w_e]
                repeat rw [if_neg (by omega)]
              case p9 =>
                exact nope (by rw [if_pos c4]) rfl
            · by_cases c5 : (we x * ebn (wc x) + 63) / 64 ≤ (I 166 8).toNatClampNeg
              · refine ⟨?K10, ?b10, iv_M_stands _ ?h10, ?m10, ?p10⟩
                case h10 =>
                  rw [if_neg (fun q => c1 (hneg.mp q)), if_neg hN]
                  refine ⟨hpin, ?_⟩
                  rw [if_neg hW, if_neg (fun q => c0 (h0.mp q)), if_neg (fun q => c7 (h7.mp q))]
                  have q5 : ¬ (Int32.toInt64 (I 166 8) < mwo x) := fun q => (hal hlw').mp q c5
                  unfold mwo at q5
                  rw [if_neg (fun q => c4 (hd0.mp q)), if_neg q5]
                case m10 =>
                  intro a f h1 h2
                  simp only [st_w_e]
                  repeat rw [if_neg (by omega)]
                case p10 =>
                  rw [if_neg c4, if_pos c5]
                  refine ⟨rfl, m_fin (y := mwo x) hA.symm hlw' c5, mp_of rfl (hdep c4) rfl (m_64 (n := z.toNat) hyz (by omega)) c177 c178 hec hcd ?_ ?_⟩
                  · rw [show mcv (2, dp - 1, n, z.toNat, (if wc x ≤ 5 then ebn (wc x) else 0), (if wc x = 6 then 1 else 0), we x, wc x) 181 = 0 from if_neg (fun w => c7 w.2)]; exact c181
                  · rw [show mcv (2, dp - 1, n, z.toNat, (if wc x ≤ 5 then ebn (wc x) else 0), (if wc x = 6 then 1 else 0), we x, wc x) 182 = 0 from if_neg (fun w => c7 w.2)]; exact c182
              · refine ⟨?K11, ?b11, iv_M_stands _ ?h11, ?m11, ?p11⟩
                case h11 =>
                  rw [if_neg (fun q => c1 (hneg.mp q)), if_neg hN]
                  refine ⟨hpin, ?_⟩
                  rw [if_neg hW, if_neg (fun q => c0 (h0.mp q)), if_neg (fun q => c7 (h7.mp q))]
                  have q5 : Int32.toInt64 (I 166 8) < mwo x := (hal hlw').mpr c5
                  unfold mwo at q5
                  rw [if_neg (fun q => c4 (hd0.mp q)), if_pos q5]
                case m11 =>
                  intro a f h1 h2
                  simp only [st_w_e]
                  repeat rw [if_neg (by omega)]
                case p11 =>
                  exact nope (by rw [if_neg c4, if_neg c5]) rfl
      · refine ⟨?K12, ?b12, iv_M_stands _ ?h12, ?m12, ?p12⟩
        case h12 =>
          rw [if_neg (fun q => c1 (hneg.mp q)), if_neg hN]
          refine ⟨hpin, ?_⟩
          have q3 : Int32.toInt64 (I 170 (Int32.ofNat n).toNatClampNeg) < y + mwo x := (hwit hlw hml).mpr c3
          unfold mwo at q3
          rw [if_pos q3]
        case m12 =>
          intro a f h1 h2
          simp only [st_w_e]
          repeat rw [if_neg (by omega)]
        case p12 =>
          refine nope ?_ rfl
          have e : lds (mw J) (un (I 170)) n z x (I 166 8).toNatClampNeg = none := by
            unfold lds
            rw [if_neg c2]
            by_cases q2 : wc x = 7
            · rw [if_pos q2] at c3
              rw [if_pos q2, if_neg (fun w => c3 w.2.1)]
            · rw [if_neg q2] at c3
              rw [if_neg q2, if_neg (fun w => c3 w.2.1)]
          rw [e]
          split <;> rfl
