/-! packing: what is meant -/
def tgk (w : Int64) : Nat → Nat
  | 0 => 0
  | k + 1 => tgk w k + (if obn w k = 0 then 0 else 2 ^ k)
/-- the tag of a group -/
def tgn (w : Int64) : Nat := tgk w 8
/-- how many of its octets are 0 -/
def znk (w : Int64) : Nat → Nat
  | 0 => 0
  | k + 1 => znk w k + (if obn w k = 0 then 1 else 0)
def zn (w : Int64) : Nat := znk w 8
theorem tgk_lt (w : Int64) : ∀ k, tgk w k < 2 ^ k := by
  intro k
  induction k with
  | zero => show 0 < 1; omega
  | succ k ih =>
    have e : 2 ^ (k + 1) = 2 ^ k + 2 ^ k := by rw [Nat.pow_succ]; omega
    unfold tgk
    split <;> omega
theorem tgn_lt (w : Int64) : tgn w < 256 := tgk_lt w 8
set_option maxRecDepth 100000 in
theorem tg_or : ∀ (i : Fin 8) (a : Fin 128), a.1 < 2 ^ i.1 → (Int32.ofNat a.1 ||| (il (1 : Int32) (Int32.ofNat i.1))) = Int32.ofNat (a.1 + 2 ^ i.1) := by decide +kernel
set_option maxRecDepth 100000 in
theorem tg_bit : ∀ (i : Fin 8) (t : Fin 256), (((ir (Int32.ofNat t.1) (Int32.ofNat i.1)) &&& (1 : Int32)) = (0 : Int32)) ↔ t.1 / 2 ^ i.1 % 2 = 0 := by decide +kernel
theorem tg_b (w : Int64) : ∀ k, k < 8 → (tgn w / 2 ^ k % 2 = 0 ↔ obn w k = 0) := by
  unfold tgn tgk tgk tgk tgk tgk tgk tgk tgk tgk
  intro k hk
  have b : ∀ k, (if obn w k = 0 then 0 else 2 ^ k) = (if obn w k = 0 then 0 else 1) * 2 ^ k := fun k => by split <;> omega
  rw [b 0, b 1, b 2, b 3, b 4, b 5, b 6, b 7]
  have c : ∀ k, (if obn w k = 0 then 0 else 1) ≤ 1 ∧ ((if obn w k = 0 then 0 else 1) = 0 ↔ obn w k = 0) := fun k => by split <;> omega
  have c0 := c 0
  have c1 := c 1
  have c2 := c 2
  have c3 := c 3
  have c4 := c 4
  have c5 := c 5
  have c6 := c 6
  have c7 := c 7
  clear b c
  obtain rfl | rfl | rfl | rfl | rfl | rfl | rfl | rfl : k = 0 ∨ k = 1 ∨ k = 2 ∨ k = 3 ∨ k = 4 ∨ k = 5 ∨ k = 6 ∨ k = 7 := by omega
  all_goals
    generalize (if obn w 0 = 0 then 0 else 1) = x0 at *
    generalize (if obn w 1 = 0 then 0 else 1) = x1 at *
    generalize (if obn w 2 = 0 then 0 else 1) = x2 at *
    generalize (if obn w 3 = 0 then 0 else 1) = x3 at *
    generalize (if obn w 4 = 0 then 0 else 1) = x4 at *
    generalize (if obn w 5 = 0 then 0 else 1) = x5 at *
    generalize (if obn w 6 = 0 then 0 else 1) = x6 at *
    generalize (if obn w 7 = 0 then 0 else 1) = x7 at *
    omega
/-- bits set -/
def pc8 (t : Nat) : Nat := t % 2 + t / 2 % 2 + t / 4 % 2 + t / 8 % 2 + t / 16 % 2 + t / 32 % 2 + t / 64 % 2 + t / 128 % 2
theorem pc_zn (w : Int64) : pc8 (tgn w) + zn w = 8 := by
  have h0 := tg_b w 0 (by omega)
  have h1 := tg_b w 1 (by omega)
  have h2 := tg_b w 2 (by omega)
  have h3 := tg_b w 3 (by omega)
  have h4 := tg_b w 4 (by omega)
  have h5 := tg_b w 5 (by omega)
  have h6 := tg_b w 6 (by omega)
  have h7 := tg_b w 7 (by omega)
  unfold pc8 zn znk znk znk znk znk znk znk znk znk
  have c : ∀ k, (if obn w k = 0 then 1 else 0) ≤ 1 ∧ ((if obn w k = 0 then 1 else 0) = 1 ↔ obn w k = 0) := fun k => by split <;> omega
  have c0 := c 0
  have c1 := c 1
  have c2 := c 2
  have c3 := c 3
  have c4 := c 4
  have c5 := c 5
  have c6 := c 6
  have c7 := c 7
  clear c
  generalize (if obn w 0 = 0 then 1 else 0) = x0 at *
  generalize (if obn w 1 = 0 then 1 else 0) = x1 at *
  generalize (if obn w 2 = 0 then 1 else 0) = x2 at *
  generalize (if obn w 3 = 0 then 1 else 0) = x3 at *
  generalize (if obn w 4 = 0 then 1 else 0) = x4 at *
  generalize (if obn w 5 = 0 then 1 else 0) = x5 at *
  generalize (if obn w 6 = 0 then 1 else 0) = x6 at *
  generalize (if obn w 7 = 0 then 1 else 0) = x7 at *
  generalize tgn w = t at *
  have e : ∀ y x : Nat, y < 2 → x ≤ 1 → (y = 0 ↔ x = 1) → y + x = 1 := fun y x h1 h2 h3 => by omega
  have e0 := e _ _ (Nat.mod_lt _ (by omega)) c0.1 (h0.trans c0.2.symm)
  have e1 := e _ _ (Nat.mod_lt _ (by omega)) c1.1 (h1.trans c1.2.symm)
  have e2 := e _ _ (Nat.mod_lt _ (by omega)) c2.1 (h2.trans c2.2.symm)
  have e3 := e _ _ (Nat.mod_lt _ (by omega)) c3.1 (h3.trans c3.2.symm)
  have e4 := e _ _ (Nat.mod_lt _ (by omega)) c4.1 (h4.trans c4.2.symm)
  have e5 := e _ _ (Nat.mod_lt _ (by omega)) c5.1 (h5.trans c5.2.symm)
  have e6 := e _ _ (Nat.mod_lt _ (by omega)) c6.1 (h6.trans c6.2.symm)
  have e7 := e _ _ (Nat.mod_lt _ (by omega)) c7.1 (h7.trans c7.2.symm)
  rw [show t / 2 ^ 0 = t from Nat.div_one t] at e0
  rw [show (2 : Nat) ^ 1 = 2 from rfl] at e1
  rw [show (2 : Nat) ^ 2 = 4 from rfl] at e2
  rw [show (2 : Nat) ^ 3 = 8 from rfl] at e3
  rw [show (2 : Nat) ^ 4 = 16 from rfl] at e4
  rw [show (2 : Nat) ^ 5 = 32 from rfl] at e5
  rw [show (2 : Nat) ^ 6 = 64 from rfl] at e6
  rw [show (2 : Nat) ^ 7 = 128 from rfl] at e7
  clear c0 c1 c2 c3 c4 c5 c6 c7 h0 h1 h2 h3 h4 h5 h6 h7 e
  generalize t % 2 = y0 at *
  generalize t / 2 % 2 = y1 at *
  generalize t / 4 % 2 = y2 at *
  generalize t / 8 % 2 = y3 at *
  generalize t / 16 % 2 = y4 at *
  generalize t / 32 % 2 = y5 at *
  generalize t / 64 % 2 = y6 at *
  generalize t / 128 % 2 = y7 at *
  omega
theorem hc_Fr_tagOf {X : pm_X} {d : Nat} {I : st_I} {J : st_J} {p0 : Int64} (r : pm_R) : r = (.inl (some (.int (Int32.ofNat (tgn p0)))), st_h I J, 0, 0) → Ex X (d + 2) 130 [.long p0] (st_h I J) r := by
  intro h
  refine (e_Fr_tagOf r).mpr ?_
  have L := lp (G := fun i => Gx X (d + 1) (kc_Fr_tagOf, []) (4, [some (.long p0), none, some (.int (Int32.ofNat (tgk p0 i))), some (.int (Int32.ofNat i))], [], st_h I J, 0, 0) r) 8 (fun i hi => by
    refine (b_Fr_tagOf_4 r).trans ?_
    rw [if_pos (show Int32.ofNat i < 8 by rw [show (8 : Int32) = Int32.ofNat 8 from rfl, oi_lt (by omega) (by omega)]; exact hi), ob_c, oi_a]
    have e : (Int32.ofNat (wn (ju p0 ((8 : Int32) * Int32.ofNat i)) % 256) = 0) ↔ obn p0 i = 0 := oi_eq (b := 0) (by omega) (by omega)
    by_cases c : obn p0 i = 0
    · rw [if_pos (e.mpr c), show tgk p0 (i + 1) = tgk p0 i by unfold tgk; rw [if_pos c]; cases i <;> rfl]
    · have ht := tgk_lt p0 i
      have hp : 2 ^ i ≤ 128 := Nat.pow_le_pow_right (n := 2) (by omega) (show i ≤ 7 by omega)
      rw [if_neg (fun z => c (e.mp z)), tg_or ⟨i, hi⟩ ⟨tgk p0 i, by omega⟩ ht, show tgk p0 (i + 1) = tgk p0 i + 2 ^ i by show tgk p0 i + _ = _; rw [if_neg c]])
  exact L.mpr ((b_Fr_tagOf_4 r).mpr (by rw [if_neg (by decide)]; exact h))
theorem hc_M_zeros {X : pm_X} {d : Nat} {I : st_I} {J : st_J} {p0 : Int64} (r : pm_R) : r = (.inl (some (.int (Int32.ofNat (zn p0)))), st_h I J, 0, 0) → Ex X (d + 1) 222 [.long p0] (st_h I J) r := by
  intro h
  refine (e_M_zeros r).mpr ?_
  have L := lp (G := fun i => Gx X d (kc_M_zeros, []) (4, [some (.long p0), none, some (.int (Int32.ofNat (znk p0 i))), some (.int (Int32.ofNat i))], [], st_h I J, 0, 0) r) 8 (fun i hi => by
    refine (b_M_zeros_4 r).trans ?_
    have e : ((ju p0 ((8 : Int32) * Int32.ofNat i)) &&& (255 : Int64) = 0) ↔ obn p0 i = 0 := by
      rw [wn_0]
      unfold wn
      rw [bn_and64 (n := 8) 255 rfl]
      exact Iff.rfl
    rw [if_pos (show Int32.ofNat i < 8 by rw [show (8 : Int32) = Int32.ofNat 8 from rfl, oi_lt (by omega) (by omega)]; exact hi), oi_a, oi_a]
    by_cases c : obn p0 i = 0
    · rw [if_pos (e.mpr c), show znk p0 (i + 1) = znk p0 i + 1 by show znk p0 i + _ = _; rw [if_pos c]]
    · rw [if_neg (fun z => c (e.mp z)), show znk p0 (i + 1) = znk p0 i by show znk p0 i + _ = _; rw [if_neg c]; rfl])
  exact L.mpr ((b_M_zeros_4 r).mpr (by rw [if_neg (by decide)]; exact h))
/-! octets appended, as long as there is room -/
def byi (x : Int32) : Int32 := vp_nar .byte (Int8.toInt32 (Int32.toInt8 x))
def o1 (I : st_I) (a : Nat) (x : Int32) : st_I := st_w (st_w I (a + 1) (I a 1).toNatClampNeg (byi x)) a 1 (I a 1 + 1)
def ap (I : st_I) (a : Nat) : List Int32 → st_I
  | [] => I
  | x :: L => if (I a 1).toNatClampNeg < 1500 then ap (o1 I a x) a L else I
abbrev fit (I : st_I) (a : Nat) (L : List Int32) : Prop := (I a 1).toNatClampNeg + L.length ≤ 1500
def cnk (I : st_I) (a : Nat) : Prop := 0 ≤ (I a 1).toInt ∧ (I a 1).toInt ≤ 1500
theorem fit_nil {I : st_I} {a : Nat} (h : cnk I a) : fit I a [] := by
  have hn := cln h.1
  unfold cnk at h
  show (I a 1).toNatClampNeg + 0 ≤ 1500
  omega
def one (x : Int32) : List Int32 := [x]
theorem o1_c {I : st_I} {a : Nat} {x : Int32} (h : cnk I a) (h2 : (I a 1).toNatClampNeg < 1500) : (o1 I a x) a 1 = Int32.ofNat ((I a 1).toNatClampNeg + 1) ∧ ((o1 I a x) a 1).toNatClampNeg = (I a 1).toNatClampNeg + 1 ∧ cnk (o1 I a x) a := by
  have e : (o1 I a x) a 1 = Int32.ofNat ((I a 1).toNatClampNeg + 1) := by
    unfold o1
    rw [st_w_at]
    conv => lhs; rw [oi_of h.1]
    exact oi_a _
  refine ⟨e, by rw [e, oi_n (by omega)], ?_⟩
  unfold cnk
  rw [e, oi_i (by omega)]
  omega
theorem o1_o {I : st_I} {a : Nat} {x : Int32} {i f : Nat} (h1 : i ≠ a) (h2 : i ≠ a + 1) : (o1 I a x) i f = I i f := by
  unfold o1
  rw [st_w_e, if_neg (fun z => h1 z.1), st_w_e, if_neg (fun z => h2 z.1)]
theorem ap_o {a : Nat} {i f : Nat} (h1 : i ≠ a) (h2 : i ≠ a + 1) : ∀ (L : List Int32) (I : st_I), (ap I a L) i f = I i f := by
  intro L
  induction L with
  | nil => intro I; rfl
  | cons x L ih =>
    intro I
    unfold ap
    split
    · rw [ih, o1_o h1 h2]
    · rfl
theorem ap_c {a : Nat} : ∀ (L : List Int32) (I : st_I), cnk I a → cnk (ap I a L) a ∧ (fit I a L → ((ap I a L) a 1).toNatClampNeg = (I a 1).toNatClampNeg + L.length) ∧ (¬ fit I a L → ((ap I a L) a 1).toNatClampNeg = 1500) := by
  intro L
  induction L with
  | nil =>
    intro I h
    have := cln h.1
    refine ⟨h, fun _ => rfl, fun q => absurd ?_ q⟩
    unfold fit cnk at *
    show (I a 1).toNatClampNeg + 0 ≤ 1500
    omega
  | cons x L ih =>
    intro I h
    have hn := cln h.1
    unfold ap
    by_cases c : (I a 1).toNatClampNeg < 1500
    · obtain ⟨e1, e2, e3⟩ := o1_c (x := x) h c
      obtain ⟨i1, i2, i3⟩ := ih (o1 I a x) e3
      rw [if_pos c]
      unfold fit at *
      rw [e2] at i2 i3
      refine ⟨i1, fun q => ?_, fun q => ?_⟩
      · rw [List.length_cons] at q ⊢
        rw [i2 (by omega)]
        omega
      · rw [List.length_cons] at q
        exact i3 (by omega)
    · rw [if_neg c]
      unfold fit cnk at *
      refine ⟨h, fun q => ?_, fun _ => by omega⟩
      rw [List.length_cons] at q
      omega
theorem ap_full {a : Nat} {I : st_I} (h : ¬ (I a 1).toNatClampNeg < 1500) (L : List Int32) : ap I a L = I := by
  cases L with
  | nil => rfl
  | cons x L => unfold ap; rw [if_neg h]
theorem ap_app {a : Nat} : ∀ (L M : List Int32) (I : st_I), cnk I a → ap I a (L ++ M) = ap (ap I a L) a M := by
  intro L
  induction L with
  | nil => intro M I h; rfl
  | cons x L ih =>
    intro M I h
    show ap I a (x :: (L ++ M)) = _
    rw [show ap I a (x :: (L ++ M)) = if (I a 1).toNatClampNeg < 1500 then ap (o1 I a x) a (L ++ M) else I from rfl, show ap I a (x :: L) = if (I a 1).toNatClampNeg < 1500 then ap (o1 I a x) a L else I from rfl]
    by_cases c : (I a 1).toNatClampNeg < 1500
    · rw [if_pos c, if_pos c]
      exact ih M (o1 I a x) (o1_c h c).2.2
    · rw [if_neg c, if_neg c, ap_full c]
/-- what a run that appends ends with -/
def apr (I : st_I) (J : st_J) (a : Nat) (L : List Int32) : pm_R := if fit I a L then (.inl none, st_h (ap I a L) J, 0, 0) else (.inr 3, st_h (ap I a L) J, 1, 6)
theorem apr_1 {I : st_I} {J : st_J} {a : Nat} {L M : List Int32} (h : cnk I a) (hf : fit I a L) : apr I J a (L ++ M) = apr (ap I a L) J a M := by
  have e := (ap_c L I h).2.1 hf
  unfold apr
  rw [ap_app L M I h]
  have q : fit I a (L ++ M) ↔ fit (ap I a L) a M := by
    unfold fit
    rw [e, List.length_append]
    omega
  by_cases c : fit I a (L ++ M)
  · rw [if_pos c, if_pos (q.mp c)]
  · rw [if_neg c, if_neg (fun z => c (q.mpr z))]
theorem apr_0 {I : st_I} {J : st_J} {a : Nat} {L M : List Int32} (h : cnk I a) (hf : ¬ fit I a L) : apr I J a (L ++ M) = (.inr 3, st_h (ap I a L) J, 1, 6) := by
  have e := (ap_c L I h).2.2 hf
  unfold apr
  rw [ap_app L M I h, ap_full (by omega), if_neg]
  unfold fit at *
  rw [List.length_append]
  omega
theorem hc_Oc_add {X : pm_X} {d : Nat} {I : st_I} {J : st_J} {p0 : Nat} (g0 : st_isO p0 = true) {p1 : Int32} (r : pm_R) : ((cnk I p0) ∧ (if (fit I p0 (one p1)) then r = (.inl none, st_h (ap I p0 (one p1)) J, 0, 0) else r = (.inr 3, st_h (ap I p0 (one p1)) J, 1, 6))) → Ex X (d + 2) 132 [.ref p0, .int p1] (st_h I J) r := by
  rintro ⟨hk, h⟩
  refine (ev_Oc_add g0 r).mpr ?_
  have hn := cln hk.1
  have e := oi_of hk.1
  unfold cnk at hk
  unfold fit one ap at h
  by_cases c : (I p0 1).toNatClampNeg < 1500
  · rw [if_pos (show I p0 1 < 1500 by rw [i32_lt, show (1500 : Int32).toInt = 1500 from rfl]; omega)]
    rw [if_pos (show (I p0 1).toNatClampNeg + [p1].length ≤ 1500 by show _ + 1 ≤ 1500; omega), if_pos c] at h
    refine ⟨by rw [e]; exact oi_in c (by omega), ?_⟩
    rw [st_w_e I (p0 + 1), if_neg (by omega)]
    exact h
  · rw [if_neg (show ¬ I p0 1 < 1500 by rw [i32_lt, show (1500 : Int32).toInt = 1500 from rfl]; omega)]
    rw [if_neg (show ¬ (I p0 1).toNatClampNeg + [p1].length ≤ 1500 by show ¬ _ + 1 ≤ 1500; omega), if_neg c] at h
    exact h
/-! the octets of a group that its tag names -/
def ocs (w : Int64) (t : Nat) : Nat → Nat → List Int32
  | 0, _ => []
  | m + 1, k => if t / 2 ^ k % 2 = 0 then ocs w t m (k + 1) else Int32.ofNat (obn w k) :: ocs w t m (k + 1)
def oct (w : Int64) (t : Int32) : List Int32 := ocs w t.toNatClampNeg 8 0
def adk (I : st_I) (a : Nat) (t : Int32) : Prop := cnk I a ∧ 0 ≤ t.toInt ∧ t.toInt < 256
theorem hc_Fr_addOctets {X : pm_X} {d : Nat} {I : st_I} {J : st_J} {p0 : Nat} (g0 : st_isO p0 = true) {p1 : Int64} {p2 : Int32} (r : pm_R) : ((adk I p0 p2) ∧ (if (fit I p0 (oct p1 p2)) then r = (.inl none, st_h (ap I p0 (oct p1 p2)) J, 0, 0) else r = (.inr 3, st_h (ap I p0 (oct p1 p2)) J, 1, 6))) → Ex X (d + 3) 133 [.ref p0, .long p1, .int p2] (st_h I J) r := by
  rintro ⟨⟨hk, ht⟩, h⟩
  obtain ⟨T, rfl, hT⟩ : ∃ T : Nat, p2 = Int32.ofNat T ∧ T < 256 := ⟨p2.toNatClampNeg, oi_of ht.1, by have := cln ht.1; omega⟩
  refine (e_Fr_addOctets g0 r).mpr ?_
  have key : ∀ m k, k + m = 8 → ∀ I : st_I, cnk I p0 → r = apr I J p0 (ocs p1 T m k) → Gx X (d + 2) (kc_Fr_addOctets, []) (3, [some (.ref p0), some (.long p1), none, some (.int (Int32.ofNat T)), some (.int (Int32.ofNat k))], [], st_h I J, 0, 0) r := by
    intro m
    induction m with
    | zero =>
      intro k hk I hc hr
      obtain rfl : k = 8 := hk
      refine (b_Fr_addOctets_3 g0 r).mpr ?_
      rw [if_neg (by decide), hr]
      unfold ocs apr
      rw [if_pos (fit_nil hc)]
      rfl
    | succ m ih =>
      intro k hk I hc hr
      refine (b_Fr_addOctets_3 g0 r).mpr ?_
      have hb := tg_bit ⟨k, by omega⟩ ⟨T, hT⟩
      rw [if_pos (show Int32.ofNat k < 8 by rw [show (8 : Int32) = Int32.ofNat 8 from rfl, oi_lt (by omega) (by omega)]; omega), oi_a]
      unfold ocs at hr
      by_cases c : T / 2 ^ k % 2 = 0
      · rw [if_pos c] at hr
        rw [if_pos (hb.mpr c)]
        exact ih (k + 1) (by omega) I hc hr
      · rw [if_neg c] at hr
        rw [if_neg (fun z => c (hb.mp z)), ob_c]
        have hn := cln hc.1
        have hc' := hc
        unfold cnk at hc'
        have e := oi_of hc.1
        by_cases c2 : (I p0 1).toNatClampNeg < 1500
        · rw [if_pos (show I p0 1 < 1500 by rw [i32_lt, show (1500 : Int32).toInt = 1500 from rfl]; omega)]
          refine ⟨by rw [e]; exact oi_in c2 (by omega), ?_⟩
          rw [st_w_e I (p0 + 1), if_neg (by omega)]
          have hf : fit I p0 [Int32.ofNat (obn p1 k)] := by unfold fit; show _ + 1 ≤ 1500; omega
          have e3 : ap I p0 [Int32.ofNat (obn p1 k)] = o1 I p0 (Int32.ofNat (obn p1 k)) := by
            unfold ap
            rw [if_pos c2]
            rfl
          refine ih (k + 1) (by omega) (o1 I p0 (Int32.ofNat (obn p1 k))) (o1_c hc c2).2.2 ?_
          rw [hr, show Int32.ofNat (obn p1 k) :: ocs p1 T m (k + 1) = [Int32.ofNat (obn p1 k)] ++ ocs p1 T m (k + 1) from rfl, apr_1 hc hf, e3]
        · rw [if_neg (show ¬ I p0 1 < 1500 by rw [i32_lt, show (1500 : Int32).toInt = 1500 from rfl]; omega), hr]
          have hf : ¬ fit I p0 [Int32.ofNat (obn p1 k)] := by unfold fit; show ¬ _ + 1 ≤ 1500; omega
          rw [show Int32.ofNat (obn p1 k) :: ocs p1 T m (k + 1) = [Int32.ofNat (obn p1 k)] ++ ocs p1 T m (k + 1) from rfl, apr_0 hc hf, ap_full c2]
  refine key 8 0 rfl I hk ?_
  unfold apr
  unfold oct at h
  rw [oi_n (by omega)] at h
  by_cases c : fit I p0 (ocs p1 T 8 0)
  · rw [if_pos c] at h ⊢
    exact h
  · rw [if_neg c] at h ⊢
    exact h
/-! runs of groups -/
def zrn (P : Nat → Bool) (n : Nat) : Nat → Nat → Nat
  | 0, _ => 0
  | m + 1, j => if j < n ∧ P j = true then zrn P n m (j + 1) + 1 else 0
theorem zrn_le (P : Nat → Bool) (n : Nat) : ∀ m j, zrn P n m j ≤ m := by
  intro m
  induction m with
  | zero => intro j; exact Nat.le_refl 0
  | succ m ih =>
    intro j
    unfold zrn
    split
    · have := ih (j + 1); omega
    · omega
theorem zrn_n (P : Nat → Bool) (n : Nat) : ∀ m j, j ≤ n → j + zrn P n m j ≤ n := by
  intro m
  induction m with
  | zero => intro j h; exact h
  | succ m ih =>
    intro j h
    unfold zrn
    split
    · have := ih (j + 1) (by omega); omega
    · omega
def zru (G : Nat → Int64) (n i : Nat) : Nat := zrn (fun j => decide (G j = 0)) n 255 i
def fru (G : Nat → Int64) (n i : Nat) : Nat := zrn (fun j => decide (zn (G j) < 2)) n 255 i
def zrk (I : st_I) (p : Int32) : Prop := (0 ≤ (I 10 1).toInt ∧ (I 10 1).toInt ≤ 259) ∧ 0 ≤ p.toInt ∧ p.toInt ≤ 259
theorem hc_Fr_zeroRun {X : pm_X} {d : Nat} {I : st_I} {J : st_J} {p1 : Int32} (r : pm_R) : ((zrk I p1) ∧ r = (.inl (some (.int (Int32.ofNat (zru (J 11) (Int32.toNatClampNeg (I 10 1)) (Int32.toNatClampNeg p1))))), st_h I J, 0, 0)) → Ex X (d + 1) 134 [.ref 10, .int p1] (st_h I J) r := by
  rintro ⟨⟨hn, hp⟩, h⟩
  refine (e_Fr_zeroRun r).mpr ?_
  obtain ⟨P, rfl, hP⟩ : ∃ P : Nat, p1 = Int32.ofNat P ∧ P ≤ 259 := ⟨p1.toNatClampNeg, oi_of hp.1, by have := cln hp.1; omega⟩
  have eN := oi_of hn.1
  have hN := cln hn.1
  rw [oi_n (by omega)] at h
  generalize (I 10 1).toNatClampNeg = n at *
  have key : ∀ m u, u + m = 255 → r = (.inl (some (.int (Int32.ofNat (u + zrn (fun j => decide (J 11 j = 0)) n m (P + u))))), st_h I J, 0, 0) → Gx X d (kc_Fr_zeroRun, []) (2, [some (.ref 10), some (.int (Int32.ofNat P)), some (.int (Int32.ofNat u))], [], st_h I J, 0, 0) r := by
    intro m
    induction m with
    | zero =>
      intro u hu hr
      refine (b_Fr_zeroRun_2 r).mpr ?_
      rw [if_neg (show ¬ Int32.ofNat u < 255 by rw [show (255 : Int32) = Int32.ofNat 255 from rfl, oi_lt (by omega) (by omega)]; omega)]
      exact hr
    | succ m ih =>
      intro u hu hr
      refine (b_Fr_zeroRun_2 r).mpr ?_
      rw [if_pos (show Int32.ofNat u < 255 by rw [show (255 : Int32) = Int32.ofNat 255 from rfl, oi_lt (by omega) (by omega)]; omega), oi_p, oi_a]
      unfold zrn at hr
      by_cases c : P + u < n
      · rw [if_pos (by rw [eN, oi_lt (by omega) (by omega)]; exact c)]
        refine ⟨oi_in (by omega) (by omega), ?_⟩
        rw [oi_n (by omega)]
        by_cases c2 : J 11 (P + u) = 0
        · rw [if_pos ⟨c, decide_eq_true c2⟩] at hr
          rw [if_pos c2]
          refine ih (u + 1) (by omega) ?_
          rw [hr, show u + 1 + zrn (fun j => decide (J 11 j = 0)) n m (P + (u + 1)) = u + (zrn (fun j => decide (J 11 j = 0)) n m (P + u + 1) + 1) by rw [show P + (u + 1) = P + u + 1 by omega]; omega]
        · rw [if_neg (fun z => c2 (of_decide_eq_true z.2))] at hr
          rw [if_neg c2]
          exact hr
      · rw [if_neg (by rw [eN, oi_lt (by omega) (by omega)]; exact c)]
        rw [if_neg (fun z => c z.1)] at hr
        exact hr
  refine key 255 0 rfl ?_
  rw [h]
  unfold zru
  rw [Nat.zero_add, Nat.add_zero]
