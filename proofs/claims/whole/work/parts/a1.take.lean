/-! take -/
theorem hnm_cg {G G' : Nat → Int64} {k : Nat} (h : G (k / 2) = G' (k / 2)) : hnm G k = hnm G' k := by
  unfold hnm
  rw [h]
theorem due_cg {G G' : Nat → Int64} {m : Nat} : ∀ s, (∀ x, x < s → hnm G (x + 1) = hnm G' (x + 1)) → due G m s = due G' m s := by
  intro s
  induction s with
  | zero => intro _; rfl
  | succ s ih =>
    intro h
    show due G m s + hnm G (s + 1) = due G' m s + hnm G' (s + 1)
    rw [ih (fun x hx => h x (by omega)), h s (by omega)]
theorem tk_cg {G G' : Nat → Int64} {n : Nat} (h : ∀ k, k < n → k < 300 → G k = G' k) (t : tkok G n) : tkok G' n ∧ hnm G 0 = hnm G' 0 ∧ (∀ s, s < hnm G 0 + 1 → hnm G (s + 1) = hnm G' (s + 1)) := by
  obtain ⟨t0, t1, t2, t3, t4⟩ := t
  have e0 : hnm G 0 = hnm G' 0 := hnm_cg (h 0 (by omega) (by omega))
  have es : ∀ s, s < hnm G 0 + 1 → hnm G (s + 1) = hnm G' (s + 1) := fun s hs => hnm_cg (h ((s + 1) / 2) (by omega) (by omega))
  refine ⟨⟨t0, by rw [← e0]; exact t1, by rw [← e0]; exact t2, fun s hs => by rw [← e0] at hs; rw [← es s hs]; exact t3 s hs, ?_⟩, e0, es⟩
  rw [← e0]
  exact t4.trans (due_cg _ es)
theorem tk_259 {G : Nat → Int64} {n : Nat} (t : tkok G n) : n ≤ 259 := by
  obtain ⟨t0, t1, t2, t3, t4⟩ := t
  have := due_le (m := hnm G 0 + 1) _ t3
  omega
/-- what the class lays out -/
theorem emi_7 (G : Nat → Int64) (I : st_I) : ∀ s x, (emi G I s) 7 x = if x < s then Int32.ofNat (hnm G (x + 1)) else I 7 x := by
  intro s
  induction s with
  | zero => intro x; rw [if_neg (Nat.not_lt_zero x)]; rfl
  | succ s ih =>
    intro x
    show (st_w (emi G I s) 7 s _) 7 x = _
    rw [st_w_e]
    by_cases c : x = s
    · rw [if_pos ⟨rfl, c⟩, if_pos (by omega), c]
    · rw [if_neg (fun z => c z.2), ih]
      by_cases c2 : x < s
      · rw [if_pos c2, if_pos (by omega)]
      · rw [if_neg c2, if_neg (by omega)]
theorem emi_o (G : Nat → Int64) (I : st_I) {a : Nat} (h : a ≠ 7) : ∀ s f, (emi G I s) a f = I a f := by
  intro s
  induction s with
  | zero => intro f; rfl
  | succ s ih => intro f; show (st_w (emi G I s) 7 s _) a f = _; rw [st_w_e, if_neg (fun z => h z.1), ih]
theorem rnI_7 (I : st_I) (m : Nat) {x : Nat} (hx : x < 4) : rnI I m 7 x = 0 := by
  unfold rnI
  rw [st_w_e, if_neg (by omega), st_w_e, if_neg (by omega), st_w_e, st_w_e, st_w_e, st_w_e]
  repeat' split
  all_goals first | rfl | omega
theorem rnI_o (I : st_I) (m : Nat) {a f : Nat} (h : a ≠ 7) (h2 : a ≠ 1) : rnI I m a f = I a f := by
  unfold rnI
  rw [st_w_e, if_neg (by omega), st_w_e, if_neg (by omega), st_w_e, if_neg (by omega), st_w_e, if_neg (by omega), st_w_e, if_neg (by omega), st_w_e, if_neg (by omega)]
theorem emj_w {G : Nat → Int64} {m : Nat} (J : st_J) (hJ : ∀ s k, s < 4 → k < 64 → J (3 + s) k = 0) : ∀ s, s ≤ m → m ≤ 4 → ∀ s' k, s' < 4 → k < 64 → (emj G m J s) (3 + s') k = if s' < s then tgt G m s' k else 0 := by
  intro s
  induction s with
  | zero => intro _ _ s' k hs' hk; rw [if_neg (Nat.not_lt_zero s')]; exact hJ s' k hs' hk
  | succ s ih =>
    intro hs hm s' k hs' hk
    show (st_yr (emj G m J s) (3 + s) _) (3 + s') k = _
    by_cases c : s' = s
    · subst c
      rw [st_yr_s, if_pos (by omega)]
      unfold va_cpy tgt lenm
      rw [if_pos (show s' < m by omega), ddm_due s' (by omega), Nat.zero_add]
      by_cases c2 : k < hnm G (s' + 1)
      · rw [if_pos ⟨Nat.zero_le _, c2⟩, if_pos c2, Nat.sub_zero]
      · rw [if_neg (fun z => c2 z.2), if_neg c2, ih (by omega) hm s' k hs' hk, if_neg (by omega)]
    · rw [st_yr_o _ _ (by omega), ih (by omega) hm s' k hs' hk]
      by_cases c2 : s' < s
      · rw [if_pos c2, if_pos (by omega)]
      · rw [if_neg c2, if_neg (by omega)]
theorem lenm_cg {G G' : Nat → Int64} {m : Nat} (h : ∀ s, s < m → hnm G (s + 1) = hnm G' (s + 1)) : ∀ s, lenm G m s = lenm G' m s ∧ ddm G m s = ddm G' m s := by
  have hl : ∀ s, lenm G m s = lenm G' m s := fun s => by
    unfold lenm
    by_cases c : s < m
    · rw [if_pos c, if_pos c, h s c]
    · rw [if_neg c, if_neg c]
  intro s
  refine ⟨hl s, ?_⟩
  induction s with
  | zero => rfl
  | succ s ih =>
    show ddm G m s + lenm G m s = ddm G' m s + lenm G' m s
    rw [ih, hl s]
theorem ddm_n {G : Nat → Int64} {n : Nat} (t : tkok G n) : ∀ s, s ≤ 4 → ddm G (hnm G 0 + 1) s ≤ n := by
  obtain ⟨t0, t1, t2, t3, t4⟩ := t
  have hm : hnm G 0 + 1 ≤ 4 := by omega
  generalize hnm G 0 + 1 = m at *
  have up : ∀ t s, s + t = 4 → ddm G m s ≤ ddm G m 4 := by
    intro t
    induction t with
    | zero => intro s hs; rw [show s = 4 by omega]; exact Nat.le_refl _
    | succ t ih =>
      intro s hs
      have := ih (s + 1) (by omega)
      have e : ddm G m (s + 1) = ddm G m s + lenm G m s := rfl
      omega
  have cst : ∀ t s, m + t = s → ddm G m s = ddm G m m := by
    intro t
    induction t with
    | zero => intro s hs; rw [show s = m by omega]
    | succ t ih =>
      intro s hs
      obtain ⟨q, rfl⟩ : ∃ q, s = q + 1 := ⟨s - 1, by omega⟩
      show ddm G m q + lenm G m q = _
      rw [ih q (by omega)]
      unfold lenm
      rw [if_neg (by omega), Nat.add_zero]
  intro s hs
  have h1 := up (4 - s) s (by omega)
  by_cases c : m ≤ 4
  · rw [cst (4 - m) 4 (by omega), ddm_due m (Nat.le_refl m)] at h1
    omega
  · omega
set_option maxRecDepth 20000 in
theorem s_take {X : pm_X} {d : Nat} {I : st_I} {J : st_J} (h : RR I J) : StpI X (d + 6) 141 [.ref 0, .ref 187] 227 [.ref 166] I J := by
  obtain ⟨hm, hz, ho, hc⟩ := h
  have ho' := ho
  obtain ⟨o1_, o2, o3, o4, o5⟩ := ho'
  obtain ⟨a, ha⟩ : ∃ a, a = st_o (I 0 6) := ⟨_, rfl⟩
  have hac : a = 146 ∨ a = 148 := by rw [ha]; exact st_o_c _
  have hiso : st_isO a = true := by rcases hac with q | q <;> rw [q] <;> rfl
  obtain ⟨L, hL⟩ : ∃ L, L = (I 166 7).toNatClampNeg := ⟨_, rfl⟩
  have nL := cln o3
  have eL := oi_of o3
  rw [← hL] at nL eL
  rw [← ha] at o2
  have L15 : L ≤ 1500 := by omega
  have eO : ∀ k, k < L → I 171 k = ocO I a k := fun k hk => by
    have := o5 k (by rw [← hL]; exact hk)
    rw [← ha] at this
    exact this.symm
  have h8 : ∀ k, k < L → 0 ≤ (ocO I a k).toInt ∧ (ocO I a k).toInt < 256 := fun k _ => by
    have := bn_i (x := ocO I a k) (bn_and32 (n := 8) 255 rfl) (by omega)
    omega
  obtain ⟨u1, u2⟩ := up_ex (X := X) (d := d) (I := I) (J := J) hiso (o2.trans eL) L15
  -- a failure of both
  have failR : ∀ (K : st_I) (M : st_J), (∀ x f, x ≠ 10 → K x f = I x f) → (∀ x, x ≠ 11 → M x = J x) → (∀ l, ups (ocO I a) L 1501 0 = some l → ∀ G : Nat → Int64, (∀ k, k < l.length → k < 300 → G k = l.getD k 0) → ¬ tkok G l.length) → ∃ I2 J2, Ex X (d + 6) 227 [.ref 166] (st_h K M) (.inl (some (.int 0)), st_h I2 J2, 0, 0) ∧ I2 166 10 = 1 ∧ RR I2 J2 := fun K M hK hM hb => by
    have RRf : ∀ M' : st_J, (∀ x, x ≠ 169 → M' x = M x) → RR (st_w (st_w K 166 10 0) 166 10 1) M' := fun M' hM' => RR_cg ⟨hm, hz, ho, hc⟩ (fun x f hr => by
      unfold rI at hr
      rw [st_w_e, if_neg (by omega), st_w_e, if_neg (by omega), hK x f (by omega)]) (fun x k hr => by
      unfold rJ at hr
      rw [hM' x (by omega), hM x (by omega)])
    have q7 : (st_w K 166 10 0) 166 7 = Int32.ofNat L := by rw [st_w_e, if_neg (by omega), hK 166 7 (by omega)]; exact eL
    have q171 : ∀ k, k < L → (st_w K 166 10 0) 171 k = ocO I a k := fun k hk => by rw [st_w_e, if_neg (by omega), hK 171 k (by omega)]; exact eO k hk
    obtain ⟨m1, m2⟩ := mu_ex (X := X) (d := d + 3) (I := st_w K 166 10 0) (O := ocO I a) (J := M) q7 L15 q171 h8
    cases hu : ups (ocO I a) L 1501 0 with
    | none =>
      obtain ⟨M', hM', hE⟩ := m2 hu
      exact ⟨_, _, ie_M_take (d := d + 3) _ ⟨hE, ifp (by decide) (ifp (st_w_at _ _ _ _) rfl)⟩, st_w_at _ _ _ _, RRf M' hM'⟩
    | some l =>
      obtain ⟨M', hM', hl, hE⟩ := m1 l hu
      exact ⟨_, _, (mt_ex (d := d + 3) hl hE).2 (hb l hu (M' 169) (fun k h1 h2 => hM'.2 k h1 h2)), st_w_at _ _ _ _, RRf M' hM'.1⟩
  by_cases cu : ∀ l, ups (ocO I a) L 1501 0 = some l → ¬ l.length ≤ 259
  · obtain ⟨K, M, hK, hM, hE⟩ := u2 cu
    obtain ⟨I2, J2, k1, k2, k3⟩ := failR K M hK hM (fun l hl G _ t => cu l hl (tk_259 t))
    exact ⟨K, M, 1, 1, 6, iv_L_take (o := none) (Z := (K, M)) _ ⟨fun r hr => by rw [← ha]; rw [show r = _ from hr]; exact hE, rfl⟩, by omega, by omega, I2, J2, 0, k1, k2, fun z => absurd z (by decide), k3⟩
  · have ⟨l, hl, hl9⟩ : ∃ l, ups (ocO I a) L 1501 0 = some l ∧ l.length ≤ 259 := by
      cases hu : ups (ocO I a) L 1501 0 with
      | none => exact absurd (fun l hl => by rw [hu] at hl; cases hl) cu
      | some l => exact ⟨l, rfl, Decidable.byContradiction fun q => cu (fun l' hl' => by rw [hu] at hl'; injection hl' with hl'; rw [← hl']; exact q)⟩
    obtain ⟨M, hM, hE⟩ := u1 l hl hl9
    obtain ⟨Iu, hIu⟩ : ∃ Iu, Iu = un2 I l.length L := ⟨_, rfl⟩
    have Iuo : ∀ x f, x ≠ 10 → Iu x f = I x f := fun x f hx => by rw [hIu]; exact un2_o I _ _ hx f
    have Iu1 : Iu 10 1 = Int32.ofNat l.length := by rw [hIu]; exact un2_1 _ _ _
    have upx_ : upx X d I J (st_o (I 0 6)) (some (Iu, M)) (Iu, M) := fun r hr => by rw [← ha, show r = _ from hr, hIu]; exact hE
    have ck : ckk Iu := by unfold ckk; rw [Iu1, oi_i (by omega)]; omega
    have cn : (Iu 10 1).toNatClampNeg = l.length := by rw [Iu1, oi_n (by omega)]
    by_cases tk : tkok (M 11) l.length
    · obtain ⟨m, hmm⟩ : ∃ m, m = hnm (M 11) 0 + 1 := ⟨_, rfl⟩
      have tk' := tk
      obtain ⟨t0, t1, t2, t3, t4⟩ := tk'
      rw [← hmm] at t2 t3 t4
      have hm4 : m ≤ 4 := by omega
      obtain ⟨Ic, hIc⟩ : ∃ Ic, Ic = st_cz (emI Iu M) 16 := ⟨_, rfl⟩
      have Icz : ∀ x f, ¬ (150 ≤ x ∧ x < 166) → Ic x f = (emI Iu M) x f := fun x f hx => by rw [hIc]; exact if_neg (by omega)
      have eIo : ∀ x f, x ≠ 7 → x ≠ 1 → (emI Iu M) x f = Iu x f := fun x f h1 h2 => by
        unfold emI
        rw [emi_o _ _ h1, rnI_o _ _ h1 h2]
      have Ico : ∀ x f, x ≠ 7 → x ≠ 1 → x ≠ 10 → ¬ (150 ≤ x ∧ x < 166) → Ic x f = I x f := fun x f h1 h2 h3 h4 => by rw [Icz x f h4, eIo x f h1 h2, Iuo x f h3]
      have Ic12 : Ic 1 2 = Int32.ofNat m := by
        rw [Icz 1 2 (by omega)]
        unfold emI
        rw [emi_o _ _ (by omega), ← hmm]
        unfold rnI
        rw [st_w_e, if_neg (by omega), st_w_at]
      have Ic13 : Ic 1 3 = 0 := by
        rw [Icz 1 3 (by omega)]
        unfold emI
        rw [emi_o _ _ (by omega)]
        unfold rnI
        rw [st_w_at]
      have Ic7 : ∀ x, x < 4 → Ic 7 x = Int32.ofNat (lenm (M 11) m x) := fun x hx => by
        rw [Icz 7 x (by omega)]
        unfold emI
        rw [emi_7, ← hmm]
        unfold lenm
        by_cases q : x < m
        · rw [if_pos q, if_pos q]
        · rw [if_neg q, if_neg q, rnI_7 _ _ hx]
          rfl
      obtain ⟨Jc, hJc⟩ : ∃ Jc, Jc = st_y (emJ Iu M) 187 0 (Int32.toInt64 (Int32.ofNat m)) := ⟨_, rfl⟩
      have Jcw : ∀ s k, s < 4 → k < 64 → Jc (3 + s) k = tgt (M 11) m s k := fun s k hs hk => by
        rw [hJc, st_y_o _ _ _ (by omega)]
        unfold emJ
        rw [← hmm, emj_w (rnJ M) (fun s k hs hk => fl4_w M hs hk) m (Nat.le_refl m) hm4 s k hs hk]
        by_cases q : s < m
        · rw [if_pos q]
        · rw [if_neg q]
          unfold tgt lenm
          rw [if_neg q, if_neg (Nat.not_lt_zero k)]
      have Jco : ∀ x, 7 ≤ x → x ≠ 11 → x ≠ 187 → Jc x = J x := fun x h1 h2 h3 => by
        rw [hJc, st_y_o _ _ _ h3]
        unfold emJ
        rw [emj_o _ _ _ _ (by omega), rnJ_o _ (by omega), hM.1 x h2]
      have q7 : (st_w Ic 166 10 0) 166 7 = Int32.ofNat L := by rw [st_w_e, if_neg (by omega), Ico 166 7 (by omega) (by omega) (by omega) (by omega)]; exact eL
      have q171 : ∀ k, k < L → (st_w Ic 166 10 0) 171 k = ocO I a k := fun k hk => by rw [st_w_e, if_neg (by omega), Ico 171 k (by omega) (by omega) (by omega) (by omega)]; exact eO k hk
      obtain ⟨m1, -⟩ := mu_ex (X := X) (d := d + 3) (I := st_w Ic 166 10 0) (O := ocO I a) (J := Jc) q7 L15 q171 h8
      obtain ⟨N, hN, hl2, hE2⟩ := m1 l hl
      have gg : ∀ k, k < l.length → k < 300 → M 11 k = N 169 k := fun k h1 h2 => (hM.2 k h1).trans (hN.2 k h1 h2).symm
      obtain ⟨tkN, e0, es⟩ := tk_cg gg tk
      rw [← hmm] at es
      have e0' : hnm (N 169) 0 + 1 = m := by rw [← e0, hmm]
      obtain ⟨I', N', r1, r2, r3, r4, r5, r6, r7⟩ := (mt_ex (d := d + 3) hl2 hE2).1 tkN
      rw [e0'] at r2 r4 r6 r7
      have lc := lenm_cg es
      have tgc : ∀ s k, s < 4 → tgt (M 11) m s k = tgt (N 169) m s k := fun s k hs => by
        unfold tgt
        rw [(lc s).1, (lc s).2]
        by_cases q : k < lenm (N 169) m s
        · rw [if_pos q, if_pos q]
          have h1 := ddm_n tkN (s + 1) (by omega)
          rw [e0'] at h1
          have e : ddm (N 169) m (s + 1) = ddm (N 169) m s + lenm (N 169) m s := rfl
          exact gg _ (by omega) (by omega)
        · rw [if_neg q, if_neg q]
      refine ⟨Ic, Jc, 0, 0, 0, iv_L_take (o := some (Iu, M)) (Z := (Iu, M)) _ ⟨upx_, ck, ?_⟩, by omega, by omega, st_mz (st_w I' 166 11 0) 17, N', Int32.ofNat m, r7, ?_, fun _ => ?_, ?_⟩
      · dsimp only
        rw [cn]
        refine ifp tk ⟨⟨ck, by rw [cn]; exact tk⟩, ?_⟩
        rw [← hIc, Ic12, ← hJc]
      · rw [mz_o _ _ (by omega), st_w_e, if_neg (by omega)]
        exact r3
      · rw [r5 187 (by omega), hN.1 187 (by omega), hJc, y_o]
      · have q : ∀ x f, ¬ (173 ≤ x ∧ x ≤ 182) → ¬ (x = 166 ∧ (f = 6 ∨ f = 10 ∨ f = 11)) → x ≠ 170 → (st_mz (st_w I' 166 11 0) 17) x f = Ic x f := fun x f h1 h2 h3 => by rw [mz_o _ _ h1, st_w_e, if_neg (by omega), r1 x f h3 (by omega)]
        have qI : ∀ x f, ¬ (173 ≤ x ∧ x ≤ 182) → ¬ (x = 166 ∧ (f = 6 ∨ f = 10 ∨ f = 11)) → x ≠ 170 → x ≠ 7 → x ≠ 1 → x ≠ 10 → ¬ (150 ≤ x ∧ x < 166) → (st_mz (st_w I' 166 11 0) 17) x f = I x f := fun x f h1 h2 h3 h4 h5 h6 h7 => by rw [q x f h1 h2 h3, Ico x f h4 h5 h6 h7]
        have dl := fun s => (ddm_le (G := M 11) hm4 t3 s).1
        have i7 : ∀ x, x < 4 → (st_mz (st_w I' 166 11 0) 17) 7 x = Int32.ofNat (lenm (M 11) m x) := fun x hx => by rw [q 7 x (by omega) (by omega) (by omega), Ic7 x hx]
        have i12 : (st_mz (st_w I' 166 11 0) 17) 1 2 = Int32.ofNat m := by rw [q 1 2 (by omega) (by omega) (by omega), Ic12]
        obtain ⟨⟨w1, w2, w3⟩, b1, b2, b3, b4, b5⟩ := hm
        refine ⟨⟨⟨?_, fun s hs => ?_, ?_⟩, ?_, fun s hs => ?_, ?_, fun s k hs hk => ?_, fun s hs hle => ?_⟩, Or.inl ⟨?_, ?_⟩, Ro_cg ho (qI 0 6 (by omega) (by omega) (by omega) (by omega) (by omega) (by omega) (by omega)) (qI 0 7 (by omega) (by omega) (by omega) (by omega) (by omega) (by omega) (by omega)) (fun x f h1 h2 => qI x f (by omega) (by omega) (by omega) (by omega) (by omega) (by omega) (by omega)) (qI 166 7 (by omega) (by omega) (by omega) (by omega) (by omega) (by omega) (by omega)) (fun f => qI 171 f (by omega) (by omega) (by omega) (by omega) (by omega) (by omega) (by omega)), fun c hc' => cr_0 (fun f hf => ?_) (fun x h1 h2 => ?_)⟩
        · rw [i12, oi_i (by omega)]; omega
        · have := dl s
          rw [i7 s hs, oi_i (by omega)]; omega
        · rw [qI 8 0 (by omega) (by omega) (by omega) (by omega) (by omega) (by omega) (by omega)]; exact w3
        · rw [i12, mz_o _ _ (by omega), st_w_e, if_neg (by omega), r2]
        · rw [i7 s hs, mz_o _ _ (by omega), st_w_e, if_neg (by omega), r4 s hs, (lc s).1]
        · rw [qI 8 0 (by omega) (by omega) (by omega) (by omega) (by omega) (by omega) (by omega), qI 166 8 (by omega) (by omega) (by omega) (by omega) (by omega) (by omega) (by omega)]; exact b3
        · rw [r6 s k hs hk, r5 (3 + s) (by omega), hN.1 (3 + s) (by omega), Jcw s k hs hk, tgc s k hs]
        · rw [i12, oi_i (by omega)] at hle
          rw [i7 s hs]
          unfold lenm
          rw [if_neg (by omega)]
          rfl
        · rw [mz_o _ _ (by omega), st_w_at]
        · rw [q 1 3 (by omega) (by omega) (by omega), Ic13]
        · rw [q (150 + c) f (by omega) (by omega) (by omega), hIc]
          exact if_pos ⟨by omega, by omega, hf⟩
        · exact if_pos ⟨h1, h2, by omega⟩
    · obtain ⟨I2, J2, k1, k2, k3⟩ := failR Iu M Iuo hM.1 (fun l' hl' G hG t => by
        rw [hl] at hl'
        injection hl' with hl'
        subst hl'
        exact tk (tk_cg (fun k h1 h2 => (hG k h1 h2).trans (hM.2 k h1).symm) t).1)
      exact ⟨Iu, M, 1, 1, 6, iv_L_take (o := some (Iu, M)) (Z := (Iu, M)) _ ⟨upx_, ck, by dsimp only; rw [cn]; exact ifn tk rfl⟩, by omega, by omega, I2, J2, 0, k1, k2, fun z => absurd z (by decide), k3⟩
