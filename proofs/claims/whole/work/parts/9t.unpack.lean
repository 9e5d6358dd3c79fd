/-! .. all of it -/
def TH (I : st_I) (J0 : st_J) (G : pm_R → Prop) : Prop := ∃ K M, (∀ a f, a ≠ 10 → K a f = I a f) ∧ (∀ a, a ≠ 11 → M a = J0 a) ∧ G (.inr 2, st_h K M, 1, 6)
theorem TH_i {I : st_I} {J0 : st_J} {G G' : pm_R → Prop} (h : TH I J0 G) (hG : ∀ r, G r → G' r) : TH I J0 G' := by
  obtain ⟨K, M, h1, h2, h3⟩ := h
  exact ⟨K, M, h1, h2, hG _ h3⟩
section UQ
variable {X : pm_X} {d : Nat} {I : st_I} {a L : Nat} {J0 : st_J}
theorem up_row2 {J : st_J} (g1 : st_isO a = true) (eL : I a 1 = Int32.ofNat L) (hL : L ≤ 1500) {c i q T u j : Nat} (hc : c ≤ 259) (hi : i ≤ L) (hT : T < 256) (hu : u < 256) (hj : j < u) (r : pm_R) (h : om (rgk (ocO I a) L T 8 0 i 0) (fun v => if c < 259 then Gx X (d + 3) (kc_Fr_unpack, []) (67, [some (.ref 10), some (.ref a), some (.int (Int32.ofNat q)), some (.int (Int32.ofNat T)), some (.int (Int32.ofNat u)), some (.int (Int32.ofNat (j + 1)))], [], st_h (un2 I (c + 1) v.2) (st_y J 11 c v.1), 0, 0) r else r = (.inr 2, st_h (un2 I c v.2) J, 1, 6)) (r = (.inr 2, st_h (un2 I c L) J, 1, 6))) : Gx X (d + 3) (kc_Fr_unpack, []) (67, [some (.ref 10), some (.ref a), some (.int (Int32.ofNat q)), some (.int (Int32.ofNat T)), some (.int (Int32.ofNat u)), some (.int (Int32.ofNat j))], [], st_h (un2 I c i) J, 0, 0) r := by
  have hO := isO_n g1
  have ha : ∀ c i f, un2 I c i a f = I a f := fun c i f => un2_o I c i (Ne.symm hO.1) f
  have ha1 : ∀ c i f, un2 I c i (a + 1) f = I (a + 1) f := fun c i f => un2_o I c i (Ne.symm hO.2) f
  refine ib_Fr_unpack_67 g1 r (ifp ((oi_lt (by omega) (by omega)).mpr hj) ⟨⟨?_, by rw [oi_i (by omega)]; omega⟩, ?_⟩)
  · rw [un2_2, ha, eL, oi_i (by omega), oi_i (by omega)]
    omega
  have en : ngo (un2 I c i) a (Int32.ofNat T) = rgk (ocO I a) L T 8 0 i 0 := by
    unfold ngo
    rw [un2_2, ha, eL, oi_n (by omega), oi_n (by omega), oi_n (by omega)]
    have eo : ocO (un2 I c i) a = ocO I a := by
      funext k
      unfold ocO
      rw [ha1]
    rw [eo]
  rw [en, ha, eL]
  cases hr : rgk (ocO I a) L T 8 0 i 0 with
  | none =>
    rw [hr] at h
    show r = _
    rw [un2_w2]
    exact h
  | some v =>
    rw [hr] at h
    obtain ⟨w, i1⟩ := v
    have hb := (rgk_b _ _ _ _ _ hr).2 (by omega)
    show if _ then _ else _
    have h : if _ then _ else _ := h
    dsimp only at h hb ⊢
    rw [un2_1, un2_w2, oi_a c, un2_w1, oi_n (i := c) (by omega), oi_a j]
    have c59 : Int32.ofNat c < (259 : Int32) ↔ c < 259 := by rw [show (259 : Int32) = Int32.ofNat 259 from rfl, oi_lt (by omega) (by omega)]
    by_cases z1 : c < 259
    · rw [if_pos z1] at h
      exact ifp (c59.mpr z1) ⟨oi_in (by omega) (by omega), h⟩
    · rw [if_neg z1] at h
      exact ifn (fun z => z1 (c59.mp z)) h
theorem up_run (g1 : st_isO a = true) (eL : I a 1 = Int32.ofNat L) (hL : L ≤ 1500) {q T u : Nat} (hT : T < 256) (hu : u < 256) : ∀ m j, j + m = u → ∀ (i : Nat) (A : List Int64) (J : st_J), i ≤ L → QJ J0 J A → A.length ≤ 259 →
  (∀ v, rgr (ocO I a) L T m i = some v → A.length + v.1.length ≤ 259 → ∃ M, QJ J0 M (A ++ v.1) ∧ ∀ r, Gx X (d + 3) (kc_Fr_unpack, []) (12, [some (.ref 10), some (.ref a), some (.int (Int32.ofNat (q + 1))), some (.int (Int32.ofNat T)), some (.int (Int32.ofNat u)), some (.int (Int32.ofNat u))], [], st_h (un2 I (A ++ v.1).length v.2) M, 0, 0) r → Gx X (d + 3) (kc_Fr_unpack, []) (67, [some (.ref 10), some (.ref a), some (.int (Int32.ofNat q)), some (.int (Int32.ofNat T)), some (.int (Int32.ofNat u)), some (.int (Int32.ofNat j))], [], st_h (un2 I A.length i) J, 0, 0) r) ∧
  ((∀ v, rgr (ocO I a) L T m i = some v → ¬ A.length + v.1.length ≤ 259) → TH I J0 (Gx X (d + 3) (kc_Fr_unpack, []) (67, [some (.ref 10), some (.ref a), some (.int (Int32.ofNat q)), some (.int (Int32.ofNat T)), some (.int (Int32.ofNat u)), some (.int (Int32.ofNat j))], [], st_h (un2 I A.length i) J, 0, 0))) := by
  intro m
  induction m with
  | zero =>
    intro j hj i A J hi hA hl
    obtain rfl : j = u := hj
    refine ⟨fun v hv hl2 => ?_, fun hb => absurd (by show A.length + 0 ≤ 259; omega) (hb ([], i) rfl)⟩
    injection hv with hv
    subst hv
    rw [List.append_nil]
    refine ⟨J, hA, fun r hr => ib_Fr_unpack_67 g1 r (ifn (by rw [oi_lt (by omega) (by omega)]; omega) ?_)⟩
    rw [oi_a]
    exact hr
  | succ m ih =>
    intro j hj i A J hi hA hl
    have row := fun r h => up_row2 (X := X) (d := d) (J := J) g1 eL hL (c := A.length) (i := i) (q := q) (T := T) (u := u) (j := j) hl hi hT hu (by omega) r h
    have thr0 : ∀ (c' i' : Nat) (r : pm_R → Prop), r (.inr 2, st_h (un2 I c' i') J, 1, 6) → TH I J0 r := fun c' i' r hr => ⟨_, _, fun x f hx => un2_o I c' i' hx f, hA.1, hr⟩
    cases hr : rgk (ocO I a) L T 8 0 i 0 with
    | none =>
      rw [hr] at row
      have er : rgr (ocO I a) L T (m + 1) i = none := by unfold rgr; rw [hr]
      rw [er]
      exact ⟨fun v hv => (by cases hv), fun _ => thr0 _ _ _ (row _ rfl)⟩
    | some v1 =>
      obtain ⟨w, i1⟩ := v1
      rw [hr] at row
      have hb := (rgk_b _ _ _ _ _ hr).2 hi
      dsimp only at hb
      by_cases c9 : A.length < 259
      · have row' : ∀ r, Gx X (d + 3) (kc_Fr_unpack, []) (67, [some (.ref 10), some (.ref a), some (.int (Int32.ofNat q)), some (.int (Int32.ofNat T)), some (.int (Int32.ofNat u)), some (.int (Int32.ofNat (j + 1)))], [], st_h (un2 I (A ++ [w]).length i1) (st_y J 11 A.length w), 0, 0) r → _ := fun r h => row r (by
          show if _ then _ else _
          refine ifp c9 ?_
          rw [List.length_append] at h
          exact h)
        obtain ⟨h1, h2⟩ := ih (j + 1) (by omega) i1 (A ++ [w]) (st_y J 11 A.length w) hb (QJ_s w hA) (by rw [List.length_append]; show A.length + 1 ≤ 259; omega)
        rw [show (A ++ [w]).length = A.length + 1 by rw [List.length_append]; rfl] at h1 h2
        rw [show (A ++ [w]).length = A.length + 1 by rw [List.length_append]; rfl] at row'
        cases hr2 : rgr (ocO I a) L T m i1 with
        | none =>
          have er : rgr (ocO I a) L T (m + 1) i = none := by
            conv => lhs; unfold rgr
            rw [hr]; dsimp only; rw [hr2]
          rw [er]
          refine ⟨fun v hv => (by cases hv), fun _ => TH_i (h2 (fun v hv => by rw [hr2] at hv; cases hv)) row'⟩
        | some v2 =>
          obtain ⟨l, i2⟩ := v2
          have er : rgr (ocO I a) L T (m + 1) i = some (w :: l, i2) := by
            conv => lhs; unfold rgr
            rw [hr]; dsimp only; rw [hr2]
          rw [er]
          refine ⟨fun v hv hl2 => ?_, fun hb2 => TH_i (h2 (fun v hv => ?_)) row'⟩
          · injection hv with hv
            subst hv
            dsimp only at hl2 ⊢
            rw [List.length_cons] at hl2
            obtain ⟨M, hM, hG⟩ := h1 (l, i2) hr2 (by dsimp only; omega)
            rw [List.append_assoc] at hM hG
            exact ⟨M, hM, fun r h => row' r (hG r h)⟩
          · have := hb2 _ rfl
            rw [hr2] at hv
            injection hv with hv
            subst hv
            dsimp only at this ⊢
            rw [List.length_cons] at this
            omega
      · refine ⟨fun v hv hl2 => ?_, fun _ => thr0 _ _ _ (row _ (ifn c9 rfl))⟩
        have := (rgr_b _ _ _ hv).2.2
        omega
set_option maxRecDepth 20000 in
theorem up_all (g1 : st_isO a = true) (eL : I a 1 = Int32.ofNat L) (hL : L ≤ 1500) : ∀ m i, i ≤ L → L ≤ i + m → ∀ (q : Nat) (A : List Int64) (J : st_J) (u3 u4 u5 : Option Value), q ≤ i → QJ J0 J A → A.length ≤ 259 →
  (∀ l, ups (ocO I a) L m i = some l → A.length + l.length ≤ 259 → ∃ M, QJ J0 M (A ++ l) ∧ Gx X (d + 3) (kc_Fr_unpack, []) (12, [some (.ref 10), some (.ref a), some (.int (Int32.ofNat q)), u3, u4, u5], [], st_h (un2 I A.length i) J, 0, 0) (.inl none, st_h (un2 I (A ++ l).length L) M, 0, 0)) ∧
  ((∀ l, ups (ocO I a) L m i = some l → ¬ A.length + l.length ≤ 259) → TH I J0 (Gx X (d + 3) (kc_Fr_unpack, []) (12, [some (.ref 10), some (.ref a), some (.int (Int32.ofNat q)), u3, u4, u5], [], st_h (un2 I A.length i) J, 0, 0))) := by
  have hO := isO_n g1
  have ha : ∀ c i f, un2 I c i a f = I a f := fun c i f => un2_o I c i (Ne.symm hO.1) f
  have fin : ∀ (q : Nat) (A : List Int64) (J : st_J) (u3 u4 u5 : Option Value) (i : Nat), i = L → q ≤ i → Gx X (d + 3) (kc_Fr_unpack, []) (12, [some (.ref 10), some (.ref a), some (.int (Int32.ofNat q)), u3, u4, u5], [], st_h (un2 I A.length i) J, 0, 0) (.inl none, st_h (un2 I A.length L) J, 0, 0) := fun q A J u3 u4 u5 i e hq => by
    subst e
    have n1 : ¬ ((un2 I A.length i) 10 2 < (un2 I A.length i) a 1) := by rw [un2_2, ha, eL, oi_lt (by omega) (by omega)]; omega
    by_cases c : Int32.ofNat q < (1500 : Int32)
    · exact ib_Fr_unpack_12 g1 _ (ifp c (ifn n1 rfl))
    · exact ib_Fr_unpack_12 g1 _ (ifn c rfl)
  intro m
  induction m with
  | zero =>
    intro i hi hm q A J u3 u4 u5 hq hA hl
    refine ⟨fun l hl1 _ => ?_, fun hb => absurd (by show A.length + 0 ≤ 259; omega) (hb [] rfl)⟩
    injection hl1 with hl1
    subst hl1
    rw [List.append_nil]
    exact ⟨J, hA, fin q A J u3 u4 u5 i (by omega) hq⟩
  | succ m ih =>
    intro i hi hm q A J u3 u4 u5 hq hA hl
    by_cases ci : i < L
    · have row := fun r h => up_row (X := X) (d := d) (J := J) g1 eL hL (c := A.length) (i := i) (q := q) (u3 := u3) (u4 := u4) (u5 := u5) hl ci (by omega) r h
      have thr0 : ∀ (c' i' : Nat) (J' : st_J) (r : pm_R → Prop), (∀ x, x ≠ 11 → J' x = J0 x) → r (.inr 2, st_h (un2 I c' i') J', 1, 6) → TH I J0 r := fun c' i' J' r hJ hr => ⟨_, _, fun x f hx => un2_o I c' i' hx f, hJ, hr⟩
      have hoc : ∀ k, 0 ≤ (ocO I a k).toInt ∧ (ocO I a k).toInt < 256 := fun k => by
        have := bn_i (x := ocO I a k) (bn_and32 (n := 8) 255 rfl) (by omega)
        omega
      cases hr : rgk (ocO I a) L (ocO I a i).toNatClampNeg 8 0 (i + 1) 0 with
      | none =>
        rw [hr] at row
        have er : ups (ocO I a) L (m + 1) i = none := by
          unfold ups
          rw [if_pos ci, hr]
        rw [er]
        exact ⟨fun v hv => (by cases hv), fun _ => thr0 _ _ J _ hA.1 (row _ rfl)⟩
      | some v1 =>
        obtain ⟨w, i1⟩ := v1
        rw [hr] at row
        have hb := rgk_b _ _ _ _ _ hr
        have hb1 := hb.1
        have hb2 := hb.2 (by omega)
        dsimp only at hb1 hb2
        by_cases c9 : A.length < 259
        · have hA1 := QJ_s w hA
          have hAl : (A ++ [w]).length = A.length + 1 := by rw [List.length_append]; rfl
          by_cases ct : ocO I a i = 0 ∨ ocO I a i = 255
          · by_cases c1 : i1 < L
            · have hT := hoc i
              have hU := hoc i1
              have eT := oi_of hT.1
              have eUu := oi_of hU.1
              have nT := cln hT.1
              have nU := cln hU.1
              have row' : ∀ r, Gx X (d + 3) (kc_Fr_unpack, []) (67, [some (.ref 10), some (.ref a), some (.int (Int32.ofNat q)), some (.int (Int32.ofNat (ocO I a i).toNatClampNeg)), some (.int (Int32.ofNat (ocO I a i1).toNatClampNeg)), some (.int (Int32.ofNat 0))], [], st_h (un2 I (A.length + 1) (i1 + 1)) (st_y J 11 A.length w), 0, 0) r → _ := fun r h => row r (by
                show if _ then _ else _
                refine ifp c9 (ifp ct (ifp c1 ?_))
                rw [← eT, ← eUu] at h
                exact h)
              obtain ⟨h1, h2⟩ := up_run (X := X) (d := d) (J0 := J0) g1 eL hL (q := q) (T := (ocO I a i).toNatClampNeg) (u := (ocO I a i1).toNatClampNeg) (by omega) (by omega) (ocO I a i1).toNatClampNeg 0 (by omega) (i1 + 1) (A ++ [w]) (st_y J 11 A.length w) (by omega) hA1 (by omega)
              rw [hAl] at h1 h2
              cases hr2 : rgr (ocO I a) L (ocO I a i).toNatClampNeg (ocO I a i1).toNatClampNeg (i1 + 1) with
              | none =>
                have er : ups (ocO I a) L (m + 1) i = none := by
                  unfold ups
                  rw [if_pos ci, hr]; dsimp only; rw [if_pos ct, if_pos c1, hr2]
                rw [er]
                exact ⟨fun v hv => (by cases hv), fun _ => TH_i (h2 (fun v hv => by rw [hr2] at hv; cases hv)) row'⟩
              | some v2 =>
                obtain ⟨l1, i2⟩ := v2
                have gb := rgr_b _ _ _ hr2
                have gb1 := gb.1
                have gb2 := gb.2.1 (by omega)
                dsimp only at gb1 gb2
                by_cases c8 : A.length + 1 + l1.length ≤ 259
                · obtain ⟨M1, hM1, hG1⟩ := h1 (l1, i2) hr2 c8
                  dsimp only at hM1 hG1
                  obtain ⟨k1, k2⟩ := ih i2 gb2 (by omega) (q + 1) (A ++ [w] ++ l1) M1 (some (.int (Int32.ofNat (ocO I a i).toNatClampNeg))) (some (.int (Int32.ofNat (ocO I a i1).toNatClampNeg))) (some (.int (Int32.ofNat (ocO I a i1).toNatClampNeg))) (by omega) hM1 (by rw [List.length_append, hAl]; exact c8)
                  rw [show (A ++ [w] ++ l1).length = A.length + 1 + l1.length by rw [List.length_append, hAl]] at k1 k2 hG1
                  cases hr3 : ups (ocO I a) L m i2 with
                  | none =>
                    have er : ups (ocO I a) L (m + 1) i = none := by
                      conv => lhs; unfold ups
                      rw [if_pos ci, hr]; dsimp only; rw [if_pos ct, if_pos c1, hr2]; dsimp only; rw [hr3]
                    rw [er]
                    exact ⟨fun v hv => (by cases hv), fun _ => TH_i (k2 (fun v hv => by rw [hr3] at hv; cases hv)) (fun r h => row' r (hG1 r h))⟩
                  | some l2 =>
                    have er : ups (ocO I a) L (m + 1) i = some (w :: (l1 ++ l2)) := by
                      conv => lhs; unfold ups
                      rw [if_pos ci, hr]; dsimp only; rw [if_pos ct, if_pos c1, hr2]; dsimp only; rw [hr3]
                    rw [er]
                    have el : A ++ (w :: (l1 ++ l2)) = A ++ [w] ++ l1 ++ l2 := by simp only [List.append_assoc, List.cons_append, List.nil_append]
                    refine ⟨fun l hl1 hl2 => ?_, fun hbb => TH_i (k2 (fun v hv => ?_)) (fun r h => row' r (hG1 r h))⟩
                    · injection hl1 with hl1
                      subst hl1
                      rw [List.length_cons, List.length_append] at hl2
                      obtain ⟨M, hM, hG⟩ := k1 l2 hr3 (by omega)
                      rw [el]
                      exact ⟨M, hM, row' _ (hG1 _ hG)⟩
                    · have := hbb _ rfl
                      rw [hr3] at hv
                      injection hv with hv
                      subst hv
                      rw [List.length_cons, List.length_append] at this
                      omega
                · have tt := TH_i (h2 (fun v hv => by rw [hr2] at hv; injection hv with hv; subst hv; exact c8)) row'
                  refine ⟨fun l hl1 hl2 => ?_, fun _ => tt⟩
                  exfalso
                  unfold ups at hl1
                  rw [if_pos ci, hr] at hl1
                  dsimp only at hl1
                  rw [if_pos ct, if_pos c1, hr2] at hl1
                  dsimp only at hl1
                  split at hl1
                  · cases hl1
                  · injection hl1 with hl1
                    subst hl1
                    rw [List.length_cons, List.length_append] at hl2
                    omega
            · have er : ups (ocO I a) L (m + 1) i = none := by
                unfold ups
                rw [if_pos ci, hr]; dsimp only; rw [if_pos ct, if_neg c1]
              rw [er]
              exact ⟨fun v hv => (by cases hv), fun _ => thr0 _ _ _ _ hA1.1 (row _ (ifp c9 (ifp ct (ifn c1 rfl))))⟩
          · have row' : ∀ r, Gx X (d + 3) (kc_Fr_unpack, []) (12, [some (.ref 10), some (.ref a), some (.int (Int32.ofNat (q + 1))), some (.int (ocO I a i)), u4, u5], [], st_h (un2 I (A.length + 1) i1) (st_y J 11 A.length w), 0, 0) r → _ := fun r h => row r (ifp c9 (ifn ct h))
            obtain ⟨k1, k2⟩ := ih i1 (by omega) (by omega) (q + 1) (A ++ [w]) (st_y J 11 A.length w) (some (.int (ocO I a i))) u4 u5 (by omega) hA1 (by omega)
            rw [hAl] at k1 k2
            cases hr3 : ups (ocO I a) L m i1 with
            | none =>
              have er : ups (ocO I a) L (m + 1) i = none := by
                conv => lhs; unfold ups
                rw [if_pos ci, hr]; dsimp only; rw [if_neg ct, hr3]
              rw [er]
              exact ⟨fun v hv => (by cases hv), fun _ => TH_i (k2 (fun v hv => by rw [hr3] at hv; cases hv)) row'⟩
            | some l2 =>
              have er : ups (ocO I a) L (m + 1) i = some (w :: l2) := by
                conv => lhs; unfold ups
                rw [if_pos ci, hr]; dsimp only; rw [if_neg ct, hr3]
              rw [er]
              have el : A ++ (w :: l2) = A ++ [w] ++ l2 := by simp only [List.append_assoc, List.cons_append, List.nil_append]
              refine ⟨fun l hl1 hl2 => ?_, fun hbb => TH_i (k2 (fun v hv => ?_)) row'⟩
              · injection hl1 with hl1
                subst hl1
                rw [List.length_cons] at hl2
                obtain ⟨M, hM, hG⟩ := k1 l2 hr3 (by omega)
                rw [el]
                exact ⟨M, hM, row' _ hG⟩
              · have := hbb _ rfl
                rw [hr3] at hv
                injection hv with hv
                subst hv
                rw [List.length_cons] at this
                omega
        · have tt := thr0 A.length i1 J _ hA.1 (row _ (ifn c9 rfl))
          refine ⟨fun l hl1 hl2 => ?_, fun _ => tt⟩
          exfalso
          unfold ups at hl1
          rw [if_pos ci, hr] at hl1
          dsimp only at hl1
          have h1 : 1 ≤ l.length := by
            by_cases ct : ocO I a i = 0 ∨ ocO I a i = 255
            · rw [if_pos ct] at hl1
              by_cases c1 : i1 < L
              · rw [if_pos c1] at hl1
                split at hl1
                · cases hl1
                · split at hl1
                  · cases hl1
                  · injection hl1 with hl1
                    subst hl1
                    rw [List.length_cons]
                    omega
              · rw [if_neg c1] at hl1
                cases hl1
            · rw [if_neg ct] at hl1
              split at hl1
              · cases hl1
              · injection hl1 with hl1
                subst hl1
                rw [List.length_cons]
                omega
          omega
    · have er : ups (ocO I a) L (m + 1) i = some [] := by
        unfold ups
        rw [if_neg ci]
      rw [er]
      refine ⟨fun l hl1 _ => ?_, fun hb => absurd (by show A.length + 0 ≤ 259; omega) (hb [] rfl)⟩
      injection hl1 with hl1
      subst hl1
      rw [List.append_nil]
      exact ⟨J, hA, fin q A J u3 u4 u5 i (by omega) hq⟩
end UQ
/-- the class's unpacking -/
theorem up_ex {X : pm_X} {d : Nat} {I : st_I} {J : st_J} {a L : Nat} (g1 : st_isO a = true) (eL : I a 1 = Int32.ofNat L) (hL : L ≤ 1500) :
  (∀ l, ups (ocO I a) L 1501 0 = some l → l.length ≤ 259 → ∃ M, QJ J M l ∧ Ex X (d + 4) 143 [.ref 10, .ref a] (st_h I J) (.inl none, st_h (un2 I l.length L) M, 0, 0)) ∧
  ((∀ l, ups (ocO I a) L 1501 0 = some l → ¬ l.length ≤ 259) → TH I J (Ex X (d + 4) 143 [.ref 10, .ref a] (st_h I J))) := by
  obtain ⟨h1, h2⟩ := up_all (X := X) (d := d) (J0 := J) g1 eL hL 1501 0 (by omega) (by omega) 0 [] J none none none (by omega) ⟨fun _ _ => rfl, fun k hk => absurd hk (Nat.not_lt_zero k)⟩ (by show 0 ≤ 259; omega)
  rw [show ([] : List Int64).length = 0 from rfl] at h1 h2
  refine ⟨fun l hl hl2 => ?_, fun hb => TH_i (h2 (fun l hl => by rw [Nat.zero_add]; exact hb l hl)) (fun r h => ie_Fr_unpack g1 r h)⟩
  obtain ⟨M, hM, hG⟩ := h1 l hl (by omega)
  exact ⟨M, hM, ie_Fr_unpack g1 _ hG⟩
