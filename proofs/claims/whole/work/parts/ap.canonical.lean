/-! canonical -/
theorem RR_al {I I' : st_I} {J J' : st_J} {A : Nat} (h : RR I J) (hI : ∀ a f, rI a f → ¬ (a = 8 ∧ f = 0) → ¬ (a = 166 ∧ f = 8) → I' a f = I a f) (h1 : I' 8 0 = Int32.ofNat A) (h2 : I' 166 8 = Int32.ofNat A) (hA : A ≤ 100000) (hJ : ∀ a k, rJ a → J' a k = J a k) : RR I' J' := by
  obtain ⟨⟨⟨a1, a2, a3⟩, b1, b2, b3, b4, b5⟩, hz, ho, hc⟩ := h
  have q : ∀ a f, rI a f → ¬ (a = 8 ∧ f = 0) → ¬ (a = 166 ∧ f = 8) → I' a f = I a f := hI
  unfold rI at q
  have e12 := q 1 2 (by omega) (by omega) (by omega)
  have e7 : ∀ s, I' 7 s = I 7 s := fun s => q 7 s (by omega) (by omega) (by omega)
  refine ⟨⟨⟨by rw [e12]; exact a1, fun s hs => by rw [e7]; exact a2 s hs, by rw [h1, oi_i (by omega)]; omega⟩, by rw [q 166 6 (by omega) (by omega) (by omega), e12]; exact b1, fun s hs => by rw [q 170 s (by omega) (by omega) (by omega), e7]; exact b2 s hs, by rw [h1, h2], fun s k hs hk => ?_, fun s hs hl => ?_⟩, Rz_cg hz (q 1 3 (by omega) (by omega) (by omega)) (q 166 9 (by omega) (by omega) (by omega)) (q 166 11 (by omega) (by omega) (by omega)), Ro_cg ho (q 0 6 (by omega) (by omega) (by omega)) (q 0 7 (by omega) (by omega) (by omega)) (fun a f h1 h2 => q a f (by omega) (by omega) (by omega)) (q 166 7 (by omega) (by omega) (by omega)) (fun f => q 171 f (by omega) (by omega) (by omega)), fun c hc' => cr_cg (hc c hc') (fun f _ => q (150 + c) f (by omega) (by omega) (by omega)) (fun a h1 h2 => q a c (by omega) (by omega) (by omega)) (fun s _ => e7 s)⟩
  · rw [hJ 167 _ (Or.inr rfl), hJ (3 + s) _ (Or.inl (by omega))]
    exact b4 s k hs hk
  · rw [e7]
    exact b5 s hs (by rw [e12] at hl; exact hl)
theorem cpx_o {X : pm_X} {d : Nat} {I I1 : st_I} {J J1 : st_J} {p3 p4 p5 p6 : Int32} {Z : st_I × st_J} (h : Ex X (d + 4) 153 [.ref 12, .ref 1, .ref 8, .int p3, .int p4, .int p5, .int p6] (st_h I J) (.inl none, st_h I1 J1, 0, 0)) : cpx X d I J p3 p4 p5 p6 (some (I1, J1)) Z True := fun r hr => by
  rw [show r = (.inl none, st_h I1 J1, 0, 0) from hr]
  exact h
set_option maxRecDepth 20000 in
theorem s_canonical {X : pm_X} (hX : X 1 = (8, eb)) {d : Nat} {I : st_I} {J : st_J} (h : RR I J) : StpI X (d + 72) 150 [.ref 0, .ref 187] 231 [.ref 166] I J := by
  have h' := h
  obtain ⟨hm, hz, ho, hc⟩ := h'
  obtain ⟨⟨⟨s1, s4⟩, hu, ha⟩, b1, b2, b3, b4, b5⟩ := hm
  have nS := cln (x := I 1 2) (by omega)
  have eS := oi_of (x := I 1 2) (by omega)
  have eU : ∀ x, x < 4 → I 7 x = Int32.ofNat (un (I 7) x) ∧ un (I 7) x ≤ 64 := fun x hx => by
    have a := hu x hx
    have b := un_i a.1
    exact ⟨oi_of a.1, by omega⟩
  have nA := cln ha.1
  have eA := oi_of ha.1
  obtain ⟨S, hS⟩ : ∃ S, S = (I 1 2).toNatClampNeg := ⟨_, rfl⟩
  obtain ⟨U, hU⟩ : ∃ U, U = un (I 7) := ⟨_, rfl⟩
  obtain ⟨A, hA⟩ : ∃ A, A = (I 8 0).toNatClampNeg := ⟨_, rfl⟩
  obtain ⟨W, hW⟩ : ∃ W : Nat → Nat → Int64, W = fun s k => J (3 + s) k := ⟨_, rfl⟩
  rw [← hS] at nS eS
  rw [← hU] at eU
  rw [← hA] at nA eA
  have pre : ((¬ ((0 : Int64) < (0 : Int64))) → (((0 : Int64) < (Int32.toInt64 (I 1 2))) → ((¬ ((0 : Int32) < (0 : Int32))) → (pm_in (Int64.toInt32 (0 : Int64)) 4) = true))) := fun _ _ _ => by decide
  have i70 : I 7 (Int32.toNatClampNeg (Int64.toInt32 (0 : Int64))) = I 7 0 := rfl
  have cnd : ((¬ ((0 : Int64) < (0 : Int64))) ∧ (((0 : Int64) < (Int32.toInt64 (I 1 2))) ∧ ((¬ ((0 : Int32) < (0 : Int32))) ∧ ((0 : Int32) < (I 7 (Int32.toNatClampNeg (Int64.toInt32 (0 : Int64)))))))) ↔ ¬ (U 0 = 0) := by
    rw [i70, (eU 0 (by omega)).1, show ((0 : Int32) < Int32.ofNat (U 0)) ↔ 0 < U 0 by rw [show (0 : Int32) = Int32.ofNat 0 from rfl, oi_lt (by omega) (by have := (eU 0 (by omega)).2; omega)], i64_lt, i64_lt, tl, j0, i32_lt, i0]
    omega
  have m70 : (I 170 0 = 0) ↔ U 0 = 0 := by
    rw [b2 0 (by omega), (eU 0 (by omega)).1]
    exact oi_eq (b := 0) (by have := (eU 0 (by omega)).2; omega) (by omega)
  by_cases c0 : U 0 = 0
  · exact ⟨I, J, 1, 1, 6, iv_L_canonical (d := d + 65) (o2 := none) (Z2 := (I, J)) (e2 := True) _ ⟨pre, ifn (fun z => cnd.mp z c0) rfl⟩, by omega, by omega, st_w (st_w I 166 10 0) 166 10 1, J, 0, ie_M_canonical (d := d + 67) _ (ifp (m70.mpr c0) rfl), e_o _ _ _, fun z => absurd z (by decide), RR_ee h (fun _ _ _ => rfl)⟩
  · obtain ⟨I0, hI0⟩ : ∃ I0, I0 = st_w I 12 1 (1 : Int32) := ⟨_, rfl⟩
    obtain ⟨J0, hJ0⟩ : ∃ J0, J0 = st_fl J 13 64 (0 : Int64) := ⟨_, rfl⟩
    have I0o : ∀ a f, ¬ (a = 12 ∧ f = 1) → I0 a f = I a f := fun a f q => by rw [hI0, st_w_e, if_neg q]
    have J0o : ∀ a, a ≠ 13 → J0 a = J a := fun a q => by
      rw [hJ0]
      funext k
      unfold st_fl
      rw [if_neg (fun z => q z.1)]
    have hF0 : ∀ k, k < 64 → J0 13 k = 0 := fun k hk => by
      rw [hJ0]
      unfold st_fl
      rw [if_pos ⟨rfl, hk⟩]
    have hMS : MS W U S I0 J0 := ⟨by rw [I0o 1 2 (by omega)]; exact eS, by omega, fun x hx => by rw [I0o 7 x (by omega)]; exact eU x hx, fun s hs => by rw [J0o (3 + s) (by omega), hW]⟩
    have run := cc (W := W) (U := U) (S := S) hX d 64 (Nat.le_refl 64) 0 0 0 I0 J0 (A, 1, J0 13) (by omega) (by omega) (by omega) hMS ⟨⟨by rw [I0o 8 0 (by omega)]; exact eA, by show A ≤ 100000; omega⟩, ⟨by rw [hI0, st_w_at]; rfl, by show 1 ≤ 64; omega⟩, rfl⟩
    have mref : ∀ (K : st_I) (M : st_J), (∀ a f, 150 ≤ a → ¬ (a ≤ 165) → K a f = I a f) → (∀ a, 160 ≤ a → a ≠ 187 → M a = J a) → MR W U S K M ∧ (K 166 8 = Int32.ofNat A ∧ A ≤ 100000) ∧ ¬ (K 170 0 = 0) := fun K M hK hM => by
      refine ⟨⟨by rw [hK 166 6 (by omega) (by omega), b1]; exact eS, by omega, fun x hx => ⟨by rw [hK 170 x (by omega) (by omega), b2 x hx]; exact (eU x hx).1, (eU x hx).2⟩, fun s k hs hk => by rw [hM 167 (by omega) (by omega), hW]; exact b4 s k hs hk⟩, ⟨by rw [hK 166 8 (by omega) (by omega), b3]; exact eA, by omega⟩, ?_⟩
      rw [hK 170 0 (by omega) (by omega)]
      exact fun z => c0 (m70.mp z)
    cases hcp : cpy W U S 64 0 0 0 (A, 1, J0 13) with
    | inl g =>
      rw [hcp] at run
      obtain ⟨I1, J1, f1, f2, f3⟩ := run
      have f3 := f3 _ rfl
      obtain ⟨n, hn⟩ : ∃ n, n = g.2.1 := ⟨_, rfl⟩
      obtain ⟨⟨k1, k2⟩, ⟨k3, k4⟩, k5⟩ := f2
      rw [← hn] at k3 k4
      obtain ⟨Ic, hIc⟩ : ∃ Ic, Ic = st_cz (st_w (st_w (st_w (st_w (st_w (st_w (st_w I1 7 0 (0 : Int32)) 7 1 (0 : Int32)) 7 2 (0 : Int32)) 7 3 (0 : Int32)) 1 2 (1 : Int32)) 1 3 (0 : Int32)) 7 0 (Int32.ofNat n)) 16 := ⟨_, rfl⟩
      have Ico : ∀ a f, ¬ (150 ≤ a ∧ a < 166) → a ≠ 7 → a ≠ 1 → Ic a f = I1 a f := fun a f h1 h2 h3 => by
        rw [hIc, cz_o _ _ (by omega), st_w_e, if_neg (by omega), st_w_e, if_neg (by omega), st_w_e, if_neg (by omega), st_w_e, if_neg (by omega), st_w_e, if_neg (by omega), st_w_e, if_neg (by omega), st_w_e, if_neg (by omega)]
      have Ic7 : ∀ x, x < 4 → Ic 7 x = if x = 0 then Int32.ofNat n else 0 := fun x hx => by
        rw [hIc, cz_o _ _ (by omega)]
        obtain rfl | rfl | rfl | rfl : x = 0 ∨ x = 1 ∨ x = 2 ∨ x = 3 := by omega
        all_goals rfl
      have Ic12 : Ic 1 2 = 1 := by rw [hIc, cz_o _ _ (by omega)]; rfl
      have Ic13 : Ic 1 3 = 0 := by rw [hIc, cz_o _ _ (by omega)]; rfl
      have Ic121 : Ic 12 1 = Int32.ofNat n := by rw [Ico 12 1 (by omega) (by omega) (by omega), k3]
      obtain ⟨Jc, hJc⟩ : ∃ Jc, Jc = st_y (st_yr (fl4 J1) 3 (va_cpy ((fl4 J1) 13) ((fl4 J1) 3) 0 0 n)) 187 0 (Int32.toInt64 (Int32.ofNat n)) := ⟨_, rfl⟩
      have f4o : ∀ a, a < 3 ∨ 6 < a → (fl4 J1) a = J1 a := fun a q => by
        funext k
        unfold fl4 st_fl
        rw [if_neg (by omega), if_neg (by omega), if_neg (by omega), if_neg (by omega)]
      have Jco : ∀ a, 7 ≤ a → a ≠ 187 → Jc a = J1 a := fun a h1 h2 => by
        rw [hJc, st_y_o _ _ _ h2, st_yr_o _ _ (by omega), f4o a (by omega)]
      have Jcw : ∀ s k, s < 4 → k < 64 → Jc (3 + s) k = if s = 0 ∧ k < n then g.2.2 k else 0 := fun s k hs hk => by
        rw [hJc, st_y_o _ _ _ (by omega)]
        by_cases c : s = 0
        · subst c
          rw [show 3 + 0 = 3 from rfl, st_yr_s]
          unfold va_cpy
          by_cases c2 : k < n
          · rw [if_pos (by omega), if_pos ⟨rfl, c2⟩, f4o 13 (by omega), k5, Nat.zero_add, Nat.sub_zero]
          · rw [if_neg (by omega), if_neg (fun z => c2 z.2)]
            exact fl4_w J1 (s := 0) (by omega) hk
        · rw [st_yr_o _ _ (by omega), if_neg (fun z => c z.1)]
          exact fl4_w J1 hs hk
      have hIf : ∀ a f, a ≠ 8 → ¬ (a = 12 ∧ f = 1) → ¬ (15 ≤ a ∧ a ≤ 144) → I1 a f = I a f := fun a f h1 h2 h3 => by rw [f1.1 a f h1 h2 (by omega), I0o a f h2]
      have hJf : ∀ a, a ≠ 8 → a ≠ 13 → J1 a = J a := fun a h1 h2 => by rw [f1.2 a h1 h2, J0o a h2]
      obtain ⟨mr1, mr2, mr3⟩ := mref Ic Jc (fun a f h1 h2 => by rw [Ico a f (by omega) (by omega) (by omega), hIf a f (by omega) (by omega) (by omega)]) (fun a h1 h2 => by rw [Jco a (by omega) h2, hJf a (by omega) (by omega)])
      obtain ⟨I', L, r1, r2, r3, r4, r5, r6, r7, r8⟩ := (mc_ex (X := X) (d := d + 67) (F0 := J0 13) mr1 mr2 hF0 mr3).1 g hcp
      rw [← hn] at r5 r7 r8
      refine ⟨Ic, Jc, 0, 0, 0, iv_L_canonical (d := d + 65) (o2 := some (I1, J1)) (Z2 := (I1, J1)) (e2 := True) _ ⟨pre, ifp (cnd.mpr c0) ⟨?_, ?_⟩⟩, by omega, by omega, _, L, Int32.ofNat n, r8, ?_, fun _ => ?_, ?_⟩
      · rw [← hI0, ← hJ0]
        exact cpx_o f3
      · show _ ∧ _
        dsimp only
        rw [k3, ← hIc, Ic121, oi_n (by omega)]
        refine ⟨?_, by rw [hJc]; rfl⟩
        unfold st_cpk
        rw [oi_n (by omega), decide_eq_false (oi_ng (by omega)), decide_eq_false (show ¬ ((0 : Int32) < 0) by decide), Nat.ble_eq_true_of_le (show (0 : Int32).toNatClampNeg + n ≤ 64 by show 0 + n ≤ 64; omega)]
        rfl
      · rw [mz_o _ _ (by omega), st_w_e, if_neg (by omega), st_w_e, if_neg (by omega), st_w_e, if_neg (by omega), st_w_e, if_neg (by omega), st_w_e, if_neg (by omega), st_w_e, if_neg (by omega)]
        exact r2
      · rw [r6 187 (by omega) (by omega), hJc, y_o]
      · obtain ⟨I2, hI2⟩ : ∃ I2, I2 = st_mz (st_w (st_w (st_w (st_w (st_w (st_w I' 170 1 0) 170 2 0) 170 3 0) 170 0 (Int32.ofNat n)) 166 6 (1 : Int32)) 166 11 (0 : Int32)) 17 := ⟨_, rfl⟩
        rw [← hI2]
        have q : ∀ a f, ¬ (173 ≤ a ∧ a ≤ 182) → a ≠ 170 → ¬ (a = 166 ∧ (f = 6 ∨ f = 11)) → I2 a f = I' a f := fun a f h1 h2 h3 => by
          rw [hI2, mz_o _ _ h1, st_w_e, if_neg (by omega), st_w_e, if_neg (by omega), st_w_e, if_neg (by omega), st_w_e, if_neg (by omega), st_w_e, if_neg (by omega), st_w_e, if_neg (by omega)]
        have qc : ∀ a f, ¬ (173 ≤ a ∧ a ≤ 186) → a ≠ 170 → ¬ (a = 166 ∧ (f = 6 ∨ f = 8 ∨ f = 10 ∨ f = 11 ∨ f = 26)) → I2 a f = Ic a f := fun a f h1 h2 h3 => by rw [q a f (by omega) h2 (by omega), r1 a f (by omega) (by omega) (by omega)]
        have qI : ∀ a f, ¬ (173 ≤ a ∧ a ≤ 186) → a ≠ 170 → ¬ (a = 166 ∧ (f = 6 ∨ f = 8 ∨ f = 10 ∨ f = 11 ∨ f = 26)) → ¬ (150 ≤ a ∧ a < 166) → a ≠ 7 → a ≠ 1 → a ≠ 8 → a ≠ 12 → ¬ (15 ≤ a ∧ a ≤ 144) → I2 a f = I a f := fun a f h1 h2 h3 h4 h5 h6 h7 h8 h9 => by rw [qc a f h1 h2 h3, Ico a f h4 h5 h6, hIf a f h7 (by omega) h9]
        have i12 : I2 1 2 = 1 := by rw [qc 1 2 (by omega) (by omega) (by omega), Ic12]
        have i7 : ∀ x, x < 4 → I2 7 x = if x = 0 then Int32.ofNat n else 0 := fun x hx => by rw [qc 7 x (by omega) (by omega) (by omega), Ic7 x hx]
        have i170 : ∀ x, x < 4 → I2 170 x = if x = 0 then Int32.ofNat n else 0 := fun x hx => by
          rw [hI2, mz_o _ _ (by omega)]
          obtain rfl | rfl | rfl | rfl : x = 0 ∨ x = 1 ∨ x = 2 ∨ x = 3 := by omega
          all_goals rfl
        have i80 : I2 8 0 = Int32.ofNat g.1 := by rw [qc 8 0 (by omega) (by omega) (by omega), Ico 8 0 (by omega) (by omega) (by omega), k1]
        refine ⟨⟨⟨by rw [i12]; decide, fun s hs => ?_, by rw [i80, oi_i (by omega)]; omega⟩, ?_, fun s hs => by rw [i170 s hs, i7 s hs], ?_, fun s k hs hk => ?_, fun s hs hle => ?_⟩, Or.inl ⟨?_, ?_⟩, Ro_cg ho (qI 0 6 (by omega) (by omega) (by omega) (by omega) (by omega) (by omega) (by omega) (by omega) (by omega)) (qI 0 7 (by omega) (by omega) (by omega) (by omega) (by omega) (by omega) (by omega) (by omega) (by omega)) (fun x f h1 h2 => qI x f (by omega) (by omega) (by omega) (by omega) (by omega) (by omega) (by omega) (by omega) (by omega)) (qI 166 7 (by omega) (by omega) (by omega) (by omega) (by omega) (by omega) (by omega) (by omega) (by omega)) (fun f => qI 171 f (by omega) (by omega) (by omega) (by omega) (by omega) (by omega) (by omega) (by omega) (by omega)), fun c hc' => cr_0 (fun f hf => ?_) (fun x h1 h2 => ?_)⟩
        · rw [i7 s hs]
          by_cases z : s = 0
          · rw [if_pos z, oi_i (by omega)]; omega
          · rw [if_neg z]; exact ⟨by decide, by decide⟩
        · rw [i12, hI2, mz_o _ _ (by omega)]; rfl
        · rw [i80, q 166 8 (by omega) (by omega) (by omega), r3]
        · rw [r7 s k hs hk, r6 (3 + s) (by omega) (by omega), Jcw s k hs hk]
        · rw [i12] at hle
          rw [i7 s hs, if_neg (by have : (1 : Int32).toInt = 1 := rfl; omega)]
        · rw [hI2, mz_o _ _ (by omega)]; rfl
        · rw [qc 1 3 (by omega) (by omega) (by omega), Ic13]
        · rw [qc (150 + c) f (by omega) (by omega) (by omega), hIc]
          exact cz_z _ hc' hf
        · rw [hI2]
          exact mz_z _ h1 h2 (by omega)
    | inr x =>
      rw [hcp] at run
      obtain ⟨I1, J1, f1, ⟨k1, k2⟩, f3⟩ := run
      have hIf : ∀ a f, a ≠ 8 → ¬ (a = 12 ∧ f = 1) → ¬ (15 ≤ a ∧ a ≤ 144) → I1 a f = I a f := fun a f h1 h2 h3 => by rw [f1.1 a f h1 h2 (by omega), I0o a f h2]
      have hJf : ∀ a, a ≠ 8 → a ≠ 13 → J1 a = J a := fun a h1 h2 => by rw [f1.2 a h1 h2, J0o a h2]
      obtain ⟨mr1, mr2, mr3⟩ := mref I1 J1 (fun a f h1 h2 => hIf a f (by omega) (by omega) (by omega)) (fun a h1 h2 => hJf a (by omega) (by omega))
      obtain ⟨I', L, r1, r2, r3, r4⟩ := (mc_ex (X := X) (d := d + 67) (F0 := J0 13) mr1 mr2 hF0 mr3).2 x hcp
      have rr : RR I' L := RR_al h (fun a f hr h1 h2 => by
        unfold rI at hr
        rw [r1.1 a f (by omega) (by omega) (by omega), hIf a f (by omega) (by omega) (by omega)]) (by rw [r1.1 8 0 (by omega) (by omega) (by omega), k1]) r2.1 r2.2 (fun a k hr => by
        unfold rJ at hr
        rw [r1.2 a (by omega), hJf a (by omega) (by omega)])
      rcases f3 with ⟨x2, f3⟩ | ⟨x3, f3⟩
      · have e10 : I' 166 10 = 1 := by
          rcases r3 with q | q
          · exact q.2
          · have := q.1; omega
        refine ⟨I1, J1, 1, 1, 6, iv_L_canonical (d := d + 65) (o2 := none) (Z2 := (I1, J1)) (e2 := True) _ ⟨pre, ifp (cnd.mpr c0) ⟨?_, ?_⟩⟩, by omega, by omega, I', L, 0, r4, e10, fun z => absurd z (by decide), rr⟩
        · rw [← hI0, ← hJ0]
          exact cpx_t f3
        · show _ = _
          rw [if_pos trivial]
      · have e10 : I' 166 10 = 2 := by
          rcases r3 with q | q
          · have := q.1; omega
          · exact q.2
        refine ⟨I1, J1, 2, 1, 6, iv_L_canonical (d := d + 65) (o2 := none) (Z2 := (I1, J1)) (e2 := False) _ ⟨pre, ifp (cnd.mpr c0) ⟨?_, ?_⟩⟩, by omega, by omega, I', L, 0, r4, e10, fun z => absurd z (by decide), rr⟩
        · rw [← hI0, ← hJ0]
          exact cpx_f f3
        · show _ = _
          rw [if_neg not_false]
