/-! pack -/
theorem ap_g {a : Nat} : ∀ (L : List Int32) (I : st_I), cnk I a → fit I a L → (∀ j, j < (I a 1).toNatClampNeg → (ap I a L) (a + 1) j = I (a + 1) j) ∧ ∀ k, k < L.length → (ap I a L) (a + 1) ((I a 1).toNatClampNeg + k) = byi (L.getD k 0) := by
  intro L
  induction L with
  | nil => intro I hc hf; exact ⟨fun _ _ => rfl, fun k hk => absurd hk (Nat.not_lt_zero k)⟩
  | cons x L ih =>
    intro I hc hf
    unfold fit at hf
    rw [List.length_cons] at hf
    have c : (I a 1).toNatClampNeg < 1500 := by omega
    obtain ⟨e1, e2, e3⟩ := o1_c (x := x) hc c
    obtain ⟨i1, i2⟩ := ih (o1 I a x) e3 (by unfold fit; rw [e2]; omega)
    rw [e2] at i1 i2
    have ea : ap I a (x :: L) = ap (o1 I a x) a L := by
      show (if _ then _ else _) = _
      rw [if_pos c]
    have eo : ∀ j, (o1 I a x) (a + 1) j = if j = (I a 1).toNatClampNeg then byi x else I (a + 1) j := fun j => by
      unfold o1
      rw [st_w_e, if_neg (by omega), st_w_e]
      by_cases q : j = (I a 1).toNatClampNeg
      · rw [if_pos ⟨rfl, q⟩, if_pos q]
      · rw [if_neg (fun z => q z.2), if_neg q]
    rw [ea]
    refine ⟨fun j hj => ?_, fun k hk => ?_⟩
    · rw [i1 j (by omega), eo, if_neg (by omega)]
    · cases k with
      | zero =>
        rw [i1 _ (by omega), eo, if_pos (Nat.add_zero _)]
        rfl
      | succ k =>
        rw [List.length_cons] at hk
        rw [show (I a 1).toNatClampNeg + (k + 1) = (I a 1).toNatClampNeg + 1 + k by omega, i2 k (by omega)]
        rfl
def oc8 (L : List Int32) : Prop := ∀ x ∈ L, ∃ v, v < 256 ∧ x = Int32.ofNat v
theorem oc8_a {A B : List Int32} (h1 : oc8 A) (h2 : oc8 B) : oc8 (A ++ B) := fun x hx => by
  rcases List.mem_append.mp hx with h | h
  · exact h1 x h
  · exact h2 x h
theorem oc8_1 {v : Nat} (h : v < 256) : oc8 (one (Int32.ofNat v)) := fun x hx => ⟨v, h, List.mem_singleton.mp hx⟩
theorem oc8_0 : oc8 [] := fun x hx => absurd hx List.not_mem_nil
theorem oc8_o (w : Int64) (t : Nat) : ∀ m k, oc8 (ocs w t m k) := by
  intro m
  induction m with
  | zero => intro k; exact oc8_0
  | succ m ih =>
    intro k
    unfold ocs
    split
    · exact ih (k + 1)
    · exact oc8_a (oc8_1 (show obn w k < 256 by unfold obn; omega)) (ih (k + 1))
theorem oc8_f (G : Nat → Int64) : ∀ u i, oc8 (fls G u i) := by
  intro u
  induction u with
  | zero => intro i; exact oc8_0
  | succ u ih => intro i; exact oc8_a (oc8_o _ _ _ _) (ih (i + 1))
theorem oc8_p (G : Nat → Int64) (n : Nat) : ∀ m i, oc8 (pkl G n m i) := by
  intro m
  induction m with
  | zero => intro i; exact oc8_0
  | succ m ih =>
    intro i
    have hz : zru G n (i + 1) ≤ 255 := zrn_le _ _ _ _
    have hf : fru G n (i + 1) ≤ 255 := zrn_le _ _ _ _
    unfold pkl
    split
    · refine oc8_a (oc8_1 (tgn_lt _)) (oc8_a (oc8_o _ _ _ _) ?_)
      split
      · exact oc8_a (oc8_1 (by omega)) (ih _)
      · split
        · exact oc8_a (oc8_1 (by omega)) (oc8_a (oc8_f _ _ _) (ih _))
        · exact ih _
    · exact oc8_0
theorem oc8_b {L : List Int32} (h : oc8 L) {k : Nat} (hk : k < L.length) : (byi (L.getD k 0) &&& 255) = L.getD k 0 := by
  have e : L.getD k 0 = L[k] := by rw [List.getD_eq_getElem?_getD, List.getElem?_eq_getElem hk]; rfl
  obtain ⟨v, hv, hx⟩ := h L[k] (List.getElem_mem hk)
  rw [e, hx]
  exact byt_a ⟨v, hv⟩
theorem oi_rt {x : Int32} (h : x = 0 ∨ x = 1) : st_oi (st_o x) = x := by rcases h with rfl | rfl <;> rfl
set_option maxRecDepth 20000 in
theorem s_pack {X : pm_X} {d : Nat} {I : st_I} {J : st_J} (h : RR I J) : StpI X (d + 6) 124 [.ref 0, .ref 187] 220 [.ref 166] I J := by
  obtain ⟨hm, hz, ho, hc⟩ := h
  have hm' := hm
  obtain ⟨⟨⟨s1, s4⟩, hu, h8⟩, b1, b2, b3, b4, b5⟩ := hm'
  obtain ⟨o1_, o2, o3, o4, o5⟩ := ho
  have nS := cln (x := I 1 2) (by omega)
  have eS := oi_of (x := I 1 2) (by omega)
  have eU : ∀ x, x < 4 → I 7 x = Int32.ofNat (un (I 7) x) ∧ un (I 7) x ≤ 64 := fun x hx => by
    have a := hu x hx
    have b := un_i a.1
    exact ⟨oi_of a.1, by omega⟩
  obtain ⟨S, hS⟩ : ∃ S, S = (I 1 2).toNatClampNeg := ⟨_, rfl⟩
  obtain ⟨U, hU⟩ : ∃ U, U = un (I 7) := ⟨_, rfl⟩
  obtain ⟨W, hW⟩ : ∃ W : Nat → Nat → Int64, W = fun s k => J (3 + s) k := ⟨_, rfl⟩
  rw [← hS] at nS eS
  rw [← hU] at eU
  have hg := gcn_le (S := S) (fun x hx => (eU x hx).2) (by omega) S (by omega)
  have c67 : (I 0 6 = 0 ∨ I 0 6 = 1) ∧ (I 0 7 = 0 ∨ I 0 7 = 1) := by
    rcases o1_ with q | q
    · exact ⟨Or.inl q.1, Or.inr q.2⟩
    · exact ⟨Or.inr q.1, Or.inl q.2⟩
  obtain ⟨a, ha⟩ : ∃ a, a = st_o (I 0 7) := ⟨_, rfl⟩
  have hac : a = 146 ∨ a = 148 := by rw [ha]; exact st_o_c _
  have hne : st_o (I 0 6) ≠ a := by
    rw [ha]
    rcases o1_ with q | q
    · rw [q.1, q.2]; decide
    · rw [q.1, q.2]; decide
  obtain ⟨J1, hJ1⟩ : ∃ J1, J1 = flJ S U J S := ⟨_, rfl⟩
  obtain ⟨I1, hI1⟩ : ∃ I1, I1 = st_w (st_w I 10 1 (Int32.ofNat (gcn S U S))) a 1 (0 : Int32) := ⟨_, rfl⟩
  have q1 : ∀ x f, x ≠ 10 → x ≠ a → I1 x f = I x f := fun x f h1 h2 => by rw [hI1, st_w_e, if_neg (fun z => h2 z.1), st_w_e, if_neg (fun z => h1 z.1)]
  have e07 : I1 0 7 = I 0 7 := q1 0 7 (by omega) (by omega)
  have ea1 : I1 a 1 = 0 := by rw [hI1, st_w_at]
  have e10 : I1 10 1 = Int32.ofNat (gcn S U S) := by rw [hI1, st_w_e, if_neg (by omega), st_w_at]
  have hcn : cnk I1 a := by unfold cnk; rw [ea1]; decide
  obtain ⟨P, hP⟩ : ∃ P, P = pko I1 J1 := ⟨_, rfl⟩
  have hPg : P = pkl (gat S U W S) (gcn S U S) 260 0 := by
    rw [hP]
    unfold pko
    rw [e10, oi_n (by omega)]
    exact pkl_cg (fun j hj => by rw [hJ1]; exact flJ_g (fun s k hs _ => by rw [hW]) S (by omega) j hj) _ _
  have hfit : fit I1 a P ↔ P.length ≤ 1500 := by
    unfold fit
    rw [ea1, show (0 : Int32).toNatClampNeg = 0 from rfl, Nat.zero_add]
  have hpk : pkk I1 a := ⟨hcn, by rw [e10, oi_i (by omega)]; omega⟩
  have hiso : st_isO a = true := by rcases hac with q | q <;> rw [q] <;> rfl
  have J1o : ∀ x, x ≠ 11 → J1 x = J x := fun x hx => by rw [hJ1]; exact flJ_o hx S
  have mW : ∀ (x : Int64) s k, s < 4 → k < 64 → (st_y J1 187 0 x) 167 (64 * s + k) = W s k := fun x s k hs hk => by
    rw [st_y_o _ _ _ (by omega), J1o 167 (by omega), hW]
    exact b4 s k hs hk
  have mW' : ∀ s k, s < 4 → k < 64 → J1 167 (64 * s + k) = W s k := fun s k hs hk => by
    rw [J1o 167 (by omega), hW]
    exact b4 s k hs hk
  obtain ⟨A, hA⟩ : ∃ A, A = ap I1 a P := ⟨_, rfl⟩
  have Ao : ∀ x f, x ≠ a → x ≠ a + 1 → A x f = I1 x f := fun x f h1 h2 => by rw [hA]; exact ap_o h1 h2 P I1
  by_cases cf : P.length ≤ 1500
  · have hf := hfit.mpr cf
    have hAc := (ap_c P I1 hcn).2.1 hf
    rw [ea1, show (0 : Int32).toNatClampNeg = 0 from rfl, Nat.zero_add, ← hA] at hAc
    have hA1 : A a 1 = Int32.ofNat P.length := by
      have := (ap_c P I1 hcn).1
      rw [← hA] at this
      rw [← hAc]
      exact oi_of this.1
    have hAg := (ap_g P I1 hcn hf).2
    rw [ea1, show (0 : Int32).toNatClampNeg = 0 from rfl, ← hA] at hAg
    have A06 : A 0 6 = I 0 6 := (Ao 0 6 (by omega) (by omega)).trans (q1 0 6 (by omega) (by omega))
    have A07 : A 0 7 = I 0 7 := (Ao 0 7 (by omega) (by omega)).trans e07
    obtain ⟨Ic, hIc⟩ : ∃ Ic, Ic = st_w (st_w A 0 7 (I 0 6)) 0 6 (I 0 7) := ⟨_, rfl⟩
    have Ico : ∀ x f, x ≠ 0 → Ic x f = A x f := fun x f h1 => by rw [hIc, st_w_e, if_neg (fun z => h1 z.1), st_w_e, if_neg (fun z => h1 z.1)]
    have eA : Ic a 1 = Int32.ofNat P.length := (Ico a 1 (by omega)).trans hA1
    have Icq : ∀ x f, x ≠ 0 → x ≠ 10 → x ≠ a → x ≠ a + 1 → Ic x f = I x f := fun x f h1 h2 h3 h4 => by rw [Ico x f h1, Ao x f h3 h4, q1 x f h2 h3]
    obtain ⟨I', L, r1, r2, r3, r4, r5, r6⟩ := (mp_ex (X := X) (d := d + 4) (I := Ic) (J := st_y J1 187 0 (Int32.toInt64 (Int32.ofNat P.length))) (S := S) (U := U) (W := W) ((Icq 166 6 (by omega) (by omega) (by omega) (by omega)).trans (b1.trans eS)) (by omega) (by omega) (fun x hx => ⟨(Icq 170 x (by omega) (by omega) (by omega) (by omega)).trans ((b2 x hx).trans (eU x hx).1), (eU x hx).2⟩) (mW _) hPg).1 cf
    refine ⟨Ic, st_y J1 187 0 (Int32.toInt64 (Int32.ofNat P.length)), 0, 0, 0, iv_L_pack _ ⟨hm.1, ?_⟩, by omega, by omega, I', L, Int32.ofNat P.length, r6, r2, fun _ => ?_, ?_⟩
    · rw [← hS, ← hU, ← hJ1, ← ha, ← hI1, e07, ← ha, ← hP, ← hA, A06, A07, oi_rt c67.1, oi_rt c67.2, ← hIc, ← ha, eA]
      exact ⟨hpk, ifp hf rfl⟩
    · rw [r5 187 (by omega), y_o]
    · have q : ∀ x f, x ≠ 0 → x ≠ 10 → x ≠ a → x ≠ a + 1 → x ≠ 171 → x ≠ 172 → ¬ (x = 166 ∧ (f = 7 ∨ f = 10)) → I' x f = I x f := fun x f h1 h2 h3 h4 h5 h6 h7 => by rw [r1 x f h5 h6 h7, Icq x f h1 h2 h3 h4]
      have Lo : ∀ x k, rJ x → L x k = J x k := fun x k hr => by
        unfold rJ at hr
        rw [r5 x (by omega), st_y_o _ _ _ (by omega), J1o x (by omega)]
      refine ⟨Rm_cg hm (q 1 2 (by omega) (by omega) (by omega) (by omega) (by omega) (by omega) (by omega)) (fun s _ => q 7 s (by omega) (by omega) (by omega) (by omega) (by omega) (by omega) (by omega)) (q 8 0 (by omega) (by omega) (by omega) (by omega) (by omega) (by omega) (by omega)) (q 166 6 (by omega) (by omega) (by omega) (by omega) (by omega) (by omega) (by omega)) (q 166 8 (by omega) (by omega) (by omega) (by omega) (by omega) (by omega) (by omega)) (fun s _ => q 170 s (by omega) (by omega) (by omega) (by omega) (by omega) (by omega) (by omega)) Lo, Rz_cg hz (q 1 3 (by omega) (by omega) (by omega) (by omega) (by omega) (by omega) (by omega)) (q 166 9 (by omega) (by omega) (by omega) (by omega) (by omega) (by omega) (by omega)) (q 166 11 (by omega) (by omega) (by omega) (by omega) (by omega) (by omega) (by omega)), ?_, fun c hc' => cr_cg (hc c hc') (fun f _ => q (150 + c) f (by omega) (by omega) (by omega) (by omega) (by omega) (by omega) (by omega)) (fun x h1 h2 => q x c (by omega) (by omega) (by omega) (by omega) (by omega) (by omega) (by omega)) (fun s _ => q 7 s (by omega) (by omega) (by omega) (by omega) (by omega) (by omega) (by omega))⟩
      have i06 : I' 0 6 = I 0 7 := by rw [r1 0 6 (by omega) (by omega) (by omega), hIc, st_w_at]
      have i07 : I' 0 7 = I 0 6 := by rw [r1 0 7 (by omega) (by omega) (by omega), hIc, st_w_e, if_neg (by omega), st_w_at]
      unfold Ro
      rw [i06, i07, r3, ← ha, oi_i (by omega), oi_n (by omega), r1 a 1 (by omega) (by omega) (by omega), eA]
      refine ⟨o1_.elim (fun q => Or.inr ⟨q.2, q.1⟩) (fun q => Or.inl ⟨q.2, q.1⟩), rfl, by omega, by omega, fun k hk => ?_⟩
      rw [r1 (a + 1) k (by omega) (by omega) (by omega), Ico (a + 1) k (by omega), r4 k hk]
      have := hAg k hk
      rw [Nat.zero_add] at this
      rw [this]
      exact oc8_b (by rw [hPg]; exact oc8_p _ _ _ _) hk
  · have hf : ¬ fit I1 a P := fun z => cf (hfit.mp z)
    have Icq : ∀ x f, x ≠ 10 → x ≠ a → x ≠ a + 1 → A x f = I x f := fun x f h2 h3 h4 => by rw [Ao x f h3 h4, q1 x f h2 h3]
    obtain ⟨I', L, r1, r2, r5, r6⟩ := (mp_ex (X := X) (d := d + 4) (I := A) (J := J1) (S := S) (U := U) (W := W) ((Icq 166 6 (by omega) (by omega) (by omega)).trans (b1.trans eS)) (by omega) (by omega) (fun x hx => ⟨(Icq 170 x (by omega) (by omega) (by omega)).trans ((b2 x hx).trans (eU x hx).1), (eU x hx).2⟩) mW' hPg).2 cf
    refine ⟨A, J1, 1, 1, 6, iv_L_pack _ ⟨hm.1, ?_⟩, by omega, by omega, I', L, 0, r6, r2, fun z => absurd z (by decide), ?_⟩
    · rw [← hS, ← hU, ← hJ1, ← ha, ← hI1, e07, ← ha, ← hP, ← hA]
      exact ⟨hpk, ifn hf rfl⟩
    · have q : ∀ x f, x ≠ 10 → x ≠ a → x ≠ a + 1 → x ≠ 172 → ¬ (x = 166 ∧ f = 10) → I' x f = I x f := fun x f h2 h3 h4 h6 h7 => by rw [r1 x f h6 h7, Icq x f h2 h3 h4]
      have Lo : ∀ x k, rJ x → L x k = J x k := fun x k hr => by
        unfold rJ at hr
        rw [r5 x (by omega), J1o x (by omega)]
      have hoc := st_o_c (I 0 6)
      refine ⟨Rm_cg hm (q 1 2 (by omega) (by omega) (by omega) (by omega) (by omega)) (fun s _ => q 7 s (by omega) (by omega) (by omega) (by omega) (by omega)) (q 8 0 (by omega) (by omega) (by omega) (by omega) (by omega)) (q 166 6 (by omega) (by omega) (by omega) (by omega) (by omega)) (q 166 8 (by omega) (by omega) (by omega) (by omega) (by omega)) (fun s _ => q 170 s (by omega) (by omega) (by omega) (by omega) (by omega)) Lo, Rz_cg hz (q 1 3 (by omega) (by omega) (by omega) (by omega) (by omega)) (q 166 9 (by omega) (by omega) (by omega) (by omega) (by omega)) (q 166 11 (by omega) (by omega) (by omega) (by omega) (by omega)), ?_, fun c hc' => cr_cg (hc c hc') (fun f _ => q (150 + c) f (by omega) (by omega) (by omega) (by omega) (by omega)) (fun x h1 h2 => q x c (by omega) (by omega) (by omega) (by omega) (by omega)) (fun s _ => q 7 s (by omega) (by omega) (by omega) (by omega) (by omega))⟩
      unfold Ro
      rw [q 0 6 (by omega) (by omega) (by omega) (by omega) (by omega), q 0 7 (by omega) (by omega) (by omega) (by omega) (by omega), q 166 7 (by omega) (by omega) (by omega) (by omega) (by omega), q (st_o (I 0 6)) 1 (by omega) hne (by omega) (by omega) (by omega)]
      refine ⟨o1_, o2, o3, o4, fun k hk => ?_⟩
      rw [q (st_o (I 0 6) + 1) k (by omega) (by omega) (by omega) (by omega) (by omega), q 171 k (by omega) (by omega) (by omega) (by omega) (by omega)]
      exact o5 k hk
