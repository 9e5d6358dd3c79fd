/-! .. all groups, then the octets copied -/
section MPL
variable {X : pm_X} {d : Nat} {J : st_J} {n : Nat} {I0 : st_I}
set_option maxRecDepth 20000 in
theorem mp_14 (hn : n ≤ 259) : ∀ m i, i ≤ n → n ≤ i + m → ∀ (I : st_I) (A : List Int32) (u4 u5 u6 u7 u8 u9 : Option Value), QL I0 I A → A.length ≤ 10 * i → ∃ I', QL I0 I' (A ++ pkl (J 169) n m i) ∧ (A ++ pkl (J 169) n m i).length ≤ 10 * n ∧ ∃ w4 w5 w6 w7 w8 w9 : Option Value, ∀ r, Gx X (d + 1) (kc_M_pack, []) (14, [some (.ref 166), some (.int (Int32.ofNat n)), some (.int (Int32.ofNat (A ++ pkl (J 169) n m i).length)), some (.int (Int32.ofNat n)), w4, w5, w6, w7, w8, w9], [], st_h I' J, 0, 0) r → Gx X (d + 1) (kc_M_pack, []) (14, [some (.ref 166), some (.int (Int32.ofNat n)), some (.int (Int32.ofNat A.length)), some (.int (Int32.ofNat i)), u4, u5, u6, u7, u8, u9], [], st_h I J, 0, 0) r := by
  intro m
  induction m with
  | zero =>
    intro i hi hm I A u4 u5 u6 u7 u8 u9 hA hl
    obtain rfl : i = n := by omega
    rw [show pkl (J 169) i 0 i = [] from rfl, List.append_nil]
    exact ⟨I, hA, hl, u4, u5, u6, u7, u8, u9, fun r hr => hr⟩
  | succ m ih =>
    intro i hi hm I A u4 u5 u6 u7 u8 u9 hA hl
    by_cases c0 : i < n
    · obtain ⟨t, ht⟩ : ∃ t, t = tgn (J 169 i) := ⟨_, rfl⟩
      have ht256 : t < 256 := by rw [ht]; exact tgn_lt _
      obtain ⟨B, hB⟩ : ∃ B, B = ocs (J 169 i) t 8 0 := ⟨_, rfl⟩
      have hBl : B.length ≤ 8 := by rw [hB]; exact ocs_le _ _ _ _
      obtain ⟨I1, q1, g1⟩ := mp_42 (X := X) (d := d) (J := J) (I0 := I0) hn (A := A) (by omega) (w := J 169 i) (i := i) 8 0 rfl I [] (QH_0 hA) (by show 0 ≤ 0; omega)
      rw [List.nil_append, ← ht, ← hB] at q1 g1
      have q2 := QH_fill (Int32.ofNat t) q1
      obtain ⟨A2, hA2⟩ : ∃ A2, A2 = A ++ Int32.ofNat t :: B := ⟨_, rfl⟩
      have hA2l : A2.length = A.length + 1 + B.length := by rw [hA2, List.length_append, List.length_cons]; omega
      rw [← hA2] at q2
      have start : ∀ r, Gx X (d + 1) (kc_M_pack, []) (42, [some (.ref 166), some (.int (Int32.ofNat n)), some (.int (Int32.ofNat A2.length)), some (.int (Int32.ofNat i)), some (.long (J 169 i)), none, some (.int (Int32.ofNat t)), some (.int (Int32.ofNat A.length)), some (.int 0), some (.int (Int32.ofNat 8))], [], st_h I1 J, 0, 0) r → Gx X (d + 1) (kc_M_pack, []) (14, [some (.ref 166), some (.int (Int32.ofNat n)), some (.int (Int32.ofNat A.length)), some (.int (Int32.ofNat i)), u4, u5, u6, u7, u8, u9], [], st_h I J, 0, 0) r := fun r hr => by
        refine ib_M_pack_14 r (ifp ((oi_lt (by omega) (by omega)).mpr c0) ⟨oi_in (by omega) (by omega), ?_⟩)
        rw [oi_a, oi_n (by omega)]
        rw [hA2l] at hr
        exact g1 r hr
      have row42 : ∀ r, (if Int32.ofNat t = (0 : Int32) then Gx X (d + 1) (kc_M_pack, []) (137, [some (.ref 166), some (.int (Int32.ofNat n)), some (.int (Int32.ofNat (A2.length + 1))), some (.int (Int32.ofNat (i + 1))), some (.long (J 169 i)), none, some (.int (Int32.ofNat t)), some (.int (Int32.ofNat A.length)), some (.int 0), some (.int (Int32.ofNat A2.length))], [], st_h (st_w I1 172 A.length (Int32.ofNat t)) J, 0, 0) r else (if Int32.ofNat t = (255 : Int32) then Gx X (d + 1) (kc_M_pack, []) (137, [some (.ref 166), some (.int (Int32.ofNat n)), some (.int (Int32.ofNat (A2.length + 1))), some (.int (Int32.ofNat (i + 1))), some (.long (J 169 i)), none, some (.int (Int32.ofNat t)), some (.int (Int32.ofNat A.length)), some (.int 0), some (.int (Int32.ofNat A2.length))], [], st_h (st_w I1 172 A.length (Int32.ofNat t)) J, 0, 0) r else Gx X (d + 1) (kc_M_pack, []) (14, [some (.ref 166), some (.int (Int32.ofNat n)), some (.int (Int32.ofNat A2.length)), some (.int (Int32.ofNat (i + 1))), some (.long (J 169 i)), none, some (.int (Int32.ofNat t)), some (.int (Int32.ofNat A.length)), some (.int 0), some (.int (Int32.ofNat 8))], [], st_h (st_w I1 172 A.length (Int32.ofNat t)) J, 0, 0) r)) → Gx X (d + 1) (kc_M_pack, []) (14, [some (.ref 166), some (.int (Int32.ofNat n)), some (.int (Int32.ofNat A.length)), some (.int (Int32.ofNat i)), u4, u5, u6, u7, u8, u9], [], st_h I J, 0, 0) r := fun r hr => by
        refine start r (ib_M_pack_42 r (ifn (by decide) ⟨oi_in (by omega) (by omega), ?_⟩))
        rw [oi_a, oi_a, oi_n (by omega)]
        exact hr
      unfold pkl
      rw [if_pos c0, ← ht, ← hB]
      by_cases t0 : t = 0
      · rw [if_pos t0]
        obtain ⟨z, hz⟩ : ∃ z, z = zru (J 169) n (i + 1) := ⟨_, rfl⟩
        have hzn : i + 1 + z ≤ n := by rw [hz]; exact zrn_n _ _ _ _ (by omega)
        have hzv : zrn (fun j => decide (J 169 j = 0)) n 255 (i + 1) = z := hz.symm
        rw [← hz]
        have q3 := QH_fill (Int32.ofNat z) (QH_0 q2)
        obtain ⟨I', h1, h2, w4, w5, w6, w7, w8, w9, h3⟩ := ih (i + 1 + z) hzn (by omega) _ (A2 ++ [Int32.ofNat z]) (some (.long (J 169 i))) none (some (.int (Int32.ofNat t))) (some (.int (Int32.ofNat A.length))) (some (.int (Int32.ofNat z))) (some (.int (Int32.ofNat A2.length))) q3 (by rw [List.length_append, hA2l]; show A.length + 1 + B.length + 1 ≤ _; omega)
        have el : A ++ (one (Int32.ofNat t) ++ (B ++ (one (Int32.ofNat z) ++ pkl (J 169) n m (i + 1 + z)))) = A2 ++ [Int32.ofNat z] ++ pkl (J 169) n m (i + 1 + z) := by
          rw [hA2]
          unfold one
          simp only [List.append_assoc, List.cons_append, List.nil_append]
        rw [el]
        refine ⟨I', h1, h2, w4, w5, w6, w7, w8, w9, fun r hr => row42 r (ifp (by rw [t0]; rfl) ?_)⟩
        have h4 := h3 r hr
        rw [show (A2 ++ [Int32.ofNat z]).length = A2.length + 1 by rw [List.length_append]; rfl] at h4
        have h5 := mp_z (X := X) (d := d) (J := J) hn (v2 := Int32.ofNat (A2.length + 1)) (v7 := Int32.ofNat A.length) (w := J 169 i) (p := A2.length) (by omega) (I := st_w I1 172 A.length (Int32.ofNat t)) 255 0 (i + 1) rfl (by omega) r
        rw [hzv, Nat.zero_add] at h5
        rw [t0] at h4 h5 ⊢
        exact h5 h4
      · rw [if_neg t0]
        by_cases t1 : t = 255
        · rw [if_pos t1]
          obtain ⟨z, hz⟩ : ∃ z, z = fru (J 169) n (i + 1) := ⟨_, rfl⟩
          have hzn : i + 1 + z ≤ n := by rw [hz]; exact zrn_n _ _ _ _ (by omega)
          have hzv : zrn (fun j => decide (zn (J 169 j) < 2)) n 255 (i + 1) = z := hz.symm
          rw [← hz]
          obtain ⟨I2, q3, g3⟩ := mp_f (X := X) (d := d) (J := J) (I0 := I0) hn (v7 := Int32.ofNat A.length) (w := J 169 i) (A := A2) 255 0 (i + 1) rfl (by omega) _ [] (QH_0 q2) (by rw [hA2l]; show A.length + 1 + B.length + 1 + 0 ≤ _; omega)
          rw [List.nil_append, hzv] at q3 g3
          have q4 := QH_fill (Int32.ofNat z) q3
          have hfl := fls_len (J 169) z (i + 1)
          obtain ⟨I', h1, h2, w4, w5, w6, w7, w8, w9, h3⟩ := ih (i + 1 + z) hzn (by omega) _ (A2 ++ Int32.ofNat z :: fls (J 169) z (i + 1)) (some (.long (J 169 i))) none (some (.int 255)) (some (.int (Int32.ofNat A.length))) (some (.int (Int32.ofNat z))) (some (.int (Int32.ofNat A2.length))) q4 (by rw [List.length_append, List.length_cons, hA2l, hfl]; omega)
          have el : A ++ (one (Int32.ofNat t) ++ (B ++ (one (Int32.ofNat z) ++ (fls (J 169) z (i + 1) ++ pkl (J 169) n m (i + 1 + z))))) = A2 ++ Int32.ofNat z :: fls (J 169) z (i + 1) ++ pkl (J 169) n m (i + 1 + z) := by
            rw [hA2]
            unfold one
            simp only [List.append_assoc, List.cons_append, List.nil_append]
          rw [el]
          refine ⟨I', h1, h2, w4, w5, w6, w7, w8, w9, fun r hr => row42 r (ifn (fun z => t0 ((oi_eq (b := 0) (by omega) (by omega)).mp z)) (ifp (by rw [t1]; rfl) ?_))⟩
          have h4 := h3 r hr
          rw [show (A2 ++ Int32.ofNat z :: fls (J 169) z (i + 1)).length = A2.length + 1 + (fls (J 169) z (i + 1)).length by rw [List.length_append, List.length_cons]; omega] at h4
          have h5 := g3 r
          rw [Nat.zero_add] at h5
          rw [t1] at h5 ⊢
          exact h5 h4
        · rw [if_neg t1]
          obtain ⟨I', h1, h2, w4, w5, w6, w7, w8, w9, h3⟩ := ih (i + 1) (by omega) (by omega) _ A2 (some (.long (J 169 i))) none (some (.int (Int32.ofNat t))) (some (.int (Int32.ofNat A.length))) (some (.int 0)) (some (.int (Int32.ofNat 8))) q2 (by omega)
          have el : A ++ (one (Int32.ofNat t) ++ (B ++ pkl (J 169) n m (i + 1))) = A2 ++ pkl (J 169) n m (i + 1) := by
            rw [hA2]
            unfold one
            simp only [List.append_assoc, List.cons_append, List.nil_append]
          rw [el]
          exact ⟨I', h1, h2, w4, w5, w6, w7, w8, w9, fun r hr => row42 r (ifn (fun z => t0 ((oi_eq (b := 0) (by omega) (by omega)).mp z)) (ifn (fun z => t1 ((oi_eq (b := 255) (by omega) (by omega)).mp z)) (h3 r hr)))⟩
    · obtain rfl : i = n := by omega
      rw [show pkl (J 169) i (m + 1) i = [] by unfold pkl; rw [if_neg c0], List.append_nil]
      exact ⟨I, hA, hl, u4, u5, u6, u7, u8, u9, fun r hr => hr⟩
def cpI (I : st_I) (n : Nat) : st_I := fun a f => if a = 171 ∧ f < n then I 172 f else I a f
theorem cpI_s (I : st_I) (n : Nat) : st_w (cpI I n) 171 n ((cpI I n) 172 n) = cpI I (n + 1) := by
  funext a f
  rw [st_w_e]
  unfold cpI
  by_cases c : a = 171 ∧ f = n
  · rw [if_pos c, if_neg (by omega), if_pos (by omega), c.2]
  · rw [if_neg c]
    by_cases c2 : a = 171 ∧ f < n
    · rw [if_pos c2, if_pos (by omega)]
    · rw [if_neg c2, if_neg (by omega)]
theorem mp_248 {I : st_I} {l : Nat} (hl : l ≤ 1500) {v1 v3 : Int32} {u5 u6 u7 u8 u9 : Option Value} : Gx X (d + 1) (kc_M_pack, []) (248, [some (.ref 166), some (.int v1), some (.int (Int32.ofNat l)), some (.int v3), some (.int 0), u5, u6, u7, u8, u9], [], st_h I J, 0, 0) (.inl (some (.int (Int32.ofNat l))), st_h (st_w (cpI I l) 166 7 (Int32.ofNat l)) J, 0, 0) := by
  have key : ∀ m k, k + m = l → Gx X (d + 1) (kc_M_pack, []) (248, [some (.ref 166), some (.int v1), some (.int (Int32.ofNat l)), some (.int v3), some (.int (Int32.ofNat k)), u5, u6, u7, u8, u9], [], st_h (cpI I k) J, 0, 0) (.inl (some (.int (Int32.ofNat l))), st_h (st_w (cpI I l) 166 7 (Int32.ofNat l)) J, 0, 0) := by
    intro m
    induction m with
    | zero =>
      intro k hk
      obtain rfl : k = l := hk
      exact ib_M_pack_248 _ (ifn (by rw [oi_lt (by omega) (by omega)]; omega) rfl)
    | succ m ih =>
      intro k hk
      refine ib_M_pack_248 _ (ifp (by rw [oi_lt (by omega) (by omega)]; omega) ⟨oi_in (by omega) (by omega), oi_in (by omega) (by omega), ?_⟩)
      rw [oi_a, oi_n (by omega), cpI_s]
      exact ih (k + 1) (by omega)
  have e0 : cpI I 0 = I := by
    funext a f
    unfold cpI
    rw [if_neg (by omega)]
  have z := key l 0 (by omega)
  rw [e0] at z
  exact z
end MPL
/-! only the groups there are count -/
theorem zrn_cg {P P' : Nat → Bool} {n : Nat} (h : ∀ j, j < n → P j = P' j) : ∀ m j, zrn P n m j = zrn P' n m j := by
  intro m
  induction m with
  | zero => intro j; rfl
  | succ m ih =>
    intro j
    unfold zrn
    by_cases c : j < n
    · rw [h j c, ih (j + 1)]
    · rw [if_neg (fun z => c z.1), if_neg (fun z => c z.1)]
theorem fls_cg {G G' : Nat → Int64} {n : Nat} (h : ∀ j, j < n → G j = G' j) : ∀ u i, i + u ≤ n → fls G u i = fls G' u i := by
  intro u
  induction u with
  | zero => intro i _; rfl
  | succ u ih =>
    intro i hi
    show ocs (G i) 255 8 0 ++ fls G u (i + 1) = ocs (G' i) 255 8 0 ++ fls G' u (i + 1)
    rw [h i (by omega), ih (i + 1) (by omega)]
theorem pkl_cg {G G' : Nat → Int64} {n : Nat} (h : ∀ j, j < n → G j = G' j) : ∀ m i, pkl G n m i = pkl G' n m i := by
  have hz : ∀ j, zru G n j = zru G' n j := fun j => zrn_cg (fun j hj => by rw [h j hj]) 255 j
  have hf : ∀ j, fru G n j = fru G' n j := fun j => zrn_cg (fun j hj => by rw [h j hj]) 255 j
  intro m
  induction m with
  | zero => intro i; rfl
  | succ m ih =>
    intro i
    unfold pkl
    by_cases c : i < n
    · have hu : i + 1 + fru G' n (i + 1) ≤ n := zrn_n _ _ _ _ (by omega)
      rw [if_pos c, if_pos c, h i c, hz, hf, ih, ih, ih, fls_cg h _ _ hu]
    · rw [if_neg c, if_neg c]
set_option maxRecDepth 20000 in
theorem mp_ex {X : pm_X} {d : Nat} {I : st_I} {J : st_J} {S : Nat} {U : Nat → Nat} {W : Nat → Nat → Int64} (e6 : I 166 6 = Int32.ofNat S) (S1 : 1 ≤ S) (S4 : S ≤ 4) (eU : ∀ x, x < 4 → I 170 x = Int32.ofNat (U x) ∧ U x ≤ 64) (hW : ∀ s k, s < 4 → k < 64 → J 167 (64 * s + k) = W s k) {P : List Int32} (hP : P = pkl (gat S U W S) (gcn S U S) 260 0) :
  (P.length ≤ 1500 → ∃ I' L, (∀ a f, a ≠ 171 → a ≠ 172 → ¬ (a = 166 ∧ (f = 7 ∨ f = 10)) → I' a f = I a f) ∧ I' 166 10 = 0 ∧ I' 166 7 = Int32.ofNat P.length ∧ (∀ k, k < P.length → I' 171 k = P.getD k 0) ∧ (∀ a, a ≠ 169 → L a = J a) ∧ Ex X (d + 2) 220 [.ref 166] (st_h I J) (.inl (some (.int (Int32.ofNat P.length))), st_h I' L, 0, 0)) ∧
  (¬ P.length ≤ 1500 → ∃ I' L, (∀ a f, a ≠ 172 → ¬ (a = 166 ∧ f = 10) → I' a f = I a f) ∧ I' 166 10 = 1 ∧ (∀ a, a ≠ 169 → L a = J a) ∧ Ex X (d + 2) 220 [.ref 166] (st_h I J) (.inl (some (.int 0)), st_h I' L, 0, 0)) := by
  have hg := gcn_le (S := S) (fun x hx => (eU x hx).2) S4 S S4
  obtain ⟨L, hL, hE⟩ := mf_ex_ (X := X) (d := d) (I := st_w I 166 10 0) (J0 := J) (S := S) (U := U) (W := W) ((st_w_e _ _ _ _ _ _).trans ((if_neg (by omega)).trans e6)) S1 S4 (fun x hx => ⟨(st_w_e _ _ _ _ _ _).trans ((if_neg (by omega)).trans (eU x hx).1), (eU x hx).2⟩) hW
  obtain ⟨I', h1, h2, w4, w5, w6, w7, w8, w9, h3⟩ := mp_14 (X := X) (d := d) (J := L) (n := gcn S U S) (I0 := st_w I 166 10 0) (by omega) 260 0 (by omega) (by omega) (st_w I 166 10 0) [] none none none none none none ⟨fun _ _ _ => rfl, fun j hj => absurd hj (Nat.not_lt_zero j)⟩ (by show 0 ≤ 0; omega)
  rw [List.nil_append, pkl_cg hL.2, ← hP] at h1 h2 h3
  have h10 : I' 166 10 = 0 := (h1.1 166 10 (by omega)).trans (st_w_at _ _ _ _)
  have ho : ∀ a f, a ≠ 172 → ¬ (a = 166 ∧ f = 10) → I' a f = I a f := fun a f q1 q2 => by rw [h1.1 a f q1, st_w_e, if_neg q2]
  refine ⟨fun c => ?_, fun c => ?_⟩
  · refine ⟨st_w (cpI I' P.length) 166 7 (Int32.ofNat P.length), L, fun a f q1 q2 q3 => ?_, ?_, st_w_at _ _ _ _, fun k hk => ?_, hL.1, ie_M_pack _ ⟨hE, h3 _ ?_⟩⟩
    · rw [st_w_e, if_neg (by omega)]
      unfold cpI
      rw [if_neg (fun z => q1 z.1)]
      exact ho a f q2 (by omega)
    · rw [st_w_e, if_neg (by omega)]
      unfold cpI
      rw [if_neg (by omega)]
      exact h10
    · rw [st_w_e, if_neg (by omega)]
      unfold cpI
      rw [if_pos ⟨rfl, hk⟩]
      exact h1.2 k hk
    · refine ib_M_pack_14 _ (ifn (by rw [oi_lt (by omega) (by omega)]; omega) (ifn (by rw [show (1500 : Int32) = Int32.ofNat 1500 from rfl, oi_lt (by omega) (by omega)]; omega) (ifp h10 ?_)))
      exact mp_248 c
  · refine ⟨st_w I' 166 10 1, L, fun a f q1 q2 => by rw [st_w_e, if_neg q2]; exact ho a f q1 q2, st_w_at _ _ _ _, hL.1, ie_M_pack _ ⟨hE, h3 _ ?_⟩⟩
    exact ib_M_pack_14 _ (ifn (by rw [oi_lt (by omega) (by omega)]; omega) (ifp (by rw [show (1500 : Int32) = Int32.ofNat 1500 from rfl, oi_lt (by omega) (by omega)]; omega) (ifp h10 rfl)))
