/-! packing: all of it, by the class -/
def fls (G : Nat → Int64) : Nat → Nat → List Int32
  | 0, _ => []
  | u + 1, i => ocs (G i) 255 8 0 ++ fls G u (i + 1)
def pkl (G : Nat → Int64) (n : Nat) : Nat → Nat → List Int32
  | 0, _ => []
  | m + 1, i => if i < n then one (Int32.ofNat (tgn (G i))) ++ (ocs (G i) (tgn (G i)) 8 0 ++ (if tgn (G i) = 0 then one (Int32.ofNat (zru G n (i + 1))) ++ pkl G n m (i + 1 + zru G n (i + 1)) else if tgn (G i) = 255 then one (Int32.ofNat (fru G n (i + 1))) ++ (fls G (fru G n (i + 1)) (i + 1) ++ pkl G n m (i + 1 + fru G n (i + 1))) else pkl G n m (i + 1))) else []
theorem isO_n {a : Nat} (h : st_isO a = true) : 10 ≠ a ∧ 10 ≠ a + 1 := by
  rcases st_isO_c h with rfl | rfl <;> exact ⟨by omega, by omega⟩
section PK
variable {X : pm_X} {d : Nat} {J : st_J} {a n i u : Nat} {r : pm_R}
theorem pkt_78 (g1 : st_isO a = true) (hn : n ≤ 259) (hu : i + u ≤ n) {R : List Int32} (hR : ∀ (I : st_I) (u3 u4 u5 : Option Value), cnk I a → I 10 1 = Int32.ofNat n → r = apr I J a R → Gx X (d + 3) (kc_Fr_packInto, []) (2, [some (.ref 10), some (.ref a), some (.int (Int32.ofNat (i + u))), u3, u4, u5], [], st_h I J, 0, 0) r) : ∀ m j, j + m = u → ∀ I : st_I, cnk I a → I 10 1 = Int32.ofNat n → r = apr I J a (fls (J 11) m (i + j) ++ R) → Gx X (d + 3) (kc_Fr_packInto, []) (78, [some (.ref 10), some (.ref a), some (.int (Int32.ofNat i)), some (.int (255 : Int32)), some (.int (Int32.ofNat u)), some (.int (Int32.ofNat j))], [], st_h I J, 0, 0) r := by
  have hO := isO_n g1
  intro m
  induction m with
  | zero =>
    intro j hj I hc h10 hr
    refine ib_Fr_packInto_78 g1 r (ifp rfl (ifn (by rw [oi_lt (by omega) (by omega)]; omega) ?_))
    rw [oi_p]
    exact hR I _ _ _ hc h10 hr
  | succ m ih =>
    intro j hj I hc h10 hr
    refine ib_Fr_packInto_78 g1 r (ifp rfl (ifp (by rw [oi_lt (by omega) (by omega)]; omega) ?_))
    rw [oi_p, oi_a, oi_n (by omega)]
    refine ⟨oi_in (by omega) (by omega), ⟨hc, by decide, by decide⟩, ?_⟩
    have e : oct (J 11 (i + j)) 255 = ocs (J 11 (i + j)) 255 8 0 := rfl
    rw [e]
    unfold fls at hr
    rw [List.append_assoc] at hr
    by_cases c : fit I a (ocs (J 11 (i + j)) 255 8 0)
    · refine ifp c (ih (j + 1) (by omega) _ (ap_c _ _ hc).1 ((ap_o hO.1 hO.2 _ _).trans h10) ?_)
      rw [hr, apr_1 hc c]
      rfl
    · exact ifn c (by rw [hr, apr_0 hc c])
theorem pkt_2 (g1 : st_isO a = true) (hn : n ≤ 259) : ∀ m i, i ≤ n → n ≤ i + m → ∀ (I : st_I) (u3 u4 u5 : Option Value), cnk I a → I 10 1 = Int32.ofNat n → r = apr I J a (pkl (J 11) n m i) → Gx X (d + 3) (kc_Fr_packInto, []) (2, [some (.ref 10), some (.ref a), some (.int (Int32.ofNat i)), u3, u4, u5], [], st_h I J, 0, 0) r := by
  have hO := isO_n g1
  have nil : ∀ I : st_I, cnk I a → apr I J a [] = (.inl none, st_h I J, 0, 0) := fun I hc => by
    unfold apr
    rw [if_pos (fit_nil hc)]
    rfl
  intro m
  induction m with
  | zero =>
    intro i hi hm I u3 u4 u5 hc h10 hr
    refine ib_Fr_packInto_2 g1 r (ifn (by rw [h10, oi_lt (by omega) (by omega)]; omega) ?_)
    rw [hr]
    exact nil I hc
  | succ m ih =>
    intro i hi hm I u3 u4 u5 hc h10 hr
    unfold pkl at hr
    by_cases c0 : i < n
    · rw [if_pos c0] at hr
      refine ib_Fr_packInto_2 g1 r (ifp (by rw [h10, oi_lt (by omega) (by omega)]; exact c0) ?_)
      rw [oi_n (i := i) (by omega), oi_a, oi_n (i := i + 1) (by omega)]
      refine ⟨oi_in (by omega) (by omega), hc, ?_⟩
      have ht := tgn_lt (J 11 i)
      have eo : oct (J 11 i) (Int32.ofNat (tgn (J 11 i))) = ocs (J 11 i) (tgn (J 11 i)) 8 0 := by
        unfold oct
        rw [oi_n (by omega)]
      rw [eo]
      by_cases c1 : fit I a (one (Int32.ofNat (tgn (J 11 i))))
      · rw [apr_1 hc c1] at hr
        have hc1 := (ap_c (one (Int32.ofNat (tgn (J 11 i)))) I hc).1
        have h101 : (ap I a (one (Int32.ofNat (tgn (J 11 i))))) 10 1 = Int32.ofNat n := (ap_o hO.1 hO.2 _ _).trans h10
        refine ifp c1 ?_
        generalize ap I a (one (Int32.ofNat (tgn (J 11 i)))) = I1 at *
        refine ⟨⟨hc1, by rw [oi_i (by omega)]; omega⟩, ?_⟩
        by_cases c2 : fit I1 a (ocs (J 11 i) (tgn (J 11 i)) 8 0)
        · rw [apr_1 hc1 c2] at hr
          have hc2 := (ap_c (ocs (J 11 i) (tgn (J 11 i)) 8 0) I1 hc1).1
          have h102 : (ap I1 a (ocs (J 11 i) (tgn (J 11 i)) 8 0)) 10 1 = Int32.ofNat n := (ap_o hO.1 hO.2 _ _).trans h101
          refine ifp c2 ?_
          generalize ap I1 a (ocs (J 11 i) (tgn (J 11 i)) 8 0) = I2 at *
          have zk : zrk I2 (Int32.ofNat (i + 1)) := by
            unfold zrk
            rw [h102, oi_i (by omega), oi_i (by omega)]
            omega
          rw [h102, oi_n (by omega)]
          by_cases t0 : tgn (J 11 i) = 0
          · rw [if_pos t0] at hr
            refine ifp ((oi_eq (b := 0) (by omega) (by omega)).mpr t0) ⟨zk, hc2, ?_⟩
            have hu := zrn_n (fun j => decide (J 11 j = 0)) n 255 (i + 1) (by omega)
            have hu2 : i + 1 + zru (J 11) n (i + 1) ≤ n := hu
            generalize zru (J 11) n (i + 1) = u at *
            by_cases c3 : fit I2 a (one (Int32.ofNat u))
            · rw [apr_1 hc2 c3] at hr
              refine ifp c3 ?_
              have hc3 := (ap_c (one (Int32.ofNat u)) I2 hc2).1
              have h103 : (ap I2 a (one (Int32.ofNat u))) 10 1 = Int32.ofNat n := (ap_o hO.1 hO.2 _ _).trans h102
              refine ib_Fr_packInto_78 g1 r (ifn (by rw [t0]; decide) ?_)
              rw [oi_p]
              exact ih (i + 1 + u) hu2 (by omega) _ _ _ _ hc3 h103 hr
            · exact ifn c3 (by rw [hr, apr_0 hc2 c3])
          · rw [if_neg t0] at hr
            refine ifn (fun z => t0 ((oi_eq (b := 0) (by omega) (by omega)).mp z)) ?_
            by_cases t1 : tgn (J 11 i) = 255
            · rw [if_pos t1] at hr
              refine ifp ((oi_eq (b := 255) (by omega) (by omega)).mpr t1) ⟨zk, hc2, ?_⟩
              have hu := zrn_n (fun j => decide (zn (J 11 j) < 2)) n 255 (i + 1) (by omega)
              have hu2 : i + 1 + fru (J 11) n (i + 1) ≤ n := hu
              generalize fru (J 11) n (i + 1) = u at *
              by_cases c3 : fit I2 a (one (Int32.ofNat u))
              · rw [apr_1 hc2 c3] at hr
                refine ifp c3 ?_
                have hc3 := (ap_c (one (Int32.ofNat u)) I2 hc2).1
                have h103 : (ap I2 a (one (Int32.ofNat u))) 10 1 = Int32.ofNat n := (ap_o hO.1 hO.2 _ _).trans h102
                rw [t1]
                exact pkt_78 g1 hn hu2 (fun I' u3 u4 u5 q1 q2 q3 => ih (i + 1 + u) hu2 (by omega) I' u3 u4 u5 q1 q2 q3) u 0 (by omega) _ hc3 h103 hr
              · exact ifn c3 (by rw [hr, apr_0 hc2 c3])
            · rw [if_neg t1] at hr
              refine ifn (fun z => t1 ((oi_eq (b := 255) (by omega) (by omega)).mp z)) ?_
              exact ih (i + 1) (by omega) (by omega) _ _ _ _ hc2 h102 hr
        · exact ifn c2 (by rw [hr, apr_0 hc1 c2])
      · exact ifn c1 (by rw [hr, apr_0 hc c1])
    · rw [if_neg c0] at hr
      refine ib_Fr_packInto_2 g1 r (ifn (by rw [h10, oi_lt (by omega) (by omega)]; omega) ?_)
      rw [hr]
      exact nil I hc
end PK
def pkk (I : st_I) (a : Nat) : Prop := cnk I a ∧ 0 ≤ (I 10 1).toInt ∧ (I 10 1).toInt ≤ 259
def pko (I : st_I) (J : st_J) : List Int32 := pkl (J 11) (I 10 1).toNatClampNeg 260 0
theorem hc_Fr_packInto {X : pm_X} {d : Nat} {I : st_I} {J : st_J} {p1 : Nat} (g1 : st_isO p1 = true) (r : pm_R) : ((pkk I p1) ∧ (if (fit I p1 (pko I J)) then r = (.inl none, st_h (ap I p1 (pko I J)) J, 0, 0) else r = (.inr 3, st_h (ap I p1 (pko I J)) J, 1, 6))) → Ex X (d + 4) 129 [.ref 10, .ref p1] (st_h I J) r := by
  rintro ⟨⟨hc, hn⟩, h⟩
  have hN := cln hn.1
  refine ie_Fr_packInto g1 r (pkt_2 (n := (I 10 1).toNatClampNeg) g1 (by omega) 260 0 (by omega) (by omega) I _ _ _ hc (oi_of hn.1) ?_)
  unfold apr
  unfold pko at h
  by_cases c : fit I p1 (pkl (J 11) (I 10 1).toNatClampNeg 260 0)
  · rw [if_pos c] at h ⊢; exact h
  · rw [if_neg c] at h ⊢; exact h
