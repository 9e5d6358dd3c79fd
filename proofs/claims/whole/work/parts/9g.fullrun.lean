/-! .. full ones -/
set_option maxRecDepth 100000 in
theorem bc_ : ∀ t : Fin 256, ((((((((((Int32.ofNat t.1) - ((iu (Int32.ofNat t.1) (1 : Int32)) &&& (1431655765 : Int32))) &&& (858993459 : Int32)) + ((iu ((Int32.ofNat t.1) - ((iu (Int32.ofNat t.1) (1 : Int32)) &&& (1431655765 : Int32))) (2 : Int32)) &&& (858993459 : Int32))) + (iu ((((Int32.ofNat t.1) - ((iu (Int32.ofNat t.1) (1 : Int32)) &&& (1431655765 : Int32))) &&& (858993459 : Int32)) + ((iu ((Int32.ofNat t.1) - ((iu (Int32.ofNat t.1) (1 : Int32)) &&& (1431655765 : Int32))) (2 : Int32)) &&& (858993459 : Int32))) (4 : Int32))) &&& (252645135 : Int32)) + (iu ((((((Int32.ofNat t.1) - ((iu (Int32.ofNat t.1) (1 : Int32)) &&& (1431655765 : Int32))) &&& (858993459 : Int32)) + ((iu ((Int32.ofNat t.1) - ((iu (Int32.ofNat t.1) (1 : Int32)) &&& (1431655765 : Int32))) (2 : Int32)) &&& (858993459 : Int32))) + (iu ((((Int32.ofNat t.1) - ((iu (Int32.ofNat t.1) (1 : Int32)) &&& (1431655765 : Int32))) &&& (858993459 : Int32)) + ((iu ((Int32.ofNat t.1) - ((iu (Int32.ofNat t.1) (1 : Int32)) &&& (1431655765 : Int32))) (2 : Int32)) &&& (858993459 : Int32))) (4 : Int32))) &&& (252645135 : Int32)) (8 : Int32))) + (iu (((((((Int32.ofNat t.1) - ((iu (Int32.ofNat t.1) (1 : Int32)) &&& (1431655765 : Int32))) &&& (858993459 : Int32)) + ((iu ((Int32.ofNat t.1) - ((iu (Int32.ofNat t.1) (1 : Int32)) &&& (1431655765 : Int32))) (2 : Int32)) &&& (858993459 : Int32))) + (iu ((((Int32.ofNat t.1) - ((iu (Int32.ofNat t.1) (1 : Int32)) &&& (1431655765 : Int32))) &&& (858993459 : Int32)) + ((iu ((Int32.ofNat t.1) - ((iu (Int32.ofNat t.1) (1 : Int32)) &&& (1431655765 : Int32))) (2 : Int32)) &&& (858993459 : Int32))) (4 : Int32))) &&& (252645135 : Int32)) + (iu ((((((Int32.ofNat t.1) - ((iu (Int32.ofNat t.1) (1 : Int32)) &&& (1431655765 : Int32))) &&& (858993459 : Int32)) + ((iu ((Int32.ofNat t.1) - ((iu (Int32.ofNat t.1) (1 : Int32)) &&& (1431655765 : Int32))) (2 : Int32)) &&& (858993459 : Int32))) + (iu ((((Int32.ofNat t.1) - ((iu (Int32.ofNat t.1) (1 : Int32)) &&& (1431655765 : Int32))) &&& (858993459 : Int32)) + ((iu ((Int32.ofNat t.1) - ((iu (Int32.ofNat t.1) (1 : Int32)) &&& (1431655765 : Int32))) (2 : Int32)) &&& (858993459 : Int32))) (4 : Int32))) &&& (252645135 : Int32)) (8 : Int32))) (16 : Int32))) &&& (63 : Int32)) < (7 : Int32)) ↔ pc8 t.1 < 7 := by decide +kernel
theorem hc_Fr_fullRun {X : pm_X} {d : Nat} {I : st_I} {J : st_J} {p1 : Int32} (r : pm_R) : ((zrk I p1) ∧ r = (.inl (some (.int (Int32.ofNat (fru (J 11) (Int32.toNatClampNeg (I 10 1)) (Int32.toNatClampNeg p1))))), st_h I J, 0, 0)) → Ex X (d + 3) 135 [.ref 10, .int p1] (st_h I J) r := by
  rintro ⟨⟨hn, hp⟩, h⟩
  refine ie_Fr_fullRun r ?_
  obtain ⟨P, rfl, hP⟩ : ∃ P : Nat, p1 = Int32.ofNat P ∧ P ≤ 259 := ⟨p1.toNatClampNeg, oi_of hp.1, by have := cln hp.1; omega⟩
  have eN := oi_of hn.1
  have hN := cln hn.1
  rw [oi_n (by omega)] at h
  generalize (I 10 1).toNatClampNeg = n at *
  have key : ∀ m u, u + m = 255 → r = (.inl (some (.int (Int32.ofNat (u + zrn (fun j => decide (zn (J 11 j) < 2)) n m (P + u))))), st_h I J, 0, 0) → Gx X (d + 2) (kc_Fr_fullRun, []) (2, [some (.ref 10), some (.int (Int32.ofNat P)), some (.int (Int32.ofNat u))], [], st_h I J, 0, 0) r := by
    intro m
    induction m with
    | zero =>
      intro u hu hr
      refine ib_Fr_fullRun_2 r ?_
      exact ifn (show ¬ Int32.ofNat u < 255 by rw [show (255 : Int32) = Int32.ofNat 255 from rfl, oi_lt (by omega) (by omega)]; omega) hr
    | succ m ih =>
      intro u hu hr
      refine ib_Fr_fullRun_2 r ?_
      refine ifp (show Int32.ofNat u < 255 by rw [show (255 : Int32) = Int32.ofNat 255 from rfl, oi_lt (by omega) (by omega)]; omega) ?_
      rw [oi_p, oi_a]
      unfold zrn at hr
      by_cases c : P + u < n
      · refine ifp (by rw [eN, oi_lt (by omega) (by omega)]; exact c) ?_
        refine ⟨oi_in (by omega) (by omega), ?_⟩
        rw [oi_n (by omega)]
        have hb := bc_ ⟨tgn (J 11 (P + u)), tgn_lt _⟩
        have hz := pc_zn (J 11 (P + u))
        by_cases c2 : zn (J 11 (P + u)) < 2
        · rw [if_pos ⟨c, decide_eq_true c2⟩] at hr
          refine ifn (fun z => by have := hb.mp z; dsimp only at this; omega) ?_
          refine ih (u + 1) (by omega) ?_
          rw [hr, show u + 1 + zrn (fun j => decide (zn (J 11 j) < 2)) n m (P + (u + 1)) = u + (zrn (fun j => decide (zn (J 11 j) < 2)) n m (P + u + 1) + 1) by rw [show P + (u + 1) = P + u + 1 by omega]; omega]
        · rw [if_neg (fun z => c2 (of_decide_eq_true z.2))] at hr
          exact ifp (hb.mpr (show pc8 (tgn (J 11 (P + u))) < 7 by omega)) hr
      · refine ifn (by rw [eN, oi_lt (by omega) (by omega)]; exact c) ?_
        rw [if_neg (fun z => c z.1)] at hr
        exact hr
  refine key 255 0 rfl ?_
  rw [h]
  unfold fru
  rw [Nat.zero_add, Nat.add_zero]
