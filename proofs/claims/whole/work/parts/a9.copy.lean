theorem iv_Ca_lay {X : pm_X} {d : Nat} {I : st_I} {J : st_J} {p1 : Nat} (g1 : st_aJ p1 = some 64) {p2 : Nat} (g2 : st_isL p2 = true) {p3 : Int32} {o : Option (st_I × st_J)} {Z : st_I × st_J} (r : pm_R) : (if (I (p2 + 1) 0) = (1 : Int32) then ((lx155 X d I J p1 p2 p3 o Z) ∧ (om o (fun x12 => r = (.inl none, st_h x12.1 x12.2, 0, 0)) (r = (.inr 3, st_h Z.1 Z.2, 1, 6)))) else (if (I (p2 + 1) 8) = (7 : Int32) then ((lx163 X d I J p1 p2 p3 o Z) ∧ (om o (fun x18 => r = (.inl none, st_h x18.1 x18.2, 0, 0)) (r = (.inr 3, st_h Z.1 Z.2, 1, 6)))) else (if (I (p2 + 1) 8) = (6 : Int32) then ((lx164 X d I J p2 p3 o Z) ∧ (om o (fun x21 => r = (.inl none, st_h x21.1 x21.2, 0, 0)) (r = (.inr 3, st_h Z.1 Z.2, 1, 6)))) else ((lx165 X d I J p1 p2 p3 o Z) ∧ (om o (fun x22 => r = (.inl none, st_h x22.1 x22.2, 0, 0)) (r = (.inr 3, st_h Z.1 Z.2, 1, 6))))))) → Ex X (d + 4) 154 [.ref 12, .ref p1, .ref p2, .int p3] (st_h I J) r := by
  refine ic (Ex_iff (M := (kc_Ca_lay, [])) (n := 4) rfl rfl) ?_
  refine ic (t_p (pc' := 1) (ls' := [some (.ref 12), some (.ref p1), some (.ref p2), some (.int p3)]) (st' := [.ref p2]) 1 rfl) ?_
  refine ic (t_gR rfl (srL g2)) ?_
  refine ic (t_gI rfl (sfS (st_isL_n g2).2.2 rfl)) ?_
  refine ic (t_p (pc' := 8) (ls' := [some (.ref 12), some (.ref p1), some (.ref p2), some (.int p3)]) (st' := [.int (1 : Int32), .int (I (p2 + 1) 0)]) 1 rfl) ?_
  refine i_cg (t_ine rfl) ?_ ?_
  · refine ic (t_p (pc' := 15) (ls' := [some (.ref 12), some (.ref p1), some (.ref p2), some (.int p3)]) (st' := [.int p3, .ref p2, .ref p1, .ref 12]) 4 rfl) ?_
    refine ip (i_cW rfl rfl rfl rfl (fun q => hc_Ca_layStruct (d := d) (o := o) (Z := Z) g1 g2 q)) ?_
    refine i_an (ex_a) (fun h16 => ?_)
    refine i_cgo ex_o (fun x12 => ?_) ?_
    · refine ic (ex_q) ?_
      refine ic (t_p (pc' := 71) (ls' := [some (.ref 12), some (.ref p1), some (.ref p2), some (.int p3)]) (st' := []) 1 rfl) ?_
      exact ic (t_rV rfl) id
    · exact ic (ex_x) id
  · refine ic (t_p (pc' := 22) (ls' := [some (.ref 12), some (.ref p1), some (.ref p2), some (.int p3)]) (st' := [.ref p2]) 1 rfl) ?_
    refine ic (t_gR rfl (srL g2)) ?_
    refine ic (t_gI rfl (sfS (st_isL_n g2).2.2 rfl)) ?_
    refine ic (t_p (pc' := 30) (ls' := [some (.ref 12), some (.ref p1), some (.ref p2), some (.int p3)]) (st' := [.int (7 : Int32), .int (I (p2 + 1) 8)]) 1 rfl) ?_
    refine i_cg (t_ine rfl) ?_ ?_
    · refine ic (t_p (pc' := 37) (ls' := [some (.ref 12), some (.ref p1), some (.ref p2), some (.int p3)]) (st' := [.int p3, .ref p2, .ref p1, .ref 12]) 4 rfl) ?_
      refine ip (i_cW rfl rfl rfl rfl (fun q => hc_Ca_layStructs (d := d) (o := o) (Z := Z) g1 g2 q)) ?_
      refine i_an (ex_a) (fun h24 => ?_)
      refine i_cgo ex_o (fun x18 => ?_) ?_
      · refine ic (ex_q) ?_
        refine ic (t_p (pc' := 71) (ls' := [some (.ref 12), some (.ref p1), some (.ref p2), some (.int p3)]) (st' := []) 1 rfl) ?_
        exact ic (t_rV rfl) id
      · exact ic (ex_x) id
    · refine ic (t_p (pc' := 44) (ls' := [some (.ref 12), some (.ref p1), some (.ref p2), some (.int p3)]) (st' := [.ref p2]) 1 rfl) ?_
      refine ic (t_gR rfl (srL g2)) ?_
      refine ic (t_gI rfl (sfS (st_isL_n g2).2.2 rfl)) ?_
      refine ic (t_p (pc' := 52) (ls' := [some (.ref 12), some (.ref p1), some (.ref p2), some (.int p3)]) (st' := [.int (6 : Int32), .int (I (p2 + 1) 8)]) 1 rfl) ?_
      refine i_cg (t_ine rfl) ?_ ?_
      · refine ic (t_p (pc' := 58) (ls' := [some (.ref 12), some (.ref p1), some (.ref p2), some (.int p3)]) (st' := [.int p3, .ref p2, .ref 12]) 3 rfl) ?_
        refine ip (i_cW rfl rfl rfl rfl (fun q => hc_Ca_layPointers (d := d) (o := o) (Z := Z) g2 q)) ?_
        refine i_an (ex_a) (fun h28 => ?_)
        refine i_cgo ex_o (fun x21 => ?_) ?_
        · refine ic (ex_q) ?_
          refine ic (t_p (pc' := 71) (ls' := [some (.ref 12), some (.ref p1), some (.ref p2), some (.int p3)]) (st' := []) 1 rfl) ?_
          exact ic (t_rV rfl) id
        · exact ic (ex_x) id
      · refine ic (t_p (pc' := 68) (ls' := [some (.ref 12), some (.ref p1), some (.ref p2), some (.int p3)]) (st' := [.int p3, .ref p2, .ref p1, .ref 12]) 4 rfl) ?_
        refine ip (i_cW rfl rfl rfl rfl (fun q => hc_Ca_layNumbers (d := d) (o := o) (Z := Z) g1 g2 q)) ?_
        refine i_an (ex_a) (fun h29 => ?_)
        refine i_cgo ex_o (fun x22 => ?_) ?_
        · refine ic (ex_q) ?_
          exact ic (t_rV rfl) id
        · exact ic (ex_x) id
theorem ie_Ca_copy {X : pm_X} {d : Nat} {I : st_I} {J : st_J} {p3 : Int32} {p4 : Int32} {p5 : Int32} {p6 : Int32} {o1 : Option (st_I × st_J)} {Z1 : st_I × st_J} {o : Option (st_I × st_J)} {Z : st_I × st_J} (r : pm_R) : ((pm_in p6 65) = true ∧ ((ldx X d I J ((15 + (2 * (Int32.toNatClampNeg p6))) + 1) p3 p4 p6 o1 Z1) ∧ (om o1 (fun x1 => (if (x1.1 ((15 + (2 * (Int32.toNatClampNeg p6))) + 1) 0) = (0 : Int32) then r = (.inl none, st_h x1.1 x1.2, 0, 0) else ((pm_in (x1.1 ((15 + (2 * (Int32.toNatClampNeg p6))) + 1) 2) 4) = true ∧ ((lxx X d x1.1 x1.2 (3 + (Int32.toNatClampNeg (x1.1 ((15 + (2 * (Int32.toNatClampNeg p6))) + 1) 2))) (15 + (2 * (Int32.toNatClampNeg p6))) p5 o Z) ∧ (om o (fun x2 => Gx X (d + 4) (kc_Ca_copy, []) (60, [some (.ref 12), some (.ref 1), some (.ref 8), some (.int p3), some (.int p4), some (.int p5), some (.int p6), some (.ref (15 + (2 * (Int32.toNatClampNeg p6)))), some (.int (0 : Int32)), none, none, none], [], st_h x2.1 x2.2, 0, 0) r) (r = (.inr 3, st_h Z.1 Z.2, 1, 6))))))) (r = (.inr 2, st_h Z1.1 Z1.2, 1, 6))))) → Ex X (d + 5) 153 [.ref 12, .ref 1, .ref 8, .int p3, .int p4, .int p5, .int p6] (st_h I J) r := by
  refine ic (Ex_iff (M := (kc_Ca_copy, [])) (n := 12) rfl rfl) ?_
  refine ic (t_p (pc' := 1) (ls' := [some (.ref 12), some (.ref 1), some (.ref 8), some (.int p3), some (.int p4), some (.int p5), some (.int p6), none, none, none, none, none]) (st' := [.ref 12]) 1 rfl) ?_
  refine ic (t_gR rfl rfl) ?_
  refine ic (t_p (pc' := 6) (ls' := [some (.ref 12), some (.ref 1), some (.ref 8), some (.int p3), some (.int p4), some (.int p5), some (.int p6), none, none, none, none, none]) (st' := [.int p6, .ref 14]) 1 rfl) ?_
  refine i_an (t_lR rfl rfl) (fun h1 => ?_)
  refine ic (t_p (pc' := 13) (ls' := [some (.ref 12), some (.ref 1), some (.ref 8), some (.int p3), some (.int p4), some (.int p5), some (.int p6), some (.ref (15 + (2 * (Int32.toNatClampNeg p6)))), none, none, none, none]) (st' := [.ref (15 + (2 * (Int32.toNatClampNeg p6))), .ref 1, .ref 8]) 4 rfl) ?_
  refine ic (t_gR rfl (srL (siL h1))) ?_
  refine ic (t_p (pc' := 21) (ls' := [some (.ref 12), some (.ref 1), some (.ref 8), some (.int p3), some (.int p4), some (.int p5), some (.int p6), some (.ref (15 + (2 * (Int32.toNatClampNeg p6)))), none, none, none, none]) (st' := [.int p6, .int p4, .int p3, .ref ((15 + (2 * (Int32.toNatClampNeg p6))) + 1), .ref 1, .ref 8]) 3 rfl) ?_
  refine ip (i_cW rfl rfl rfl rfl (fun q => hd_Re_lead (d := d) (o1 := o1) (Z1 := Z1) (st_isL_n (siL h1)).2.2 q)) ?_
  refine i_an (ex_a) (fun h2 => ?_)
  refine i_cgo ex_o (fun x1 => ?_) ?_
  · refine ic (ex_q) ?_
    refine ic (t_p (pc' := 26) (ls' := [some (.ref 12), some (.ref 1), some (.ref 8), some (.int p3), some (.int p4), some (.int p5), some (.int p6), some (.ref (15 + (2 * (Int32.toNatClampNeg p6)))), none, none, none, none]) (st' := [.ref (15 + (2 * (Int32.toNatClampNeg p6)))]) 1 rfl) ?_
    refine ic (t_gR rfl (srL (siL h1))) ?_
    refine ic (t_gI rfl (sfS (st_isL_n (siL h1)).2.2 rfl)) ?_
    refine i_cg (t_fne rfl) ?_ ?_
    · exact ic (t_rV rfl) id
    · refine ic (t_p (pc' := 38) (ls' := [some (.ref 12), some (.ref 1), some (.ref 8), some (.int p3), some (.int p4), some (.int p5), some (.int p6), some (.ref (15 + (2 * (Int32.toNatClampNeg p6)))), none, none, none, none]) (st' := [.ref 1, .ref 12]) 2 rfl) ?_
      refine ic (t_gR rfl rfl) ?_
      refine ic (t_p (pc' := 43) (ls' := [some (.ref 12), some (.ref 1), some (.ref 8), some (.int p3), some (.int p4), some (.int p5), some (.int p6), some (.ref (15 + (2 * (Int32.toNatClampNeg p6)))), none, none, none, none]) (st' := [.ref (15 + (2 * (Int32.toNatClampNeg p6))), .ref 2, .ref 12]) 1 rfl) ?_
      refine ic (t_gR rfl (srL (siL h1))) ?_
      refine ic (t_gI rfl (sfS (st_isL_n (siL h1)).2.2 rfl)) ?_
      refine i_an (t_lR1 rfl rfl) (fun h4 => ?_)
      refine ic (t_p (pc' := 54) (ls' := [some (.ref 12), some (.ref 1), some (.ref 8), some (.int p3), some (.int p4), some (.int p5), some (.int p6), some (.ref (15 + (2 * (Int32.toNatClampNeg p6)))), none, none, none, none]) (st' := [.int p5, .ref (15 + (2 * (Int32.toNatClampNeg p6))), .ref (3 + (Int32.toNatClampNeg (x1.1 ((15 + (2 * (Int32.toNatClampNeg p6))) + 1) 2))), .ref 12]) 2 rfl) ?_
      refine ip (i_cW rfl rfl rfl rfl (fun q => hc_Ca_lay (d := d) (o := o) (Z := Z) (siW1 h4) (siL h1) q)) ?_
      refine i_an (ex_a) (fun h5 => ?_)
      refine i_cgo ex_o (fun x2 => ?_) ?_
      · refine ic (ex_q) ?_
        exact ic (t_p (pc' := 60) (ls' := [some (.ref 12), some (.ref 1), some (.ref 8), some (.int p3), some (.int p4), some (.int p5), some (.int p6), some (.ref (15 + (2 * (Int32.toNatClampNeg p6)))), some (.int (0 : Int32)), none, none, none]) (st' := []) 2 rfl) id
      · exact ic (ex_x) id
  · exact ic (ex_x) id
theorem ib_Ca_copy_60 {X : pm_X} {d : Nat} {I : st_I} {J : st_J} {p3 : Int32} {p4 : Int32} {p5 : Int32} {p6 : Int32} (hL : (pm_in p6 65) = true) {v8 : Int32} {u9 : Option Value} {u10 : Option Value} {u11 : Option Value} {c k : Nat} (r : pm_R) : (if v8 < (I (15 + (2 * (Int32.toNatClampNeg p6))) 1) then Gx X (d + 4) (kc_Ca_copy, []) (103, [some (.ref 12), some (.ref 1), some (.ref 8), some (.int p3), some (.int p4), some (.int p5), some (.int p6), some (.ref (15 + (2 * (Int32.toNatClampNeg p6)))), some (.int v8), some (.int (((I (15 + (2 * (Int32.toNatClampNeg p6))) 2) + (v8 * ((I (15 + (2 * (Int32.toNatClampNeg p6))) 3) + (I (15 + (2 * (Int32.toNatClampNeg p6))) 4)))) + (I (15 + (2 * (Int32.toNatClampNeg p6))) 3))), some (.int (((I (15 + (2 * (Int32.toNatClampNeg p6))) 5) + (v8 * ((I (15 + (2 * (Int32.toNatClampNeg p6))) 6) + (I (15 + (2 * (Int32.toNatClampNeg p6))) 7)))) + (I (15 + (2 * (Int32.toNatClampNeg p6))) 6))), some (.int (0 : Int32))], [], st_h I J, c, k) r else r = (.inl none, st_h I J, c, k)) → Gx X (d + 4) (kc_Ca_copy, []) (60, [some (.ref 12), some (.ref 1), some (.ref 8), some (.int p3), some (.int p4), some (.int p5), some (.int p6), some (.ref (15 + (2 * (Int32.toNatClampNeg p6)))), some (.int v8), u9, u10, u11], [], st_h I J, c, k) r := by
  refine ic (t_p (pc' := 64) (ls' := [some (.ref 12), some (.ref 1), some (.ref 8), some (.int p3), some (.int p4), some (.int p5), some (.int p6), some (.ref (15 + (2 * (Int32.toNatClampNeg p6)))), some (.int v8), u9, u10, u11]) (st' := [.ref (15 + (2 * (Int32.toNatClampNeg p6))), .int v8]) 2 rfl) ?_
  refine ic (t_gI rfl (sfL (siL hL) rfl rfl)) ?_
  refine i_cgd (t_ige rfl) (fun h1 => ?_) (fun h1 => ?_)
  · refine ic (t_p (pc' := 74) (ls' := [some (.ref 12), some (.ref 1), some (.ref 8), some (.int p3), some (.int p4), some (.int p5), some (.int p6), some (.ref (15 + (2 * (Int32.toNatClampNeg p6)))), some (.int v8), u9, u10, u11]) (st' := [.int v8, .ref (15 + (2 * (Int32.toNatClampNeg p6)))]) 2 rfl) ?_
    refine ic (t_cW rfl rfl rfl (clL (siL hL)) (fun q => ev_Le_elementFrom (d := d + 3) (siL hL) q)) ?_
    refine ic (ex_q) ?_
    refine ic (t_p (pc' := 79) (ls' := [some (.ref 12), some (.ref 1), some (.ref 8), some (.int p3), some (.int p4), some (.int p5), some (.int p6), some (.ref (15 + (2 * (Int32.toNatClampNeg p6)))), some (.int v8), u9, u10, u11]) (st' := [.ref (15 + (2 * (Int32.toNatClampNeg p6))), .int ((I (15 + (2 * (Int32.toNatClampNeg p6))) 2) + (v8 * ((I (15 + (2 * (Int32.toNatClampNeg p6))) 3) + (I (15 + (2 * (Int32.toNatClampNeg p6))) 4))))]) 1 rfl) ?_
    refine ic (t_gI rfl (sfL (siL hL) rfl rfl)) ?_
    refine ic (t_p (pc' := 89) (ls' := [some (.ref 12), some (.ref 1), some (.ref 8), some (.int p3), some (.int p4), some (.int p5), some (.int p6), some (.ref (15 + (2 * (Int32.toNatClampNeg p6)))), some (.int v8), some (.int (((I (15 + (2 * (Int32.toNatClampNeg p6))) 2) + (v8 * ((I (15 + (2 * (Int32.toNatClampNeg p6))) 3) + (I (15 + (2 * (Int32.toNatClampNeg p6))) 4)))) + (I (15 + (2 * (Int32.toNatClampNeg p6))) 3))), u10, u11]) (st' := [.int v8, .ref (15 + (2 * (Int32.toNatClampNeg p6)))]) 4 rfl) ?_
    refine ic (t_cW rfl rfl rfl (clL (siL hL)) (fun q => ev_Le_elementTo (d := d + 3) (siL hL) q)) ?_
    refine ic (ex_q) ?_
    refine ic (t_p (pc' := 94) (ls' := [some (.ref 12), some (.ref 1), some (.ref 8), some (.int p3), some (.int p4), some (.int p5), some (.int p6), some (.ref (15 + (2 * (Int32.toNatClampNeg p6)))), some (.int v8), some (.int (((I (15 + (2 * (Int32.toNatClampNeg p6))) 2) + (v8 * ((I (15 + (2 * (Int32.toNatClampNeg p6))) 3) + (I (15 + (2 * (Int32.toNatClampNeg p6))) 4)))) + (I (15 + (2 * (Int32.toNatClampNeg p6))) 3))), u10, u11]) (st' := [.ref (15 + (2 * (Int32.toNatClampNeg p6))), .int ((I (15 + (2 * (Int32.toNatClampNeg p6))) 5) + (v8 * ((I (15 + (2 * (Int32.toNatClampNeg p6))) 6) + (I (15 + (2 * (Int32.toNatClampNeg p6))) 7))))]) 1 rfl) ?_
    refine ic (t_gI rfl (sfL (siL hL) rfl rfl)) ?_
    exact ic (t_p (pc' := 103) (ls' := [some (.ref 12), some (.ref 1), some (.ref 8), some (.int p3), some (.int p4), some (.int p5), some (.int p6), some (.ref (15 + (2 * (Int32.toNatClampNeg p6)))), some (.int v8), some (.int (((I (15 + (2 * (Int32.toNatClampNeg p6))) 2) + (v8 * ((I (15 + (2 * (Int32.toNatClampNeg p6))) 3) + (I (15 + (2 * (Int32.toNatClampNeg p6))) 4)))) + (I (15 + (2 * (Int32.toNatClampNeg p6))) 3))), some (.int (((I (15 + (2 * (Int32.toNatClampNeg p6))) 5) + (v8 * ((I (15 + (2 * (Int32.toNatClampNeg p6))) 6) + (I (15 + (2 * (Int32.toNatClampNeg p6))) 7)))) + (I (15 + (2 * (Int32.toNatClampNeg p6))) 6))), some (.int (0 : Int32))]) (st' := []) 4 rfl) id
  · exact ic (t_rV rfl) id
theorem ib_Ca_copy_103 {X : pm_X} {d : Nat} {I : st_I} {J : st_J} {p3 : Int32} {p4 : Int32} {p5 : Int32} {p6 : Int32} (hL : (pm_in p6 65) = true) {o2 : Option (st_I × st_J)} {Z2 : st_I × st_J} {e2 : Prop} [Decidable e2] {v8 : Int32} {v9 : Int32} {v10 : Int32} {v11 : Int32} {c k : Nat} (r : pm_R) : (if v11 < (I (15 + (2 * (Int32.toNatClampNeg p6))) 7) then ((cpx X d I J (I ((15 + (2 * (Int32.toNatClampNeg p6))) + 1) 2) (v9 + v11) (v10 + v11) (p6 - (1 : Int32)) o2 Z2 e2) ∧ (om o2 (fun x2 => Gx X (d + 4) (kc_Ca_copy, []) (103, [some (.ref 12), some (.ref 1), some (.ref 8), some (.int p3), some (.int p4), some (.int p5), some (.int p6), some (.ref (15 + (2 * (Int32.toNatClampNeg p6)))), some (.int v8), some (.int v9), some (.int v10), some (.int (v11 + (1 : Int32)))], [], st_h x2.1 x2.2, c, k) r) ((if e2 then r = (.inr 2, st_h Z2.1 Z2.2, c + 1, k + 6) else r = (.inr 3, st_h Z2.1 Z2.2, c + 1, k + 6))))) else Gx X (d + 4) (kc_Ca_copy, []) (60, [some (.ref 12), some (.ref 1), some (.ref 8), some (.int p3), some (.int p4), some (.int p5), some (.int p6), some (.ref (15 + (2 * (Int32.toNatClampNeg p6)))), some (.int (v8 + (1 : Int32))), some (.int v9), some (.int v10), some (.int v11)], [], st_h I J, c, k) r) → Gx X (d + 4) (kc_Ca_copy, []) (103, [some (.ref 12), some (.ref 1), some (.ref 8), some (.int p3), some (.int p4), some (.int p5), some (.int p6), some (.ref (15 + (2 * (Int32.toNatClampNeg p6)))), some (.int v8), some (.int v9), some (.int v10), some (.int v11)], [], st_h I J, c, k) r := by
  refine ic (t_p (pc' := 107) (ls' := [some (.ref 12), some (.ref 1), some (.ref 8), some (.int p3), some (.int p4), some (.int p5), some (.int p6), some (.ref (15 + (2 * (Int32.toNatClampNeg p6)))), some (.int v8), some (.int v9), some (.int v10), some (.int v11)]) (st' := [.ref (15 + (2 * (Int32.toNatClampNeg p6))), .int v11]) 2 rfl) ?_
  refine ic (t_gI rfl (sfL (siL hL) rfl rfl)) ?_
  refine i_cg (t_ige rfl) ?_ ?_
  · refine ic (t_p (pc' := 118) (ls' := [some (.ref 12), some (.ref 1), some (.ref 8), some (.int p3), some (.int p4), some (.int p5), some (.int p6), some (.ref (15 + (2 * (Int32.toNatClampNeg p6)))), some (.int v8), some (.int v9), some (.int v10), some (.int v11)]) (st' := [.ref (15 + (2 * (Int32.toNatClampNeg p6))), .ref 8, .ref 1, .ref 12]) 4 rfl) ?_
    refine ic (t_gR rfl (srL (siL hL))) ?_
    refine ic (t_gI rfl (sfS (st_isL_n (siL hL)).2.2 rfl)) ?_
    refine ic (t_p (pc' := 138) (ls' := [some (.ref 12), some (.ref 1), some (.ref 8), some (.int p3), some (.int p4), some (.int p5), some (.int p6), some (.ref (15 + (2 * (Int32.toNatClampNeg p6)))), some (.int v8), some (.int v9), some (.int v10), some (.int v11)]) (st' := [.int (p6 - (1 : Int32)), .int (v10 + v11), .int (v9 + v11), .int (I ((15 + (2 * (Int32.toNatClampNeg p6))) + 1) 2), .ref 8, .ref 1, .ref 12]) 9 rfl) ?_
    refine ip (i_cW rfl rfl rfl rfl (fun q => hc_Ca_copy (d := d) (o2 := o2) (Z2 := Z2) (e2 := e2)  q)) ?_
    refine i_an (ex_a) (fun h4 => ?_)
    refine i_cgo ex_o (fun x2 => ?_) ?_
    · refine ic (ex_q) ?_
      exact ic (t_p (pc' := 103) (ls' := [some (.ref 12), some (.ref 1), some (.ref 8), some (.int p3), some (.int p4), some (.int p5), some (.int p6), some (.ref (15 + (2 * (Int32.toNatClampNeg p6)))), some (.int v8), some (.int v9), some (.int v10), some (.int (v11 + (1 : Int32)))]) (st' := []) 2 rfl) id
    · refine i_cg (ex_i) ?_ ?_
      · exact ic (ex_x) id
      · exact ic (ex_x) id
  · exact ic (t_p (pc' := 60) (ls' := [some (.ref 12), some (.ref 1), some (.ref 8), some (.int p3), some (.int p4), some (.int p5), some (.int p6), some (.ref (15 + (2 * (Int32.toNatClampNeg p6)))), some (.int (v8 + (1 : Int32))), some (.int v9), some (.int v10), some (.int v11)]) (st' := []) 2 rfl) id
