theorem iv_Ca_layStruct {X : pm_X} {d : Nat} {I : st_I} {J : st_J} {p1 : Nat} (g1 : st_aJ p1 = some 64) {p2 : Nat} (g2 : st_isL p2 = true) {p3 : Int32} {K1 : st_I} {K2 : st_I} {K3 : st_I} {L1 : st_J} (r : pm_R) : ((eqI K1 (spn I p2 (1 : Int32) (I (p2 + 1) 3))) ∧ ((msx K1 J p2 p1 K2) ∧ ((eqI K3 (clm K2 ((K2 p2 6) + (K2 p2 7)))) ∧ (if (64 : Int32) < ((K2 12 1) + ((K2 p2 6) + (K2 p2 7))) then r = (.inr 3, st_h K2 J, 1, 6) else ((pm_in p3 64) = true ∧ ((cdx (st_w K3 p2 5 (K2 12 1)) (st_y J 13 (Int32.toNatClampNeg p3) (((((0 : Int64) ||| (jl (Int32.toInt64 ((st_w K3 p2 5 (K2 12 1)) p2 6)) (32 : Int32))) ||| (jl (Int32.toInt64 ((st_w K3 p2 5 (K2 12 1)) p2 7)) (48 : Int32))) &&& (-4294967293 : Int64)) ||| ((jl (Int32.toInt64 (if ((K2 p2 6) + (K2 p2 7)) = (0 : Int32) then (-1 : Int32) else ((((st_w K3 p2 5 (K2 12 1)) p2 5) - p3) - (1 : Int32)))) (2 : Int32)) &&& (4294967292 : Int64)))) p1 p2 L1) ∧ r = (.inl none, st_h (st_w K3 p2 5 (K2 12 1)) L1, 0, 0))))))) → Ex X (d + 3) 155 [.ref 12, .ref p1, .ref p2, .int p3] (st_h I J) r := by
  refine ic (Ex_iff (M := (kc_Ca_layStruct, [])) (n := 6) rfl rfl) ?_
  refine ic (t_p (pc' := 3) (ls' := [some (.ref 12), some (.ref p1), some (.ref p2), some (.int p3), none, none]) (st' := [.ref p2, .int (1 : Int32), .ref p2]) 3 rfl) ?_
  refine ic (t_gR rfl (srL g2)) ?_
  refine ic (t_gI rfl (sfS (st_isL_n g2).2.2 rfl)) ?_
  refine ip (i_cW rfl rfl rfl (clL g2) (fun q => hc_Le_span (d := d) (K1 := K1) g2 q)) ?_
  refine i_an (ex_a) (fun h1 => ?_)
  refine ic (ex_q) ?_
  refine ic (t_p (pc' := 14) (ls' := [some (.ref 12), some (.ref p1), some (.ref p2), some (.int p3), none, none]) (st' := [.ref p1, .ref p2]) 2 rfl) ?_
  refine ip (i_cW rfl rfl rfl (clL g2) (fun q => hc_Le_measure (d := d) (K2 := K2) g2 g1 q)) ?_
  refine i_an (ex_a) (fun h2 => ?_)
  refine ic (ex_q) ?_
  refine ic (t_p (pc' := 18) (ls' := [some (.ref 12), some (.ref p1), some (.ref p2), some (.int p3), none, none]) (st' := [.ref p2]) 1 rfl) ?_
  refine ic (t_gI rfl (sfL g2 rfl rfl)) ?_
  refine ic (t_p (pc' := 22) (ls' := [some (.ref 12), some (.ref p1), some (.ref p2), some (.int p3), none, none]) (st' := [.ref p2, .int (K2 p2 6)]) 1 rfl) ?_
  refine ic (t_gI rfl (sfL g2 rfl rfl)) ?_
  refine ic (t_p (pc' := 32) (ls' := [some (.ref 12), some (.ref p1), some (.ref p2), some (.int p3), some (.int ((K2 p2 6) + (K2 p2 7))), none]) (st' := [.int ((K2 p2 6) + (K2 p2 7)), .ref 12, .ref p2]) 5 rfl) ?_
  refine ip (i_cW rfl rfl rfl rfl (fun q => hc_Ca_claim (d := d) (K3 := K3)  q)) ?_
  refine i_an (ex_a) (fun h3 => ?_)
  refine i_cg (ex_i) ?_ ?_
  · exact ic (ex_x) id
  · refine ic (ex_q) ?_
    refine ic (t_pI rfl (sfL g2 rfl rfl)) ?_
    refine ic (t_p (pc' := 40) (ls' := [some (.ref 12), some (.ref p1), some (.ref p2), some (.int p3), some (.int ((K2 p2 6) + (K2 p2 7))), none]) (st' := [.int ((K2 p2 6) + (K2 p2 7))]) 1 rfl) ?_
    refine ic (mgI (t_fne rfl) rfl (t_p (pc' := 55) (ls' := [some (.ref 12), some (.ref p1), some (.ref p2), some (.int p3), some (.int ((K2 p2 6) + (K2 p2 7))), none]) (st' := [.int (-1 : Int32)]) 2 rfl) ((t_p (pc' := 48) (ls' := [some (.ref 12), some (.ref p1), some (.ref p2), some (.int p3), some (.int ((K2 p2 6) + (K2 p2 7))), none]) (st' := [.ref p2]) 1 rfl).trans ((t_gI rfl (sfL g2 rfl rfl)).trans (t_p (pc' := 55) (ls' := [some (.ref 12), some (.ref p1), some (.ref p2), some (.int p3), some (.int ((K2 p2 6) + (K2 p2 7))), none]) (st' := [.int ((((st_w K3 p2 5 (K2 12 1)) p2 5) - p3) - (1 : Int32))]) 4 rfl)))) ?_
    refine ic (t_p (pc' := 58) (ls' := [some (.ref 12), some (.ref p1), some (.ref p2), some (.int p3), some (.int ((K2 p2 6) + (K2 p2 7))), some (.int (if ((K2 p2 6) + (K2 p2 7)) = (0 : Int32) then (-1 : Int32) else ((((st_w K3 p2 5 (K2 12 1)) p2 5) - p3) - (1 : Int32))))]) (st' := [.ref 12]) 2 rfl) ?_
    refine ic (t_gR rfl rfl) ?_
    refine ic (t_p (pc' := 63) (ls' := [some (.ref 12), some (.ref p1), some (.ref p2), some (.int p3), some (.int ((K2 p2 6) + (K2 p2 7))), some (.int (if ((K2 p2 6) + (K2 p2 7)) = (0 : Int32) then (-1 : Int32) else ((((st_w K3 p2 5 (K2 12 1)) p2 5) - p3) - (1 : Int32))))]) (st' := [.ref p2, .int p3, .ref 13]) 2 rfl) ?_
    refine ic (t_gI rfl (sfL g2 rfl rfl)) ?_
    refine ic (t_p (pc' := 67) (ls' := [some (.ref 12), some (.ref p1), some (.ref p2), some (.int p3), some (.int ((K2 p2 6) + (K2 p2 7))), some (.int (if ((K2 p2 6) + (K2 p2 7)) = (0 : Int32) then (-1 : Int32) else ((((st_w K3 p2 5 (K2 12 1)) p2 5) - p3) - (1 : Int32))))]) (st' := [.ref p2, .int ((st_w K3 p2 5 (K2 12 1)) p2 6), .int p3, .ref 13]) 1 rfl) ?_
    refine ic (t_gI rfl (sfL g2 rfl rfl)) ?_
    refine ic (t_cQ rfl rfl rfl (fun q => ev_Po_toStruct (d := d + 1)  q)) ?_
    refine ic (ex_q) ?_
    refine ic (t_p (pc' := 75) (ls' := [some (.ref 12), some (.ref p1), some (.ref p2), some (.int p3), some (.int ((K2 p2 6) + (K2 p2 7))), some (.int (if ((K2 p2 6) + (K2 p2 7)) = (0 : Int32) then (-1 : Int32) else ((((st_w K3 p2 5 (K2 12 1)) p2 5) - p3) - (1 : Int32))))]) (st' := [.int (if ((K2 p2 6) + (K2 p2 7)) = (0 : Int32) then (-1 : Int32) else ((((st_w K3 p2 5 (K2 12 1)) p2 5) - p3) - (1 : Int32))), .long (((0 : Int64) ||| (jl (Int32.toInt64 ((st_w K3 p2 5 (K2 12 1)) p2 6)) (32 : Int32))) ||| (jl (Int32.toInt64 ((st_w K3 p2 5 (K2 12 1)) p2 7)) (48 : Int32))), .int p3, .ref 13]) 1 rfl) ?_
    refine ic (t_cQ rfl rfl rfl (fun q => ev_Po_withOffset (d := d + 1)  q)) ?_
    refine ic (ex_q) ?_
    refine i_an (t_sJ rfl rfl) (fun h5 => ?_)
    refine ic (t_p (pc' := 82) (ls' := [some (.ref 12), some (.ref p1), some (.ref p2), some (.int p3), some (.int ((K2 p2 6) + (K2 p2 7))), some (.int (if ((K2 p2 6) + (K2 p2 7)) = (0 : Int32) then (-1 : Int32) else ((((st_w K3 p2 5 (K2 12 1)) p2 5) - p3) - (1 : Int32))))]) (st' := [.ref p2, .ref p1, .ref 12]) 3 rfl) ?_
    refine ip (i_cW rfl rfl rfl rfl (fun q => hc_Ca_copyData (d := d) (L1 := L1) g1 g2 q)) ?_
    refine i_an (ex_a) (fun h6 => ?_)
    refine ic (ex_q) ?_
    exact ic (t_rV rfl) id
theorem iv_Ca_layStructs {X : pm_X} {d : Nat} {I : st_I} {J : st_J} {p1 : Nat} (g1 : st_aJ p1 = some 64) {p2 : Nat} (g2 : st_isL p2 = true) {p3 : Int32} {K1 : st_I} {K2 : st_I} {K3 : st_I} {L1 : st_J} (r : pm_R) : ((eqI K1 (spn I p2 (if ((I (p2 + 1) 5) + (I (p2 + 1) 6)) = (0 : Int32) then (0 : Int32) else (I (p2 + 1) 7)) (if (I (p2 + 1) 8) = (7 : Int32) then ((I (p2 + 1) 3) + (1 : Int32)) else (I (p2 + 1) 3)))) ∧ ((msx K1 J p2 p1 K2) ∧ ((eqI K3 (clm K2 (((K2 p2 1) * ((K2 p2 6) + (K2 p2 7))) + (1 : Int32)))) ∧ (if (64 : Int32) < ((K2 12 1) + (((K2 p2 1) * ((K2 p2 6) + (K2 p2 7))) + (1 : Int32))) then r = (.inr 3, st_h K2 J, 1, 6) else ((pm_in p3 64) = true ∧ ((pm_in (K2 12 1) 64) = true ∧ ((cdx (st_w K3 p2 5 ((K2 12 1) + (1 : Int32))) (st_y (st_y J 13 (Int32.toNatClampNeg p3) (((((1 : Int64) ||| (jl (Int32.toInt64 (7 : Int32)) (32 : Int32))) ||| (jl (Int32.toInt64 ((K2 p2 1) * ((K2 p2 6) + (K2 p2 7)))) (35 : Int32))) &&& (-4294967293 : Int64)) ||| ((jl (Int32.toInt64 (((K2 12 1) - p3) - (1 : Int32))) (2 : Int32)) &&& (4294967292 : Int64)))) 13 (Int32.toNatClampNeg (K2 12 1)) (((((0 : Int64) ||| (jl (Int32.toInt64 ((st_w K3 p2 5 ((K2 12 1) + (1 : Int32))) p2 6)) (32 : Int32))) ||| (jl (Int32.toInt64 ((st_w K3 p2 5 ((K2 12 1) + (1 : Int32))) p2 7)) (48 : Int32))) &&& (-4294967293 : Int64)) ||| ((jl (Int32.toInt64 ((st_w K3 p2 5 ((K2 12 1) + (1 : Int32))) (p2 + 1) 7)) (2 : Int32)) &&& (4294967292 : Int64)))) p1 p2 L1) ∧ r = (.inl none, st_h (st_w K3 p2 5 ((K2 12 1) + (1 : Int32))) L1, 0, 0)))))))) → Ex X (d + 3) 163 [.ref 12, .ref p1, .ref p2, .int p3] (st_h I J) r := by
  refine ic (Ex_iff (M := (kc_Ca_layStructs, [])) (n := 7) rfl rfl) ?_
  refine ic (t_p (pc' := 1) (ls' := [some (.ref 12), some (.ref p1), some (.ref p2), some (.int p3), none, none, none]) (st' := [.ref p2]) 1 rfl) ?_
  refine ic (t_gR rfl (srL g2)) ?_
  refine ic (t_p (pc' := 9) (ls' := [some (.ref 12), some (.ref p1), some (.ref p2), some (.int p3), some (.ref (p2 + 1)), none, none]) (st' := [.ref (p2 + 1), .ref p2]) 3 rfl) ?_
  refine ic (t_gI rfl (sfS (st_isL_n g2).2.2 rfl)) ?_
  refine ic (t_p (pc' := 14) (ls' := [some (.ref 12), some (.ref p1), some (.ref p2), some (.int p3), some (.ref (p2 + 1)), none, none]) (st' := [.ref (p2 + 1), .int (I (p2 + 1) 5), .ref p2]) 1 rfl) ?_
  refine ic (t_gI rfl (sfS (st_isL_n g2).2.2 rfl)) ?_
  refine ic (t_p (pc' := 18) (ls' := [some (.ref 12), some (.ref p1), some (.ref p2), some (.int p3), some (.ref (p2 + 1)), none, none]) (st' := [.int ((I (p2 + 1) 5) + (I (p2 + 1) 6)), .ref p2]) 1 rfl) ?_
  refine ic (mgI (t_fne rfl) rfl (t_p (pc' := 30) (ls' := [some (.ref 12), some (.ref p1), some (.ref p2), some (.int p3), some (.ref (p2 + 1)), none, none]) (st' := [.int (0 : Int32), .ref p2]) 2 rfl) ((t_p (pc' := 27) (ls' := [some (.ref 12), some (.ref p1), some (.ref p2), some (.int p3), some (.ref (p2 + 1)), none, none]) (st' := [.ref (p2 + 1), .ref p2]) 1 rfl).trans (t_gI rfl (sfS (st_isL_n g2).2.2 rfl)))) ?_
  refine ic (t_p (pc' := 32) (ls' := [some (.ref 12), some (.ref p1), some (.ref p2), some (.int p3), some (.ref (p2 + 1)), none, none]) (st' := [.ref (p2 + 1), .int (if ((I (p2 + 1) 5) + (I (p2 + 1) 6)) = (0 : Int32) then (0 : Int32) else (I (p2 + 1) 7)), .ref p2]) 1 rfl) ?_
  refine ic (t_cW rfl rfl rfl (clS (st_isL_n g2).2.2) (fun q => ev_Sp_firstElement (d := d + 1) (st_isL_n g2).2.2 q)) ?_
  refine ic (ex_q) ?_
  refine ip (i_cW rfl rfl rfl (clL g2) (fun q => hc_Le_span (d := d) (K1 := K1) g2 q)) ?_
  refine i_an (ex_a) (fun h1 => ?_)
  refine ic (ex_q) ?_
  refine ic (t_p (pc' := 40) (ls' := [some (.ref 12), some (.ref p1), some (.ref p2), some (.int p3), some (.ref (p2 + 1)), none, none]) (st' := [.ref p1, .ref p2]) 2 rfl) ?_
  refine ip (i_cW rfl rfl rfl (clL g2) (fun q => hc_Le_measure (d := d) (K2 := K2) g2 g1 q)) ?_
  refine i_an (ex_a) (fun h2 => ?_)
  refine ic (ex_q) ?_
  refine ic (t_p (pc' := 44) (ls' := [some (.ref 12), some (.ref p1), some (.ref p2), some (.int p3), some (.ref (p2 + 1)), none, none]) (st' := [.ref p2]) 1 rfl) ?_
  refine ic (t_gI rfl (sfL g2 rfl rfl)) ?_
  refine ic (t_p (pc' := 48) (ls' := [some (.ref 12), some (.ref p1), some (.ref p2), some (.int p3), some (.ref (p2 + 1)), none, none]) (st' := [.ref p2, .int (K2 p2 1)]) 1 rfl) ?_
  refine ic (t_gI rfl (sfL g2 rfl rfl)) ?_
  refine ic (t_p (pc' := 52) (ls' := [some (.ref 12), some (.ref p1), some (.ref p2), some (.int p3), some (.ref (p2 + 1)), none, none]) (st' := [.ref p2, .int (K2 p2 6), .int (K2 p2 1)]) 1 rfl) ?_
  refine ic (t_gI rfl (sfL g2 rfl rfl)) ?_
  refine ic (t_p (pc' := 64) (ls' := [some (.ref 12), some (.ref p1), some (.ref p2), some (.int p3), some (.ref (p2 + 1)), some (.int ((K2 p2 1) * ((K2 p2 6) + (K2 p2 7)))), none]) (st' := [.int (((K2 p2 1) * ((K2 p2 6) + (K2 p2 7))) + (1 : Int32)), .ref 12]) 7 rfl) ?_
  refine ip (i_cW rfl rfl rfl rfl (fun q => hc_Ca_claim (d := d) (K3 := K3)  q)) ?_
  refine i_an (ex_a) (fun h3 => ?_)
  refine i_cg (ex_i) ?_ ?_
  · exact ic (ex_x) id
  · refine ic (ex_q) ?_
    refine ic (t_p (pc' := 74) (ls' := [some (.ref 12), some (.ref p1), some (.ref p2), some (.int p3), some (.ref (p2 + 1)), some (.int ((K2 p2 1) * ((K2 p2 6) + (K2 p2 7)))), some (.int (K2 12 1))]) (st' := [.int ((K2 12 1) + (1 : Int32)), .ref p2]) 5 rfl) ?_
    refine ic (t_pI rfl (sfL g2 rfl rfl)) ?_
    refine ic (t_p (pc' := 78) (ls' := [some (.ref 12), some (.ref p1), some (.ref p2), some (.int p3), some (.ref (p2 + 1)), some (.int ((K2 p2 1) * ((K2 p2 6) + (K2 p2 7)))), some (.int (K2 12 1))]) (st' := [.ref 12]) 1 rfl) ?_
    refine ic (t_gR rfl rfl) ?_
    refine ic (t_p (pc' := 86) (ls' := [some (.ref 12), some (.ref p1), some (.ref p2), some (.int p3), some (.ref (p2 + 1)), some (.int ((K2 p2 1) * ((K2 p2 6) + (K2 p2 7)))), some (.int (K2 12 1))]) (st' := [.int ((K2 p2 1) * ((K2 p2 6) + (K2 p2 7))), .int (7 : Int32), .int p3, .ref 13]) 3 rfl) ?_
    refine ic (t_cQ rfl rfl rfl (fun q => ev_Po_toList (d := d + 1)  q)) ?_
    refine ic (ex_q) ?_
    refine ic (t_p (pc' := 95) (ls' := [some (.ref 12), some (.ref p1), some (.ref p2), some (.int p3), some (.ref (p2 + 1)), some (.int ((K2 p2 1) * ((K2 p2 6) + (K2 p2 7)))), some (.int (K2 12 1))]) (st' := [.int (((K2 12 1) - p3) - (1 : Int32)), .long (((1 : Int64) ||| (jl (Int32.toInt64 (7 : Int32)) (32 : Int32))) ||| (jl (Int32.toInt64 ((K2 p2 1) * ((K2 p2 6) + (K2 p2 7)))) (35 : Int32))), .int p3, .ref 13]) 5 rfl) ?_
    refine ic (t_cQ rfl rfl rfl (fun q => ev_Po_withOffset (d := d + 1)  q)) ?_
    refine ic (ex_q) ?_
    refine i_an (t_sJ rfl rfl) (fun h5 => ?_)
    refine ic (t_p (pc' := 100) (ls' := [some (.ref 12), some (.ref p1), some (.ref p2), some (.int p3), some (.ref (p2 + 1)), some (.int ((K2 p2 1) * ((K2 p2 6) + (K2 p2 7)))), some (.int (K2 12 1))]) (st' := [.ref 12]) 1 rfl) ?_
    refine ic (t_gR rfl rfl) ?_
    refine ic (t_p (pc' := 106) (ls' := [some (.ref 12), some (.ref p1), some (.ref p2), some (.int p3), some (.ref (p2 + 1)), some (.int ((K2 p2 1) * ((K2 p2 6) + (K2 p2 7)))), some (.int (K2 12 1))]) (st' := [.ref p2, .int (K2 12 1), .ref 13]) 2 rfl) ?_
    refine ic (t_gI rfl (sfL g2 rfl rfl)) ?_
    refine ic (t_p (pc' := 110) (ls' := [some (.ref 12), some (.ref p1), some (.ref p2), some (.int p3), some (.ref (p2 + 1)), some (.int ((K2 p2 1) * ((K2 p2 6) + (K2 p2 7)))), some (.int (K2 12 1))]) (st' := [.ref p2, .int ((st_w K3 p2 5 ((K2 12 1) + (1 : Int32))) p2 6), .int (K2 12 1), .ref 13]) 1 rfl) ?_
    refine ic (t_gI rfl (sfL g2 rfl rfl)) ?_
    refine ic (t_cQ rfl rfl rfl (fun q => ev_Po_toStruct (d := d + 1)  q)) ?_
    refine ic (ex_q) ?_
    refine ic (t_p (pc' := 118) (ls' := [some (.ref 12), some (.ref p1), some (.ref p2), some (.int p3), some (.ref (p2 + 1)), some (.int ((K2 p2 1) * ((K2 p2 6) + (K2 p2 7)))), some (.int (K2 12 1))]) (st' := [.ref (p2 + 1), .long (((0 : Int64) ||| (jl (Int32.toInt64 ((st_w K3 p2 5 ((K2 12 1) + (1 : Int32))) p2 6)) (32 : Int32))) ||| (jl (Int32.toInt64 ((st_w K3 p2 5 ((K2 12 1) + (1 : Int32))) p2 7)) (48 : Int32))), .int (K2 12 1), .ref 13]) 1 rfl) ?_
    refine ic (t_gI rfl (sfS (st_isL_n g2).2.2 rfl)) ?_
    refine ic (t_cQ rfl rfl rfl (fun q => ev_Po_withOffset (d := d + 1)  q)) ?_
    refine ic (ex_q) ?_
    refine i_an (t_sJ rfl rfl) (fun h6 => ?_)
    refine ic (t_p (pc' := 128) (ls' := [some (.ref 12), some (.ref p1), some (.ref p2), some (.int p3), some (.ref (p2 + 1)), some (.int ((K2 p2 1) * ((K2 p2 6) + (K2 p2 7)))), some (.int (K2 12 1))]) (st' := [.ref p2, .ref p1, .ref 12]) 3 rfl) ?_
    refine ip (i_cW rfl rfl rfl rfl (fun q => hc_Ca_copyData (d := d) (L1 := L1) g1 g2 q)) ?_
    refine i_an (ex_a) (fun h7 => ?_)
    refine ic (ex_q) ?_
    exact ic (t_rV rfl) id
theorem iv_Ca_layPointers {X : pm_X} {d : Nat} {I : st_I} {J : st_J} {p1 : Nat} (g1 : st_isL p1 = true) {p2 : Int32} {K1 : st_I} {K3 : st_I} (r : pm_R) : ((eqI K1 (spn I p1 (I (p1 + 1) 7) (I (p1 + 1) 3))) ∧ ((eqI K3 (clm (st_w K1 p1 7 (1 : Int32)) ((st_w K1 p1 7 (1 : Int32)) p1 1))) ∧ (if (64 : Int32) < (((st_w K1 p1 7 (1 : Int32)) 12 1) + ((st_w K1 p1 7 (1 : Int32)) p1 1)) then r = (.inr 3, st_h (st_w K1 p1 7 (1 : Int32)) J, 1, 6) else ((pm_in p2 64) = true ∧ r = (.inl none, st_h (st_w K3 p1 5 ((st_w K1 p1 7 (1 : Int32)) 12 1)) (st_y J 13 (Int32.toNatClampNeg p2) (((((1 : Int64) ||| (jl (Int32.toInt64 (6 : Int32)) (32 : Int32))) ||| (jl (Int32.toInt64 ((st_w K3 p1 5 ((st_w K1 p1 7 (1 : Int32)) 12 1)) p1 1)) (35 : Int32))) &&& (-4294967293 : Int64)) ||| ((jl (Int32.toInt64 ((((st_w K3 p1 5 ((st_w K1 p1 7 (1 : Int32)) 12 1)) p1 5) - p2) - (1 : Int32))) (2 : Int32)) &&& (4294967292 : Int64)))), 0, 0))))) → Ex X (d + 3) 164 [.ref 12, .ref p1, .int p2] (st_h I J) r := by
  refine ic (Ex_iff (M := (kc_Ca_layPointers, [])) (n := 3) rfl rfl) ?_
  refine ic (t_p (pc' := 2) (ls' := [some (.ref 12), some (.ref p1), some (.int p2)]) (st' := [.ref p1, .ref p1]) 2 rfl) ?_
  refine ic (t_gR rfl (srL g1)) ?_
  refine ic (t_gI rfl (sfS (st_isL_n g1).2.2 rfl)) ?_
  refine ic (t_p (pc' := 9) (ls' := [some (.ref 12), some (.ref p1), some (.int p2)]) (st' := [.ref p1, .int (I (p1 + 1) 7), .ref p1]) 1 rfl) ?_
  refine ic (t_gR rfl (srL g1)) ?_
  refine ic (t_gI rfl (sfS (st_isL_n g1).2.2 rfl)) ?_
  refine ip (i_cW rfl rfl rfl (clL g1) (fun q => hc_Le_span (d := d) (K1 := K1) g1 q)) ?_
  refine i_an (ex_a) (fun h1 => ?_)
  refine ic (ex_q) ?_
  refine ic (t_p (pc' := 20) (ls' := [some (.ref 12), some (.ref p1), some (.int p2)]) (st' := [.int (1 : Int32), .ref p1]) 2 rfl) ?_
  refine ic (t_pI rfl (sfL g1 rfl rfl)) ?_
  refine ic (t_p (pc' := 26) (ls' := [some (.ref 12), some (.ref p1), some (.int p2)]) (st' := [.ref p1, .ref 12, .ref p1]) 3 rfl) ?_
  refine ic (t_gI rfl (sfL g1 rfl rfl)) ?_
  refine ip (i_cW rfl rfl rfl rfl (fun q => hc_Ca_claim (d := d) (K3 := K3)  q)) ?_
  refine i_an (ex_a) (fun h2 => ?_)
  refine i_cg (ex_i) ?_ ?_
  · exact ic (ex_x) id
  · refine ic (ex_q) ?_
    refine ic (t_pI rfl (sfL g1 rfl rfl)) ?_
    refine ic (t_p (pc' := 36) (ls' := [some (.ref 12), some (.ref p1), some (.int p2)]) (st' := [.ref 12]) 1 rfl) ?_
    refine ic (t_gR rfl rfl) ?_
    refine ic (t_p (pc' := 43) (ls' := [some (.ref 12), some (.ref p1), some (.int p2)]) (st' := [.ref p1, .int (6 : Int32), .int p2, .ref 13]) 3 rfl) ?_
    refine ic (t_gI rfl (sfL g1 rfl rfl)) ?_
    refine ic (t_cQ rfl rfl rfl (fun q => ev_Po_toList (d := d + 1)  q)) ?_
    refine ic (ex_q) ?_
    refine ic (t_p (pc' := 50) (ls' := [some (.ref 12), some (.ref p1), some (.int p2)]) (st' := [.ref p1, .long (((1 : Int64) ||| (jl (Int32.toInt64 (6 : Int32)) (32 : Int32))) ||| (jl (Int32.toInt64 ((st_w K3 p1 5 ((st_w K1 p1 7 (1 : Int32)) 12 1)) p1 1)) (35 : Int32))), .int p2, .ref 13]) 1 rfl) ?_
    refine ic (t_gI rfl (sfL g1 rfl rfl)) ?_
    refine ic (t_p (pc' := 57) (ls' := [some (.ref 12), some (.ref p1), some (.int p2)]) (st' := [.int ((((st_w K3 p1 5 ((st_w K1 p1 7 (1 : Int32)) 12 1)) p1 5) - p2) - (1 : Int32)), .long (((1 : Int64) ||| (jl (Int32.toInt64 (6 : Int32)) (32 : Int32))) ||| (jl (Int32.toInt64 ((st_w K3 p1 5 ((st_w K1 p1 7 (1 : Int32)) 12 1)) p1 1)) (35 : Int32))), .int p2, .ref 13]) 4 rfl) ?_
    refine ic (t_cQ rfl rfl rfl (fun q => ev_Po_withOffset (d := d + 1)  q)) ?_
    refine ic (ex_q) ?_
    refine i_an (t_sJ rfl rfl) (fun h4 => ?_)
    exact ic (t_rV rfl) id
set_option maxRecDepth 20000 in
theorem iv_Ca_layNumbers {X : pm_X} (hX : X 1 = (8, eb)) {d : Nat} {I : st_I} {J : st_J} {p1 : Nat} (g1 : st_aJ p1 = some 64) {p2 : Nat} (g2 : st_isL p2 = true) {p3 : Int32} {K1 : st_I} {K3 : st_I} (r : pm_R) : ((eqI K1 (spn I p2 (0 : Int32) (I (p2 + 1) 3))) ∧ ((pm_in (K1 (p2 + 1) 8) 8) = true ∧ ((eqI K3 (clm K1 (lwd (K1 (p2 + 1) 8) (K1 (p2 + 1) 7)))) ∧ (if (64 : Int32) < ((K1 12 1) + (lwd (K1 (p2 + 1) 8) (K1 (p2 + 1) 7))) then r = (.inr 3, st_h K1 J, 1, 6) else ((pm_in p3 64) = true ∧ ((st_cpk (K3 (p2 + 1) 3) (K1 12 1) (lwd (K1 (p2 + 1) 8) (K1 (p2 + 1) 7)) 64 64) = true ∧ ((pm_in (K3 (p2 + 1) 8) 8) = true ∧ (if (irm ((K3 (p2 + 1) 7) * (eb (Int32.toNatClampNeg (K3 (p2 + 1) 8)))) (64 : Int32)) = (0 : Int32) then r = (.inl none, st_h K3 (st_yr (st_y J 13 (Int32.toNatClampNeg p3) (((((1 : Int64) ||| (jl (Int32.toInt64 (K3 (p2 + 1) 8)) (32 : Int32))) ||| (jl (Int32.toInt64 (K3 (p2 + 1) 7)) (35 : Int32))) &&& (-4294967293 : Int64)) ||| ((jl (Int32.toInt64 (((K1 12 1) - p3) - (1 : Int32))) (2 : Int32)) &&& (4294967292 : Int64)))) 13 (va_cpy ((st_y J 13 (Int32.toNatClampNeg p3) (((((1 : Int64) ||| (jl (Int32.toInt64 (K3 (p2 + 1) 8)) (32 : Int32))) ||| (jl (Int32.toInt64 (K3 (p2 + 1) 7)) (35 : Int32))) &&& (-4294967293 : Int64)) ||| ((jl (Int32.toInt64 (((K1 12 1) - p3) - (1 : Int32))) (2 : Int32)) &&& (4294967292 : Int64)))) p1) ((st_y J 13 (Int32.toNatClampNeg p3) (((((1 : Int64) ||| (jl (Int32.toInt64 (K3 (p2 + 1) 8)) (32 : Int32))) ||| (jl (Int32.toInt64 (K3 (p2 + 1) 7)) (35 : Int32))) &&& (-4294967293 : Int64)) ||| ((jl (Int32.toInt64 (((K1 12 1) - p3) - (1 : Int32))) (2 : Int32)) &&& (4294967292 : Int64)))) 13) (Int32.toNatClampNeg (K3 (p2 + 1) 3)) (Int32.toNatClampNeg (K1 12 1)) (Int32.toNatClampNeg (lwd (K1 (p2 + 1) 8) (K1 (p2 + 1) 7))))), 0, 0) else ((pm_in (((K1 12 1) + (lwd (K1 (p2 + 1) 8) (K1 (p2 + 1) 7))) - (1 : Int32)) 64) = true ∧ r = (.inl none, st_h K3 (st_y (st_yr (st_y J 13 (Int32.toNatClampNeg p3) (((((1 : Int64) ||| (jl (Int32.toInt64 (K3 (p2 + 1) 8)) (32 : Int32))) ||| (jl (Int32.toInt64 (K3 (p2 + 1) 7)) (35 : Int32))) &&& (-4294967293 : Int64)) ||| ((jl (Int32.toInt64 (((K1 12 1) - p3) - (1 : Int32))) (2 : Int32)) &&& (4294967292 : Int64)))) 13 (va_cpy ((st_y J 13 (Int32.toNatClampNeg p3) (((((1 : Int64) ||| (jl (Int32.toInt64 (K3 (p2 + 1) 8)) (32 : Int32))) ||| (jl (Int32.toInt64 (K3 (p2 + 1) 7)) (35 : Int32))) &&& (-4294967293 : Int64)) ||| ((jl (Int32.toInt64 (((K1 12 1) - p3) - (1 : Int32))) (2 : Int32)) &&& (4294967292 : Int64)))) p1) ((st_y J 13 (Int32.toNatClampNeg p3) (((((1 : Int64) ||| (jl (Int32.toInt64 (K3 (p2 + 1) 8)) (32 : Int32))) ||| (jl (Int32.toInt64 (K3 (p2 + 1) 7)) (35 : Int32))) &&& (-4294967293 : Int64)) ||| ((jl (Int32.toInt64 (((K1 12 1) - p3) - (1 : Int32))) (2 : Int32)) &&& (4294967292 : Int64)))) 13) (Int32.toNatClampNeg (K3 (p2 + 1) 3)) (Int32.toNatClampNeg (K1 12 1)) (Int32.toNatClampNeg (lwd (K1 (p2 + 1) 8) (K1 (p2 + 1) 7))))) 13 (Int32.toNatClampNeg (((K1 12 1) + (lwd (K1 (p2 + 1) 8) (K1 (p2 + 1) 7))) - (1 : Int32))) (((st_yr (st_y J 13 (Int32.toNatClampNeg p3) (((((1 : Int64) ||| (jl (Int32.toInt64 (K3 (p2 + 1) 8)) (32 : Int32))) ||| (jl (Int32.toInt64 (K3 (p2 + 1) 7)) (35 : Int32))) &&& (-4294967293 : Int64)) ||| ((jl (Int32.toInt64 (((K1 12 1) - p3) - (1 : Int32))) (2 : Int32)) &&& (4294967292 : Int64)))) 13 (va_cpy ((st_y J 13 (Int32.toNatClampNeg p3) (((((1 : Int64) ||| (jl (Int32.toInt64 (K3 (p2 + 1) 8)) (32 : Int32))) ||| (jl (Int32.toInt64 (K3 (p2 + 1) 7)) (35 : Int32))) &&& (-4294967293 : Int64)) ||| ((jl (Int32.toInt64 (((K1 12 1) - p3) - (1 : Int32))) (2 : Int32)) &&& (4294967292 : Int64)))) p1) ((st_y J 13 (Int32.toNatClampNeg p3) (((((1 : Int64) ||| (jl (Int32.toInt64 (K3 (p2 + 1) 8)) (32 : Int32))) ||| (jl (Int32.toInt64 (K3 (p2 + 1) 7)) (35 : Int32))) &&& (-4294967293 : Int64)) ||| ((jl (Int32.toInt64 (((K1 12 1) - p3) - (1 : Int32))) (2 : Int32)) &&& (4294967292 : Int64)))) 13) (Int32.toNatClampNeg (K3 (p2 + 1) 3)) (Int32.toNatClampNeg (K1 12 1)) (Int32.toNatClampNeg (lwd (K1 (p2 + 1) 8) (K1 (p2 + 1) 7))))) 13 (Int32.toNatClampNeg (((K1 12 1) + (lwd (K1 (p2 + 1) 8) (K1 (p2 + 1) 7))) - (1 : Int32)))) &&& (on_ (irm ((K3 (p2 + 1) 7) * (eb (Int32.toNatClampNeg (K3 (p2 + 1) 8)))) (64 : Int32))))), 0, 0)))))))))) → Ex X (d + 3) 165 [.ref 12, .ref p1, .ref p2, .int p3] (st_h I J) r := by
  refine ic (Ex_iff (M := (kc_Ca_layNumbers, [])) (n := 8) rfl rfl) ?_
  refine ic (t_p (pc' := 1) (ls' := [some (.ref 12), some (.ref p1), some (.ref p2), some (.int p3), none, none, none, none]) (st' := [.ref p2]) 1 rfl) ?_
  refine ic (t_gR rfl (srL g2)) ?_
  refine ic (t_p (pc' := 10) (ls' := [some (.ref 12), some (.ref p1), some (.ref p2), some (.int p3), some (.ref (p2 + 1)), none, none, none]) (st' := [.ref (p2 + 1), .int (0 : Int32), .ref p2]) 4 rfl) ?_
  refine ic (t_gI rfl (sfS (st_isL_n g2).2.2 rfl)) ?_
  refine ip (i_cW rfl rfl rfl (clL g2) (fun q => hc_Le_span (d := d) (K1 := K1) g2 q)) ?_
  refine i_an (ex_a) (fun h1 => ?_)
  refine ic (ex_q) ?_
  refine ic (t_p (pc' := 18) (ls' := [some (.ref 12), some (.ref p1), some (.ref p2), some (.int p3), some (.ref (p2 + 1)), none, none, none]) (st' := [.ref (p2 + 1)]) 1 rfl) ?_
  refine ic (t_gI rfl (sfS (st_isL_n g2).2.2 rfl)) ?_
  refine ic (t_p (pc' := 23) (ls' := [some (.ref 12), some (.ref p1), some (.ref p2), some (.int p3), some (.ref (p2 + 1)), none, none, none]) (st' := [.ref (p2 + 1), .int (K1 (p2 + 1) 8)]) 1 rfl) ?_
  refine ic (t_gI rfl (sfS (st_isL_n g2).2.2 rfl)) ?_
  refine ip (i_cQ rfl rfl rfl (fun q => hc_D_listWords hX (d := d + 1)  q)) ?_
  refine i_an (ex_a) (fun h2 => ?_)
  refine ic (ex_q) ?_
  refine ic (t_p (pc' := 34) (ls' := [some (.ref 12), some (.ref p1), some (.ref p2), some (.int p3), some (.ref (p2 + 1)), some (.int (lwd (K1 (p2 + 1) 8) (K1 (p2 + 1) 7))), none, none]) (st' := [.int (lwd (K1 (p2 + 1) 8) (K1 (p2 + 1) 7)), .ref 12]) 3 rfl) ?_
  refine ip (i_cW rfl rfl rfl rfl (fun q => hc_Ca_claim (d := d) (K3 := K3)  q)) ?_
  refine i_an (ex_a) (fun h3 => ?_)
  refine i_cg (ex_i) ?_ ?_
  · exact ic (ex_x) id
  · refine ic (ex_q) ?_
    refine ic (t_p (pc' := 40) (ls' := [some (.ref 12), some (.ref p1), some (.ref p2), some (.int p3), some (.ref (p2 + 1)), some (.int (lwd (K1 (p2 + 1) 8) (K1 (p2 + 1) 7))), some (.int (K1 12 1)), none]) (st' := [.ref 12]) 2 rfl) ?_
    refine ic (t_gR rfl rfl) ?_
    refine ic (t_p (pc' := 46) (ls' := [some (.ref 12), some (.ref p1), some (.ref p2), some (.int p3), some (.ref (p2 + 1)), some (.int (lwd (K1 (p2 + 1) 8) (K1 (p2 + 1) 7))), some (.int (K1 12 1)), none]) (st' := [.ref (p2 + 1), .int p3, .ref 13]) 2 rfl) ?_
    refine ic (t_gI rfl (sfS (st_isL_n g2).2.2 rfl)) ?_
    refine ic (t_p (pc' := 51) (ls' := [some (.ref 12), some (.ref p1), some (.ref p2), some (.int p3), some (.ref (p2 + 1)), some (.int (lwd (K1 (p2 + 1) 8) (K1 (p2 + 1) 7))), some (.int (K1 12 1)), none]) (st' := [.ref (p2 + 1), .int (K3 (p2 + 1) 8), .int p3, .ref 13]) 1 rfl) ?_
    refine ic (t_gI rfl (sfS (st_isL_n g2).2.2 rfl)) ?_
    refine ic (t_cQ rfl rfl rfl (fun q => ev_Po_toList (d := d + 1)  q)) ?_
    refine ic (ex_q) ?_
    refine ic (t_p (pc' := 63) (ls' := [some (.ref 12), some (.ref p1), some (.ref p2), some (.int p3), some (.ref (p2 + 1)), some (.int (lwd (K1 (p2 + 1) 8) (K1 (p2 + 1) 7))), some (.int (K1 12 1)), none]) (st' := [.int (((K1 12 1) - p3) - (1 : Int32)), .long (((1 : Int64) ||| (jl (Int32.toInt64 (K3 (p2 + 1) 8)) (32 : Int32))) ||| (jl (Int32.toInt64 (K3 (p2 + 1) 7)) (35 : Int32))), .int p3, .ref 13]) 5 rfl) ?_
    refine ic (t_cQ rfl rfl rfl (fun q => ev_Po_withOffset (d := d + 1)  q)) ?_
    refine ic (ex_q) ?_
    refine i_an (t_sJ rfl rfl) (fun h5 => ?_)
    refine ic (t_p (pc' := 70) (ls' := [some (.ref 12), some (.ref p1), some (.ref p2), some (.int p3), some (.ref (p2 + 1)), some (.int (lwd (K1 (p2 + 1) 8) (K1 (p2 + 1) 7))), some (.int (K1 12 1)), none]) (st' := [.ref (p2 + 1), .ref p1]) 2 rfl) ?_
    refine ic (t_gI rfl (sfS (st_isL_n g2).2.2 rfl)) ?_
    refine ic (t_p (pc' := 74) (ls' := [some (.ref 12), some (.ref p1), some (.ref p2), some (.int p3), some (.ref (p2 + 1)), some (.int (lwd (K1 (p2 + 1) 8) (K1 (p2 + 1) 7))), some (.int (K1 12 1)), none]) (st' := [.ref 12, .int (K3 (p2 + 1) 3), .ref p1]) 1 rfl) ?_
    refine ic (t_gR rfl rfl) ?_
    refine ic (t_p (pc' := 81) (ls' := [some (.ref 12), some (.ref p1), some (.ref p2), some (.int p3), some (.ref (p2 + 1)), some (.int (lwd (K1 (p2 + 1) 8) (K1 (p2 + 1) 7))), some (.int (K1 12 1)), none]) (st' := [.int (lwd (K1 (p2 + 1) 8) (K1 (p2 + 1) 7)), .int (K1 12 1), .ref 13, .int (K3 (p2 + 1) 3), .ref p1]) 2 rfl) ?_
    refine i_an (t_cp rfl g1 rfl rfl) (fun h6 => ?_)
    refine ic (t_p (pc' := 86) (ls' := [some (.ref 12), some (.ref p1), some (.ref p2), some (.int p3), some (.ref (p2 + 1)), some (.int (lwd (K1 (p2 + 1) 8) (K1 (p2 + 1) 7))), some (.int (K1 12 1)), none]) (st' := [.ref (p2 + 1)]) 1 rfl) ?_
    refine ic (t_gI rfl (sfS (st_isL_n g2).2.2 rfl)) ?_
    refine ic (t_p (pc' := 94) (ls' := [some (.ref 12), some (.ref p1), some (.ref p2), some (.int p3), some (.ref (p2 + 1)), some (.int (lwd (K1 (p2 + 1) 8) (K1 (p2 + 1) 7))), some (.int (K1 12 1)), none]) (st' := [.ref (p2 + 1), .retAddr 1, .int (K3 (p2 + 1) 7)]) 2 rfl) ?_
    refine ic (t_gI rfl (sfS (st_isL_n g2).2.2 rfl)) ?_
    refine i_an (t_lX rfl rfl hX) (fun h7 => ?_)
    refine ic (t_p (pc' := 106) (ls' := [some (.ref 12), some (.ref p1), some (.ref p2), some (.int p3), some (.ref (p2 + 1)), some (.int (lwd (K1 (p2 + 1) 8) (K1 (p2 + 1) 7))), some (.int (K1 12 1)), some (.int (irm ((K3 (p2 + 1) 7) * (eb (Int32.toNatClampNeg (K3 (p2 + 1) 8)))) (64 : Int32)))]) (st' := [.int (irm ((K3 (p2 + 1) 7) * (eb (Int32.toNatClampNeg (K3 (p2 + 1) 8)))) (64 : Int32))]) 5 rfl) ?_
    refine i_cg (t_feq rfl) ?_ ?_
    · exact ic (t_rV rfl) id
    · refine ic (t_p (pc' := 110) (ls' := [some (.ref 12), some (.ref p1), some (.ref p2), some (.int p3), some (.ref (p2 + 1)), some (.int (lwd (K1 (p2 + 1) 8) (K1 (p2 + 1) 7))), some (.int (K1 12 1)), some (.int (irm ((K3 (p2 + 1) 7) * (eb (Int32.toNatClampNeg (K3 (p2 + 1) 8)))) (64 : Int32)))]) (st' := [.ref 12]) 1 rfl) ?_
      refine ic (t_gR rfl rfl) ?_
      refine ic (t_p (pc' := 121) (ls' := [some (.ref 12), some (.ref p1), some (.ref p2), some (.int p3), some (.ref (p2 + 1)), some (.int (lwd (K1 (p2 + 1) 8) (K1 (p2 + 1) 7))), some (.int (K1 12 1)), some (.int (irm ((K3 (p2 + 1) 7) * (eb (Int32.toNatClampNeg (K3 (p2 + 1) 8)))) (64 : Int32)))]) (st' := [.int (((K1 12 1) + (lwd (K1 (p2 + 1) 8) (K1 (p2 + 1) 7))) - (1 : Int32)), .ref 13, .int (((K1 12 1) + (lwd (K1 (p2 + 1) 8) (K1 (p2 + 1) 7))) - (1 : Int32)), .ref 13]) 6 rfl) ?_
      refine i_an (t_lJ rfl rfl) (fun h10 => ?_)
      refine ic (t_p (pc' := 124) (ls' := [some (.ref 12), some (.ref p1), some (.ref p2), some (.int p3), some (.ref (p2 + 1)), some (.int (lwd (K1 (p2 + 1) 8) (K1 (p2 + 1) 7))), some (.int (K1 12 1)), some (.int (irm ((K3 (p2 + 1) 7) * (eb (Int32.toNatClampNeg (K3 (p2 + 1) 8)))) (64 : Int32)))]) (st' := [.int (irm ((K3 (p2 + 1) 7) * (eb (Int32.toNatClampNeg (K3 (p2 + 1) 8)))) (64 : Int32)), .long ((st_yr (st_y J 13 (Int32.toNatClampNeg p3) (((((1 : Int64) ||| (jl (Int32.toInt64 (K3 (p2 + 1) 8)) (32 : Int32))) ||| (jl (Int32.toInt64 (K3 (p2 + 1) 7)) (35 : Int32))) &&& (-4294967293 : Int64)) ||| ((jl (Int32.toInt64 (((K1 12 1) - p3) - (1 : Int32))) (2 : Int32)) &&& (4294967292 : Int64)))) 13 (va_cpy ((st_y J 13 (Int32.toNatClampNeg p3) (((((1 : Int64) ||| (jl (Int32.toInt64 (K3 (p2 + 1) 8)) (32 : Int32))) ||| (jl (Int32.toInt64 (K3 (p2 + 1) 7)) (35 : Int32))) &&& (-4294967293 : Int64)) ||| ((jl (Int32.toInt64 (((K1 12 1) - p3) - (1 : Int32))) (2 : Int32)) &&& (4294967292 : Int64)))) p1) ((st_y J 13 (Int32.toNatClampNeg p3) (((((1 : Int64) ||| (jl (Int32.toInt64 (K3 (p2 + 1) 8)) (32 : Int32))) ||| (jl (Int32.toInt64 (K3 (p2 + 1) 7)) (35 : Int32))) &&& (-4294967293 : Int64)) ||| ((jl (Int32.toInt64 (((K1 12 1) - p3) - (1 : Int32))) (2 : Int32)) &&& (4294967292 : Int64)))) 13) (Int32.toNatClampNeg (K3 (p2 + 1) 3)) (Int32.toNatClampNeg (K1 12 1)) (Int32.toNatClampNeg (lwd (K1 (p2 + 1) 8) (K1 (p2 + 1) 7))))) 13 (Int32.toNatClampNeg (((K1 12 1) + (lwd (K1 (p2 + 1) 8) (K1 (p2 + 1) 7))) - (1 : Int32)))), .int (((K1 12 1) + (lwd (K1 (p2 + 1) 8) (K1 (p2 + 1) 7))) - (1 : Int32)), .ref 13]) 1 rfl) ?_
      refine ip (i_cQ rfl rfl rfl (fun q => hc_D_ones (d := d + 1)  q)) ?_
      refine ic (ex_q) ?_
      refine ic (t_p (pc' := 128) (ls' := [some (.ref 12), some (.ref p1), some (.ref p2), some (.int p3), some (.ref (p2 + 1)), some (.int (lwd (K1 (p2 + 1) 8) (K1 (p2 + 1) 7))), some (.int (K1 12 1)), some (.int (irm ((K3 (p2 + 1) 7) * (eb (Int32.toNatClampNeg (K3 (p2 + 1) 8)))) (64 : Int32)))]) (st' := [.long (((st_yr (st_y J 13 (Int32.toNatClampNeg p3) (((((1 : Int64) ||| (jl (Int32.toInt64 (K3 (p2 + 1) 8)) (32 : Int32))) ||| (jl (Int32.toInt64 (K3 (p2 + 1) 7)) (35 : Int32))) &&& (-4294967293 : Int64)) ||| ((jl (Int32.toInt64 (((K1 12 1) - p3) - (1 : Int32))) (2 : Int32)) &&& (4294967292 : Int64)))) 13 (va_cpy ((st_y J 13 (Int32.toNatClampNeg p3) (((((1 : Int64) ||| (jl (Int32.toInt64 (K3 (p2 + 1) 8)) (32 : Int32))) ||| (jl (Int32.toInt64 (K3 (p2 + 1) 7)) (35 : Int32))) &&& (-4294967293 : Int64)) ||| ((jl (Int32.toInt64 (((K1 12 1) - p3) - (1 : Int32))) (2 : Int32)) &&& (4294967292 : Int64)))) p1) ((st_y J 13 (Int32.toNatClampNeg p3) (((((1 : Int64) ||| (jl (Int32.toInt64 (K3 (p2 + 1) 8)) (32 : Int32))) ||| (jl (Int32.toInt64 (K3 (p2 + 1) 7)) (35 : Int32))) &&& (-4294967293 : Int64)) ||| ((jl (Int32.toInt64 (((K1 12 1) - p3) - (1 : Int32))) (2 : Int32)) &&& (4294967292 : Int64)))) 13) (Int32.toNatClampNeg (K3 (p2 + 1) 3)) (Int32.toNatClampNeg (K1 12 1)) (Int32.toNatClampNeg (lwd (K1 (p2 + 1) 8) (K1 (p2 + 1) 7))))) 13 (Int32.toNatClampNeg (((K1 12 1) + (lwd (K1 (p2 + 1) 8) (K1 (p2 + 1) 7))) - (1 : Int32)))) &&& (on_ (irm ((K3 (p2 + 1) 7) * (eb (Int32.toNatClampNeg (K3 (p2 + 1) 8)))) (64 : Int32)))), .int (((K1 12 1) + (lwd (K1 (p2 + 1) 8) (K1 (p2 + 1) 7))) - (1 : Int32)), .ref 13]) 1 rfl) ?_
      refine ic ((t_sJ rfl rfl).trans (and_t h10)) ?_
      exact ic (t_rV rfl) id
