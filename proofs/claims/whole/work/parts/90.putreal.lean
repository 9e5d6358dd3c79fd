set_option maxRecDepth 20000 in
theorem iv_D_putReal {X : pm_X} {d : Nat} {I : st_I} {J : st_J} {p1 : Int32} {p2 : Int32} {p3 : Int32} {p4 : UInt64} (r : pm_R) : (if (¬ ((¬ (p1 < (0 : Int32))) ∧ (p1 < (16 : Int32)))) ∨ ((p3 < (0 : Int32)) ∨ (¬ ((0 : Int32) < (I 1 3)))) then r = (.inr 1, st_h I J, 1, 6) else ((pm_in p1 16) = true ∧ (if (I (150 + (Int32.toNatClampNeg p1)) 0) = (1 : Int32) then (if (((I (150 + (Int32.toNatClampNeg p1)) 0) = (2 : Int32)) ∧ (p3 < (I (150 + (Int32.toNatClampNeg p1)) 7))) ∨ ((¬ ((I (150 + (Int32.toNatClampNeg p1)) 0) = (2 : Int32))) ∧ (¬ ((Int32.toInt64 (I (150 + (Int32.toNatClampNeg p1)) 5)) < (((Int32.toInt64 p3) + (1 : Int64)) * (Int32.toInt64 (if p2 = (0 : Int32) then (32 : Int32) else (64 : Int32))))))) then ((rlk p4) ∧ ((pm_in (I (150 + (Int32.toNatClampNeg p1)) 2) 4) = true ∧ ((pm_in (((((I (150 + (Int32.toNatClampNeg p1)) 3) * (64 : Int32)) + (I (150 + (Int32.toNatClampNeg p1)) 4)) + (p3 * (if p2 = (0 : Int32) then (32 : Int32) else (64 : Int32)))) / (64 : Int32)) 64) = true ∧ r = (.inl none, st_h I (st_y J (3 + (Int32.toNatClampNeg (I (150 + (Int32.toNatClampNeg p1)) 2))) (Int32.toNatClampNeg (((((I (150 + (Int32.toNatClampNeg p1)) 3) * (64 : Int32)) + (I (150 + (Int32.toNatClampNeg p1)) 4)) + (p3 * (if p2 = (0 : Int32) then (32 : Int32) else (64 : Int32)))) / (64 : Int32))) (((J (3 + (Int32.toNatClampNeg (I (150 + (Int32.toNatClampNeg p1)) 2))) (Int32.toNatClampNeg (((((I (150 + (Int32.toNatClampNeg p1)) 3) * (64 : Int32)) + (I (150 + (Int32.toNatClampNeg p1)) 4)) + (p3 * (if p2 = (0 : Int32) then (32 : Int32) else (64 : Int32)))) / (64 : Int32)))) &&& ((jl (if (if p2 = (0 : Int32) then (32 : Int32) else (64 : Int32)) < (64 : Int32) then ((jl (1 : Int64) (if p2 = (0 : Int32) then (32 : Int32) else (64 : Int32))) - (1 : Int64)) else (-1 : Int64)) (irm ((((I (150 + (Int32.toNatClampNeg p1)) 3) * (64 : Int32)) + (I (150 + (Int32.toNatClampNeg p1)) 4)) + (p3 * (if p2 = (0 : Int32) then (32 : Int32) else (64 : Int32)))) (64 : Int32))) ^^^ (-1 : Int64))) ||| ((jl (rlv p4 p2) (irm ((((I (150 + (Int32.toNatClampNeg p1)) 3) * (64 : Int32)) + (I (150 + (Int32.toNatClampNeg p1)) 4)) + (p3 * (if p2 = (0 : Int32) then (32 : Int32) else (64 : Int32)))) (64 : Int32))) &&& (jl (if (if p2 = (0 : Int32) then (32 : Int32) else (64 : Int32)) < (64 : Int32) then ((jl (1 : Int64) (if p2 = (0 : Int32) then (32 : Int32) else (64 : Int32))) - (1 : Int64)) else (-1 : Int64)) (irm ((((I (150 + (Int32.toNatClampNeg p1)) 3) * (64 : Int32)) + (I (150 + (Int32.toNatClampNeg p1)) 4)) + (p3 * (if p2 = (0 : Int32) then (32 : Int32) else (64 : Int32)))) (64 : Int32)))))), 0, 0)))) else r = (.inr 1, st_h I J, 1, 6)) else r = (.inr 4, st_h I J, 1, 6)))) → Ex X (d + 5) 119 [.ref 0, .int p1, .int p2, .int p3, .double p4] (st_h I J) r := by
  refine ic (Ex_iff (M := (kc_D_putReal, [])) (n := 8) rfl rfl) ?_
  refine ic (t_p (pc' := 1) (ls' := [some (.ref 0), some (.int p1), some (.int p2), some (.int p3), some (.double p4), none, none, none]) (st' := [.int p2]) 1 rfl) ?_
  refine ic (mgI (t_feq rfl) rfl (t_p (pc' := 11) (ls' := [some (.ref 0), some (.int p1), some (.int p2), some (.int p3), some (.double p4), none, none, none]) (st' := [.int (32 : Int32)]) 1 rfl) (t_p (pc' := 11) (ls' := [some (.ref 0), some (.int p1), some (.int p2), some (.int p3), some (.double p4), none, none, none]) (st' := [.int (64 : Int32)]) 2 rfl)) ?_
  refine ic (t_p (pc' := 14) (ls' := [some (.ref 0), some (.int p1), some (.int p2), some (.int p3), some (.double p4), none, some (.int (if p2 = (0 : Int32) then (32 : Int32) else (64 : Int32))), none]) (st' := [.int p1]) 2 rfl) ?_
  refine ic (t_cQ rfl rfl rfl (fun q => ev_D_isCursor (d := d + 3)  q)) ?_
  refine ic (ex_q) ?_
  refine ic (mgI (t_beq rfl) bj_b1 ((t_p (pc' := 21) (ls' := [some (.ref 0), some (.int p1), some (.int p2), some (.int p3), some (.double p4), none, some (.int (if p2 = (0 : Int32) then (32 : Int32) else (64 : Int32))), none]) (st' := [.int p3]) 1 rfl).trans (mgI (t_flt rfl) bj_1b (t_p (pc' := 39) (ls' := [some (.ref 0), some (.int p1), some (.int p2), some (.int p3), some (.double p4), none, some (.int (if p2 = (0 : Int32) then (32 : Int32) else (64 : Int32))), none]) (st' := [.int (1 : Int32)]) 2 rfl) ((t_p (pc' := 25) (ls' := [some (.ref 0), some (.int p1), some (.int p2), some (.int p3), some (.double p4), none, some (.int (if p2 = (0 : Int32) then (32 : Int32) else (64 : Int32))), none]) (st' := [.ref 0]) 1 rfl).trans ((t_gR rfl rfl).trans ((t_cW rfl rfl rfl rfl (fun q => ev_Me_isOwn (d := d + 3)  q)).trans ((ex_q).trans (mgI (t_bne rfl) bj_01 (t_p (pc' := 39) (ls' := [some (.ref 0), some (.int p1), some (.int p2), some (.int p3), some (.double p4), none, some (.int (if p2 = (0 : Int32) then (32 : Int32) else (64 : Int32))), none]) (st' := [.int (0 : Int32)]) 1 rfl) (t_p (pc' := 39) (ls' := [some (.ref 0), some (.int p1), some (.int p2), some (.int p3), some (.double p4), none, some (.int (if p2 = (0 : Int32) then (32 : Int32) else (64 : Int32))), none]) (st' := [.int (1 : Int32)]) 2 rfl)))))))) (t_p (pc' := 39) (ls' := [some (.ref 0), some (.int p1), some (.int p2), some (.int p3), some (.double p4), none, some (.int (if p2 = (0 : Int32) then (32 : Int32) else (64 : Int32))), none]) (st' := [.int (1 : Int32)]) 2 rfl)) ?_
  refine ic (t_cQ rfl rfl rfl (fun q => ev_D_badIf (d := d + 3)  q)) ?_
  refine i_cg (cgB (ex_i)) ?_ ?_
  · exact ic (ex_x) id
  · refine ic (ex_q) ?_
    refine ic (t_p (pc' := 43) (ls' := [some (.ref 0), some (.int p1), some (.int p2), some (.int p3), some (.double p4), none, some (.int (if p2 = (0 : Int32) then (32 : Int32) else (64 : Int32))), none]) (st' := [.ref 0]) 1 rfl) ?_
    refine ic (t_gR rfl rfl) ?_
    refine ic (t_p (pc' := 47) (ls' := [some (.ref 0), some (.int p1), some (.int p2), some (.int p3), some (.double p4), none, some (.int (if p2 = (0 : Int32) then (32 : Int32) else (64 : Int32))), none]) (st' := [.int p1, .ref 145]) 1 rfl) ?_
    refine i_an (t_lR1 rfl rfl) (fun h2 => ?_)
    refine ic (t_p (pc' := 52) (ls' := [some (.ref 0), some (.int p1), some (.int p2), some (.int p3), some (.double p4), none, some (.int (if p2 = (0 : Int32) then (32 : Int32) else (64 : Int32))), some (.ref (150 + (Int32.toNatClampNeg p1)))]) (st' := [.ref (150 + (Int32.toNatClampNeg p1))]) 2 rfl) ?_
    refine ic (t_gI rfl (sfS (siS1 h2) rfl)) ?_
    refine ic (t_p (pc' := 56) (ls' := [some (.ref 0), some (.int p1), some (.int p2), some (.int p3), some (.double p4), none, some (.int (if p2 = (0 : Int32) then (32 : Int32) else (64 : Int32))), some (.ref (150 + (Int32.toNatClampNeg p1)))]) (st' := [.int (1 : Int32), .int (I (150 + (Int32.toNatClampNeg p1)) 0)]) 1 rfl) ?_
    refine ic (mgI (t_ieq rfl) bj_01 (t_p (pc' := 64) (ls' := [some (.ref 0), some (.int p1), some (.int p2), some (.int p3), some (.double p4), none, some (.int (if p2 = (0 : Int32) then (32 : Int32) else (64 : Int32))), some (.ref (150 + (Int32.toNatClampNeg p1)))]) (st' := [.int (0 : Int32)]) 1 rfl) (t_p (pc' := 64) (ls' := [some (.ref 0), some (.int p1), some (.int p2), some (.int p3), some (.double p4), none, some (.int (if p2 = (0 : Int32) then (32 : Int32) else (64 : Int32))), some (.ref (150 + (Int32.toNatClampNeg p1)))]) (st' := [.int (1 : Int32)]) 2 rfl)) ?_
    refine ic (t_cQ rfl rfl rfl (fun q => ev_D_kindIf (d := d + 3)  q)) ?_
    refine i_cg (cgBN (ex_i)) ?_ ?_
    · refine ic (ex_q) ?_
      refine ic (t_p (pc' := 72) (ls' := [some (.ref 0), some (.int p1), some (.int p2), some (.int p3), some (.double p4), none, some (.int (if p2 = (0 : Int32) then (32 : Int32) else (64 : Int32))), some (.ref (150 + (Int32.toNatClampNeg p1)))]) (st' := [.int p3, .int (if p2 = (0 : Int32) then (32 : Int32) else (64 : Int32)), .ref (150 + (Int32.toNatClampNeg p1))]) 3 rfl) ?_
      refine ic (t_cW rfl rfl rfl (clS (siS1 h2)) (fun q => ev_Sp_hasPiece (d := d + 3) (siS1 h2) q)) ?_
      refine ic (ex_q) ?_
      refine ic (mgI (t_bne rfl) bj_01 (t_p (pc' := 83) (ls' := [some (.ref 0), some (.int p1), some (.int p2), some (.int p3), some (.double p4), none, some (.int (if p2 = (0 : Int32) then (32 : Int32) else (64 : Int32))), some (.ref (150 + (Int32.toNatClampNeg p1)))]) (st' := [.int (0 : Int32)]) 1 rfl) (t_p (pc' := 83) (ls' := [some (.ref 0), some (.int p1), some (.int p2), some (.int p3), some (.double p4), none, some (.int (if p2 = (0 : Int32) then (32 : Int32) else (64 : Int32))), some (.ref (150 + (Int32.toNatClampNeg p1)))]) (st' := [.int (1 : Int32)]) 2 rfl)) ?_
      refine ic (t_cQ rfl rfl rfl (fun q => ev_D_badIf (d := d + 3)  q)) ?_
      refine i_cg (cgBN (ex_i)) ?_ ?_
      · refine ic (ex_q) ?_
        refine ic (t_p (pc' := 89) (ls' := [some (.ref 0), some (.int p1), some (.int p2), some (.int p3), some (.double p4), none, some (.int (if p2 = (0 : Int32) then (32 : Int32) else (64 : Int32))), some (.ref (150 + (Int32.toNatClampNeg p1)))]) (st' := [.int p2, .double p4]) 2 rfl) ?_
        refine ip (i_cQ rfl rfl rfl (fun q => hc_Ra_canHold (d := d + 3)  q)) ?_
        refine i_an (ex_a) (fun h5 => ?_)
        refine ic (ex_q) ?_
        refine i_cgF (t_fne rfl) (show ¬ ((1 : Int32) = (0 : Int32)) by decide) ?_
        refine ic (t_p (pc' := 100) (ls' := [some (.ref 0), some (.int p1), some (.int p2), some (.int p3), some (.double p4), none, some (.int (if p2 = (0 : Int32) then (32 : Int32) else (64 : Int32))), some (.ref (150 + (Int32.toNatClampNeg p1)))]) (st' := [.int (0 : Int32)]) 1 rfl) ?_
        refine ic (t_cQ rfl rfl rfl (fun q => ev_D_notFiniteIf (d := d + 3)  q)) ?_
        refine i_cgT (ex_i) (show (0 : Int32) = (0 : Int32) by decide) ?_
        refine ic (ex_q) ?_
        refine ic (t_p (pc' := 104) (ls' := [some (.ref 0), some (.int p1), some (.int p2), some (.int p3), some (.double p4), none, some (.int (if p2 = (0 : Int32) then (32 : Int32) else (64 : Int32))), some (.ref (150 + (Int32.toNatClampNeg p1)))]) (st' := [.ref 0]) 1 rfl) ?_
        refine ic (t_gR rfl rfl) ?_
        refine ic (t_p (pc' := 109) (ls' := [some (.ref 0), some (.int p1), some (.int p2), some (.int p3), some (.double p4), none, some (.int (if p2 = (0 : Int32) then (32 : Int32) else (64 : Int32))), some (.ref (150 + (Int32.toNatClampNeg p1)))]) (st' := [.ref (150 + (Int32.toNatClampNeg p1)), .ref 1]) 1 rfl) ?_
        refine ic (t_gI rfl (sfS (siS1 h2) rfl)) ?_
        refine ic (t_p (pc' := 117) (ls' := [some (.ref 0), some (.int p1), some (.int p2), some (.int p3), some (.double p4), none, some (.int (if p2 = (0 : Int32) then (32 : Int32) else (64 : Int32))), some (.ref (150 + (Int32.toNatClampNeg p1)))]) (st' := [.int p3, .int (if p2 = (0 : Int32) then (32 : Int32) else (64 : Int32)), .ref (150 + (Int32.toNatClampNeg p1)), .int (I (150 + (Int32.toNatClampNeg p1)) 2), .ref 1]) 3 rfl) ?_
        refine ic (t_cW rfl rfl rfl (clS (siS1 h2)) (fun q => ev_Sp_pieceBit (d := d + 3) (siS1 h2) q)) ?_
        refine ic (ex_q) ?_
        refine ic (t_p (pc' := 125) (ls' := [some (.ref 0), some (.int p1), some (.int p2), some (.int p3), some (.double p4), none, some (.int (if p2 = (0 : Int32) then (32 : Int32) else (64 : Int32))), some (.ref (150 + (Int32.toNatClampNeg p1)))]) (st' := [.int p2, .double p4, .int (if p2 = (0 : Int32) then (32 : Int32) else (64 : Int32)), .int ((((I (150 + (Int32.toNatClampNeg p1)) 3) * (64 : Int32)) + (I (150 + (Int32.toNatClampNeg p1)) 4)) + (p3 * (if p2 = (0 : Int32) then (32 : Int32) else (64 : Int32)))), .int (I (150 + (Int32.toNatClampNeg p1)) 2), .ref 1]) 3 rfl) ?_
        refine ip (i_cQ rfl rfl rfl (fun q => hc_Ra_toBits (d := d)  q)) ?_
        refine ic (ex_a.trans (and_t h5)) ?_
        refine ic (ex_q) ?_
        refine ic (t_cW rfl rfl rfl rfl (fun q => ev_Me_setPiece (d := d + 2)  q)) ?_
        refine i_an (ex_a) (fun h6 => ?_)
        refine i_an (ex_a) (fun h7 => ?_)
        refine ic (ex_q) ?_
        exact ic (t_rV rfl) id
      · exact ic (ex_x) id
    · exact ic (ex_x) id
set_option maxRecDepth 20000 in
theorem iv_M_putReal {X : pm_X} {d : Nat} {I : st_I} {J : st_J} {p1 : Int32} {p2 : Int32} {p3 : Int32} {p4 : UInt64} (r : pm_R) : (if (¬ ((¬ ((Int32.toInt64 p1) < (0 : Int64))) ∧ (¬ ((15 : Int64) < (Int32.toInt64 p1))))) ∨ ((p3 < (0 : Int32)) ∨ ((I 166 11) = (0 : Int32))) then r = (.inl none, st_h (st_w (st_w I 166 10 (0 : Int32)) 166 10 (1 : Int32)) J, 0, 0) else ((pm_in p1 17) = true ∧ (if (I 173 (Int32.toNatClampNeg p1)) = (1 : Int32) then (if ((I 173 (Int32.toNatClampNeg p1)) = (1 : Int32)) ∧ (¬ ((Int32.toInt64 (I 177 (Int32.toNatClampNeg p1))) < (((Int32.toInt64 p3) + (1 : Int64)) * (Int32.toInt64 (if p2 = (0 : Int32) then (32 : Int32) else (64 : Int32)))))) then (if p2 = (0 : Int32) then ((pm_n32 (FP.d2f p4)) = true ∧ ((pm_n64 (FP.f2d (FP.d2f p4))) = true ∧ ((rmk (FP.f2d (FP.d2f p4)) (23 : Int32) (8 : Int32)) ∧ ((pm_in (((64 : Int32) * (I 175 (Int32.toNatClampNeg p1))) + (((I 176 (Int32.toNatClampNeg p1)) + (p3 * (if p2 = (0 : Int32) then (32 : Int32) else (64 : Int32)))) / (64 : Int32))) 256) = true ∧ r = (.inl none, st_h (st_w I 166 10 (0 : Int32)) (st_y J 167 (Int32.toNatClampNeg (((64 : Int32) * (I 175 (Int32.toNatClampNeg p1))) + (((I 176 (Int32.toNatClampNeg p1)) + (p3 * (if p2 = (0 : Int32) then (32 : Int32) else (64 : Int32)))) / (64 : Int32)))) (((J 167 (Int32.toNatClampNeg (((64 : Int32) * (I 175 (Int32.toNatClampNeg p1))) + (((I 176 (Int32.toNatClampNeg p1)) + (p3 * (if p2 = (0 : Int32) then (32 : Int32) else (64 : Int32)))) / (64 : Int32))))) &&& ((jl (if (if p2 = (0 : Int32) then (32 : Int32) else (64 : Int32)) = (64 : Int32) then (-1 : Int64) else ((jl (1 : Int64) (if p2 = (0 : Int32) then (32 : Int32) else (64 : Int32))) - (1 : Int64))) (irm ((I 176 (Int32.toNatClampNeg p1)) + (p3 * (if p2 = (0 : Int32) then (32 : Int32) else (64 : Int32)))) (64 : Int32))) ^^^ (-1 : Int64))) ||| (jl ((rmv (FP.f2d (FP.d2f p4)) (23 : Int32) (8 : Int32)) &&& (if (if p2 = (0 : Int32) then (32 : Int32) else (64 : Int32)) = (64 : Int32) then (-1 : Int64) else ((jl (1 : Int64) (if p2 = (0 : Int32) then (32 : Int32) else (64 : Int32))) - (1 : Int64)))) (irm ((I 176 (Int32.toNatClampNeg p1)) + (p3 * (if p2 = (0 : Int32) then (32 : Int32) else (64 : Int32)))) (64 : Int32))))), 0, 0))))) else ((rmk p4 (52 : Int32) (11 : Int32)) ∧ ((pm_in (((64 : Int32) * (I 175 (Int32.toNatClampNeg p1))) + (((I 176 (Int32.toNatClampNeg p1)) + (p3 * (if p2 = (0 : Int32) then (32 : Int32) else (64 : Int32)))) / (64 : Int32))) 256) = true ∧ r = (.inl none, st_h (st_w I 166 10 (0 : Int32)) (st_y J 167 (Int32.toNatClampNeg (((64 : Int32) * (I 175 (Int32.toNatClampNeg p1))) + (((I 176 (Int32.toNatClampNeg p1)) + (p3 * (if p2 = (0 : Int32) then (32 : Int32) else (64 : Int32)))) / (64 : Int32)))) (((J 167 (Int32.toNatClampNeg (((64 : Int32) * (I 175 (Int32.toNatClampNeg p1))) + (((I 176 (Int32.toNatClampNeg p1)) + (p3 * (if p2 = (0 : Int32) then (32 : Int32) else (64 : Int32)))) / (64 : Int32))))) &&& ((jl (if (if p2 = (0 : Int32) then (32 : Int32) else (64 : Int32)) = (64 : Int32) then (-1 : Int64) else ((jl (1 : Int64) (if p2 = (0 : Int32) then (32 : Int32) else (64 : Int32))) - (1 : Int64))) (irm ((I 176 (Int32.toNatClampNeg p1)) + (p3 * (if p2 = (0 : Int32) then (32 : Int32) else (64 : Int32)))) (64 : Int32))) ^^^ (-1 : Int64))) ||| (jl ((rmv p4 (52 : Int32) (11 : Int32)) &&& (if (if p2 = (0 : Int32) then (32 : Int32) else (64 : Int32)) = (64 : Int32) then (-1 : Int64) else ((jl (1 : Int64) (if p2 = (0 : Int32) then (32 : Int32) else (64 : Int32))) - (1 : Int64)))) (irm ((I 176 (Int32.toNatClampNeg p1)) + (p3 * (if p2 = (0 : Int32) then (32 : Int32) else (64 : Int32)))) (64 : Int32))))), 0, 0)))) else r = (.inl none, st_h (st_w (st_w I 166 10 (0 : Int32)) 166 10 (1 : Int32)) J, 0, 0)) else r = (.inl none, st_h (st_w (st_w I 166 10 (0 : Int32)) 166 10 (2 : Int32)) J, 0, 0)))) → Ex X (d + 3) 218 [.ref 166, .int p1, .int p2, .int p3, .double p4] (st_h I J) r := by
  refine ic (Ex_iff (M := (kc_M_putReal, [])) (n := 7) rfl rfl) ?_
  refine ic (t_p (pc' := 2) (ls' := [some (.ref 166), some (.int p1), some (.int p2), some (.int p3), some (.double p4), none, none]) (st' := [.int (0 : Int32), .ref 166]) 2 rfl) ?_
  refine ic (t_pI rfl rfl) ?_
  refine ic (t_p (pc' := 6) (ls' := [some (.ref 166), some (.int p1), some (.int p2), some (.int p3), some (.double p4), none, none]) (st' := [.int p2]) 1 rfl) ?_
  refine ic (mgI (t_feq rfl) rfl (t_p (pc' := 16) (ls' := [some (.ref 166), some (.int p1), some (.int p2), some (.int p3), some (.double p4), none, none]) (st' := [.int (32 : Int32)]) 1 rfl) (t_p (pc' := 16) (ls' := [some (.ref 166), some (.int p1), some (.int p2), some (.int p3), some (.double p4), none, none]) (st' := [.int (64 : Int32)]) 2 rfl)) ?_
  refine ic (t_p (pc' := 21) (ls' := [some (.ref 166), some (.int p1), some (.int p2), some (.int p3), some (.double p4), none, some (.int (if p2 = (0 : Int32) then (32 : Int32) else (64 : Int32)))]) (st' := [.int p1, .ref 166, .ref 166]) 4 rfl) ?_
  refine ic (t_cW rfl rfl rfl rfl (fun q => ev_M_isCursor (d := d)  q)) ?_
  refine ic (ex_q) ?_
  refine ic (mgI (t_beq rfl) bj_b1 ((t_p (pc' := 28) (ls' := [some (.ref 166), some (.int p1), some (.int p2), some (.int p3), some (.double p4), none, some (.int (if p2 = (0 : Int32) then (32 : Int32) else (64 : Int32)))]) (st' := [.int p3, .ref 166]) 1 rfl).trans (mgI (t_flt rfl) bj_1b (t_p (pc' := 43) (ls' := [some (.ref 166), some (.int p1), some (.int p2), some (.int p3), some (.double p4), none, some (.int (if p2 = (0 : Int32) then (32 : Int32) else (64 : Int32)))]) (st' := [.int (1 : Int32), .ref 166]) 2 rfl) ((t_p (pc' := 32) (ls' := [some (.ref 166), some (.int p1), some (.int p2), some (.int p3), some (.double p4), none, some (.int (if p2 = (0 : Int32) then (32 : Int32) else (64 : Int32)))]) (st' := [.ref 166, .ref 166]) 1 rfl).trans ((t_gI rfl rfl).trans (mgI (t_fne rfl) bj_10 (t_p (pc' := 43) (ls' := [some (.ref 166), some (.int p1), some (.int p2), some (.int p3), some (.double p4), none, some (.int (if p2 = (0 : Int32) then (32 : Int32) else (64 : Int32)))]) (st' := [.int (1 : Int32), .ref 166]) 2 rfl) (t_p (pc' := 43) (ls' := [some (.ref 166), some (.int p1), some (.int p2), some (.int p3), some (.double p4), none, some (.int (if p2 = (0 : Int32) then (32 : Int32) else (64 : Int32)))]) (st' := [.int (0 : Int32), .ref 166]) 1 rfl)))))) (t_p (pc' := 43) (ls' := [some (.ref 166), some (.int p1), some (.int p2), some (.int p3), some (.double p4), none, some (.int (if p2 = (0 : Int32) then (32 : Int32) else (64 : Int32)))]) (st' := [.int (1 : Int32), .ref 166]) 2 rfl)) ?_
  refine ic (t_p (pc' := 44) (ls' := [some (.ref 166), some (.int p1), some (.int p2), some (.int p3), some (.double p4), none, some (.int (if p2 = (0 : Int32) then (32 : Int32) else (64 : Int32)))]) (st' := [.int (1 : Int32), .int (bz ((¬ ((¬ ((Int32.toInt64 p1) < (0 : Int64))) ∧ (¬ ((15 : Int64) < (Int32.toInt64 p1))))) ∨ ((p3 < (0 : Int32)) ∨ ((I 166 11) = (0 : Int32))))), .ref 166]) 1 rfl) ?_
  refine ic (t_cW rfl rfl rfl rfl (fun q => ev_M_fails (d := d + 1)  q)) ?_
  refine i_cg (cgB (ex_i)) ?_ ?_
  · refine i_cgT (ex_i) (show (0 : Int32) = (0 : Int32) by decide) ?_
    refine ic (ex_q) ?_
    refine i_cgT (t_bne rfl) (show ¬ ((1 : Int32) = (0 : Int32)) by decide) ?_
    exact ic (t_rV rfl) id
  · refine ic (ex_q) ?_
    refine i_cgF (t_bne rfl) (fun z => z (show (0 : Int32) = (0 : Int32) by decide)) ?_
    refine ic (t_p (pc' := 52) (ls' := [some (.ref 166), some (.int p1), some (.int p2), some (.int p3), some (.double p4), none, some (.int (if p2 = (0 : Int32) then (32 : Int32) else (64 : Int32)))]) (st' := [.ref 166, .ref 166]) 2 rfl) ?_
    refine ic (t_gR rfl rfl) ?_
    refine ic (t_p (pc' := 56) (ls' := [some (.ref 166), some (.int p1), some (.int p2), some (.int p3), some (.double p4), none, some (.int (if p2 = (0 : Int32) then (32 : Int32) else (64 : Int32)))]) (st' := [.int p1, .ref 173, .ref 166]) 1 rfl) ?_
    refine i_an (t_lI rfl rfl) (fun h2 => ?_)
    refine ic (t_p (pc' := 58) (ls' := [some (.ref 166), some (.int p1), some (.int p2), some (.int p3), some (.double p4), none, some (.int (if p2 = (0 : Int32) then (32 : Int32) else (64 : Int32)))]) (st' := [.int (1 : Int32), .int (I 173 (Int32.toNatClampNeg p1)), .ref 166]) 1 rfl) ?_
    refine ic (mgI (t_ieq rfl) bj_01 (t_p (pc' := 66) (ls' := [some (.ref 166), some (.int p1), some (.int p2), some (.int p3), some (.double p4), none, some (.int (if p2 = (0 : Int32) then (32 : Int32) else (64 : Int32)))]) (st' := [.int (0 : Int32), .ref 166]) 1 rfl) (t_p (pc' := 66) (ls' := [some (.ref 166), some (.int p1), some (.int p2), some (.int p3), some (.double p4), none, some (.int (if p2 = (0 : Int32) then (32 : Int32) else (64 : Int32)))]) (st' := [.int (1 : Int32), .ref 166]) 2 rfl)) ?_
    refine ic (t_p (pc' := 67) (ls' := [some (.ref 166), some (.int p1), some (.int p2), some (.int p3), some (.double p4), none, some (.int (if p2 = (0 : Int32) then (32 : Int32) else (64 : Int32)))]) (st' := [.int (2 : Int32), .int (bz (¬ ((I 173 (Int32.toNatClampNeg p1)) = (1 : Int32)))), .ref 166]) 1 rfl) ?_
    refine ic (t_cW rfl rfl rfl rfl (fun q => ev_M_fails (d := d + 1)  q)) ?_
    refine i_cg (cgBN (ex_i)) ?_ ?_
    · refine ic (ex_q) ?_
      refine i_cgF (t_bne rfl) (fun z => z (show (0 : Int32) = (0 : Int32) by decide)) ?_
      refine ic (t_p (pc' := 79) (ls' := [some (.ref 166), some (.int p1), some (.int p2), some (.int p3), some (.double p4), none, some (.int (if p2 = (0 : Int32) then (32 : Int32) else (64 : Int32)))]) (st' := [.int p3, .int (if p2 = (0 : Int32) then (32 : Int32) else (64 : Int32)), .int p1, .ref 166, .ref 166]) 5 rfl) ?_
      refine ic (t_cW rfl rfl rfl rfl (fun q => ev_M_hasField (d := d + 1)  q)) ?_
      refine ic (ex_a.trans (and_t h2)) ?_
      refine ic (ex_q) ?_
      refine ic (mgI (t_bne rfl) bj_01 (t_p (pc' := 90) (ls' := [some (.ref 166), some (.int p1), some (.int p2), some (.int p3), some (.double p4), none, some (.int (if p2 = (0 : Int32) then (32 : Int32) else (64 : Int32)))]) (st' := [.int (0 : Int32), .ref 166]) 1 rfl) (t_p (pc' := 90) (ls' := [some (.ref 166), some (.int p1), some (.int p2), some (.int p3), some (.double p4), none, some (.int (if p2 = (0 : Int32) then (32 : Int32) else (64 : Int32)))]) (st' := [.int (1 : Int32), .ref 166]) 2 rfl)) ?_
      refine ic (t_p (pc' := 91) (ls' := [some (.ref 166), some (.int p1), some (.int p2), some (.int p3), some (.double p4), none, some (.int (if p2 = (0 : Int32) then (32 : Int32) else (64 : Int32)))]) (st' := [.int (1 : Int32), .int (bz (¬ (((I 173 (Int32.toNatClampNeg p1)) = (1 : Int32)) ∧ (¬ ((Int32.toInt64 (I 177 (Int32.toNatClampNeg p1))) < (((Int32.toInt64 p3) + (1 : Int64)) * (Int32.toInt64 (if p2 = (0 : Int32) then (32 : Int32) else (64 : Int32))))))))), .ref 166]) 1 rfl) ?_
      refine ic (t_cW rfl rfl rfl rfl (fun q => ev_M_fails (d := d + 1)  q)) ?_
      refine i_cg (cgBN (ex_i)) ?_ ?_
      · refine ic (ex_q) ?_
        refine i_cgF (t_beq rfl) (fun z => z (show (0 : Int32) = (0 : Int32) by decide)) ?_
        refine ic (t_p (pc' := 101) (ls' := [some (.ref 166), some (.int p1), some (.int p2), some (.int p3), some (.double p4), none, some (.int (if p2 = (0 : Int32) then (32 : Int32) else (64 : Int32)))]) (st' := [.ref 166, .int p1, .ref 166]) 3 rfl) ?_
        refine ic (t_gR rfl rfl) ?_
        refine ic (t_p (pc' := 105) (ls' := [some (.ref 166), some (.int p1), some (.int p2), some (.int p3), some (.double p4), none, some (.int (if p2 = (0 : Int32) then (32 : Int32) else (64 : Int32)))]) (st' := [.int p1, .ref 176, .int p1, .ref 166]) 1 rfl) ?_
        refine ic ((t_lI rfl rfl).trans (and_t h2)) ?_
        refine ic (t_p (pc' := 114) (ls' := [some (.ref 166), some (.int p1), some (.int p2), some (.int p3), some (.double p4), none, some (.int (if p2 = (0 : Int32) then (32 : Int32) else (64 : Int32)))]) (st' := [.int p2, .int (if p2 = (0 : Int32) then (32 : Int32) else (64 : Int32)), .int ((I 176 (Int32.toNatClampNeg p1)) + (p3 * (if p2 = (0 : Int32) then (32 : Int32) else (64 : Int32)))), .int p1, .ref 166]) 6 rfl) ?_
        refine i_cg (t_feq rfl) ?_ ?_
        · refine ic (t_p (pc' := 131) (ls' := [some (.ref 166), some (.int p1), some (.int p2), some (.int p3), some (.double p4), none, some (.int (if p2 = (0 : Int32) then (32 : Int32) else (64 : Int32)))]) (st' := [.double p4, .int (if p2 = (0 : Int32) then (32 : Int32) else (64 : Int32)), .int ((I 176 (Int32.toNatClampNeg p1)) + (p3 * (if p2 = (0 : Int32) then (32 : Int32) else (64 : Int32)))), .int p1, .ref 166]) 1 rfl) ?_
          refine i_an (t_df rfl) (fun h10 => ?_)
          refine i_an (t_fd rfl) (fun h11 => ?_)
          refine ic (t_p (pc' := 137) (ls' := [some (.ref 166), some (.int p1), some (.int p2), some (.int p3), some (.double p4), none, some (.int (if p2 = (0 : Int32) then (32 : Int32) else (64 : Int32)))]) (st' := [.int (8 : Int32), .int (23 : Int32), .double (FP.f2d (FP.d2f p4)), .int (if p2 = (0 : Int32) then (32 : Int32) else (64 : Int32)), .int ((I 176 (Int32.toNatClampNeg p1)) + (p3 * (if p2 = (0 : Int32) then (32 : Int32) else (64 : Int32)))), .int p1, .ref 166]) 2 rfl) ?_
          refine ip (i_cQ rfl rfl rfl (fun q => hc_M_bitsOfReal (d := d + 1)  q)) ?_
          refine i_an (ex_a) (fun h12 => ?_)
          refine ic (ex_q) ?_
          refine ic (t_cW rfl rfl rfl rfl (fun q => ev_M_store (d := d + 1)  q)) ?_
          refine ic (ex_a.trans (and_t h2)) ?_
          refine i_an (ex_a) (fun h13 => ?_)
          refine ic (ex_q) ?_
          exact ic (t_rV rfl) id
        · refine ic (t_p (pc' := 123) (ls' := [some (.ref 166), some (.int p1), some (.int p2), some (.int p3), some (.double p4), none, some (.int (if p2 = (0 : Int32) then (32 : Int32) else (64 : Int32)))]) (st' := [.int (11 : Int32), .int (52 : Int32), .double p4, .int (if p2 = (0 : Int32) then (32 : Int32) else (64 : Int32)), .int ((I 176 (Int32.toNatClampNeg p1)) + (p3 * (if p2 = (0 : Int32) then (32 : Int32) else (64 : Int32)))), .int p1, .ref 166]) 3 rfl) ?_
          refine ip (i_cQ rfl rfl rfl (fun q => hc_M_bitsOfReal (d := d + 1)  q)) ?_
          refine i_an (ex_a) (fun h14 => ?_)
          refine ic (ex_q) ?_
          refine ic (t_p (pc' := 140) (ls' := [some (.ref 166), some (.int p1), some (.int p2), some (.int p3), some (.double p4), none, some (.int (if p2 = (0 : Int32) then (32 : Int32) else (64 : Int32)))]) (st' := [.long (rmv p4 (52 : Int32) (11 : Int32)), .int (if p2 = (0 : Int32) then (32 : Int32) else (64 : Int32)), .int ((I 176 (Int32.toNatClampNeg p1)) + (p3 * (if p2 = (0 : Int32) then (32 : Int32) else (64 : Int32)))), .int p1, .ref 166]) 1 rfl) ?_
          refine ic (t_cW rfl rfl rfl rfl (fun q => ev_M_store (d := d + 1)  q)) ?_
          refine ic (ex_a.trans (and_t h2)) ?_
          refine i_an (ex_a) (fun h15 => ?_)
          refine ic (ex_q) ?_
          exact ic (t_rV rfl) id
      · refine i_cgT (ex_i) (show (0 : Int32) = (0 : Int32) by decide) ?_
        refine ic (ex_q) ?_
        refine i_cgT (t_beq rfl) (show ¬ ((1 : Int32) = (0 : Int32)) by decide) ?_
        exact ic (t_rV rfl) id
    · refine i_cgT (ex_i) (show (0 : Int32) = (0 : Int32) by decide) ?_
      refine ic (ex_q) ?_
      refine i_cgT (t_bne rfl) (show ¬ ((2 : Int32) = (0 : Int32)) by decide) ?_
      exact ic (t_rV rfl) id
set_option maxRecDepth 20000 in
theorem iv_L_putReal {X : pm_X} {d : Nat} {I : st_I} {J : st_J} {p1 : Int32} {p2 : Int32} {p3 : Int32} {p4 : UInt64} (r : pm_R) : (if (¬ ((¬ (p1 < (0 : Int32))) ∧ (p1 < (16 : Int32)))) ∨ ((p3 < (0 : Int32)) ∨ (¬ ((0 : Int32) < (I 1 3)))) then r = (.inl (some (.int (1 : Int32))), st_h I J, 1, 6) else ((pm_in p1 16) = true ∧ (if (I (150 + (Int32.toNatClampNeg p1)) 0) = (1 : Int32) then (if (((I (150 + (Int32.toNatClampNeg p1)) 0) = (2 : Int32)) ∧ (p3 < (I (150 + (Int32.toNatClampNeg p1)) 7))) ∨ ((¬ ((I (150 + (Int32.toNatClampNeg p1)) 0) = (2 : Int32))) ∧ (¬ ((Int32.toInt64 (I (150 + (Int32.toNatClampNeg p1)) 5)) < (((Int32.toInt64 p3) + (1 : Int64)) * (Int32.toInt64 (if p2 = (0 : Int32) then (32 : Int32) else (64 : Int32))))))) then ((rlk p4) ∧ ((pm_in (I (150 + (Int32.toNatClampNeg p1)) 2) 4) = true ∧ ((pm_in (((((I (150 + (Int32.toNatClampNeg p1)) 3) * (64 : Int32)) + (I (150 + (Int32.toNatClampNeg p1)) 4)) + (p3 * (if p2 = (0 : Int32) then (32 : Int32) else (64 : Int32)))) / (64 : Int32)) 64) = true ∧ r = (.inl (some (.int (0 : Int32))), st_h I (st_y J (3 + (Int32.toNatClampNeg (I (150 + (Int32.toNatClampNeg p1)) 2))) (Int32.toNatClampNeg (((((I (150 + (Int32.toNatClampNeg p1)) 3) * (64 : Int32)) + (I (150 + (Int32.toNatClampNeg p1)) 4)) + (p3 * (if p2 = (0 : Int32) then (32 : Int32) else (64 : Int32)))) / (64 : Int32))) (((J (3 + (Int32.toNatClampNeg (I (150 + (Int32.toNatClampNeg p1)) 2))) (Int32.toNatClampNeg (((((I (150 + (Int32.toNatClampNeg p1)) 3) * (64 : Int32)) + (I (150 + (Int32.toNatClampNeg p1)) 4)) + (p3 * (if p2 = (0 : Int32) then (32 : Int32) else (64 : Int32)))) / (64 : Int32)))) &&& ((jl (if (if p2 = (0 : Int32) then (32 : Int32) else (64 : Int32)) < (64 : Int32) then ((jl (1 : Int64) (if p2 = (0 : Int32) then (32 : Int32) else (64 : Int32))) - (1 : Int64)) else (-1 : Int64)) (irm ((((I (150 + (Int32.toNatClampNeg p1)) 3) * (64 : Int32)) + (I (150 + (Int32.toNatClampNeg p1)) 4)) + (p3 * (if p2 = (0 : Int32) then (32 : Int32) else (64 : Int32)))) (64 : Int32))) ^^^ (-1 : Int64))) ||| ((jl (rlv p4 p2) (irm ((((I (150 + (Int32.toNatClampNeg p1)) 3) * (64 : Int32)) + (I (150 + (Int32.toNatClampNeg p1)) 4)) + (p3 * (if p2 = (0 : Int32) then (32 : Int32) else (64 : Int32)))) (64 : Int32))) &&& (jl (if (if p2 = (0 : Int32) then (32 : Int32) else (64 : Int32)) < (64 : Int32) then ((jl (1 : Int64) (if p2 = (0 : Int32) then (32 : Int32) else (64 : Int32))) - (1 : Int64)) else (-1 : Int64)) (irm ((((I (150 + (Int32.toNatClampNeg p1)) 3) * (64 : Int32)) + (I (150 + (Int32.toNatClampNeg p1)) 4)) + (p3 * (if p2 = (0 : Int32) then (32 : Int32) else (64 : Int32)))) (64 : Int32)))))), 0, 0)))) else r = (.inl (some (.int (1 : Int32))), st_h I J, 1, 6)) else r = (.inl (some (.int (2 : Int32))), st_h I J, 1, 6)))) → Ex X (d + 6) 118 [.ref 0, .int p1, .int p2, .int p3, .double p4] (st_h I J) r := by
  refine ic (Ex_iff (M := (kc_L_putReal, [(0, 9, 14, 1, 6), (0, 9, 18, 4, 6), (0, 9, 22, 5, 6)])) (n := 7) rfl rfl) ?_
  refine ic (t_p (pc' := 6) (ls' := [some (.ref 0), some (.int p1), some (.int p2), some (.int p3), some (.double p4), none, none]) (st' := [.double p4, .int p3, .int p2, .int p1, .ref 0]) 5 rfl) ?_
  refine ip (i_cW rfl rfl rfl rfl (fun q => iv_D_putReal (d := d)  q)) ?_
  refine i_cg (ex_i) ?_ ?_
  · refine ic (ex_h rfl) ?_
    refine ic (t_p (pc' := 15) (ls' := [some (.ref 0), some (.int p1), some (.int p2), some (.int p3), some (.double p4), none, none]) (st' := [.int (1 : Int32)]) 1 rfl) ?_
    exact ic (t_rI rfl) id
  · refine i_an (ex_a) (fun h2 => ?_)
    refine i_cg (ex_i) ?_ ?_
    · refine i_cg (ex_i) ?_ ?_
      · refine i_an (ex_a) (fun h5 => ?_)
        refine i_an (ex_a) (fun h6 => ?_)
        refine i_an (ex_a) (fun h7 => ?_)
        refine ic (ex_q) ?_
        refine ic (t_p (pc' := 25) (ls' := [some (.ref 0), some (.int p1), some (.int p2), some (.int p3), some (.double p4), none, none]) (st' := [.int (0 : Int32)]) 2 rfl) ?_
        exact ic (t_rI rfl) id
      · refine ic (ex_h rfl) ?_
        refine ic (t_p (pc' := 15) (ls' := [some (.ref 0), some (.int p1), some (.int p2), some (.int p3), some (.double p4), none, none]) (st' := [.int (1 : Int32)]) 1 rfl) ?_
        exact ic (t_rI rfl) id
    · refine ic (ex_h rfl) ?_
      refine ic (t_p (pc' := 19) (ls' := [some (.ref 0), some (.int p1), some (.int p2), some (.int p3), some (.double p4), none, none]) (st' := [.int (2 : Int32)]) 1 rfl) ?_
      exact ic (t_rI rfl) id
