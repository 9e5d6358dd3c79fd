theorem ie_Me_renew {X : pm_X} {d : Nat} {I : st_I} {J : st_J} {p1 : Int32} (r : pm_R) : Gx X (d + 1) (kc_Me_renew, []) (2, [some (.ref 1), some (.int p1), some (.int (0 : Int32))], [], st_h I J, 0, 0) r → Ex X (d + 2) 14 [.ref 1, .int p1] (st_h I J) r := by
  refine ic (Ex_iff (M := (kc_Me_renew, [])) (n := 3) rfl rfl) ?_
  exact ic (t_p (pc' := 2) (ls' := [some (.ref 1), some (.int p1), some (.int (0 : Int32))]) (st' := []) 2 rfl) id
theorem ib_Me_renew_2 {X : pm_X} {d : Nat} {I : st_I} {J : st_J} {p1 : Int32} {v2 : Int32} {c k : Nat} (r : pm_R) : (if v2 < (4 : Int32) then ((pm_in v2 4) = true ∧ Gx X (d + 1) (kc_Me_renew, []) (2, [some (.ref 1), some (.int p1), some (.int (v2 + (1 : Int32)))], [], st_h (st_w I 7 (Int32.toNatClampNeg v2) (0 : Int32)) (st_fl J (3 + (Int32.toNatClampNeg v2)) 64 (0 : Int64)), c, k) r) else r = (.inl none, st_h (st_w (st_w I 1 2 p1) 1 3 (0 : Int32)) J, c, k)) → Gx X (d + 1) (kc_Me_renew, []) (2, [some (.ref 1), some (.int p1), some (.int v2)], [], st_h I J, c, k) r := by
  refine ic (t_p (pc' := 4) (ls' := [some (.ref 1), some (.int p1), some (.int v2)]) (st' := [.int (4 : Int32), .int v2]) 2 rfl) ?_
  refine i_cg (t_ige rfl) ?_ ?_
  · refine ic (t_p (pc' := 8) (ls' := [some (.ref 1), some (.int p1), some (.int v2)]) (st' := [.ref 1]) 1 rfl) ?_
    refine ic (t_gR rfl rfl) ?_
    refine ic (t_p (pc' := 12) (ls' := [some (.ref 1), some (.int p1), some (.int v2)]) (st' := [.int v2, .ref 2]) 1 rfl) ?_
    refine i_an (t_lR1 rfl rfl) (fun h3 => ?_)
    refine ic (t_p (pc' := 14) (ls' := [some (.ref 1), some (.int p1), some (.int v2)]) (st' := [.long (0 : Int64), .ref (3 + (Int32.toNatClampNeg v2))]) 1 rfl) ?_
    refine ip (i_cQ rfl rfl rfl (fun q => hc_JA_fill (d := d) (siW1 h3) q)) ?_
    refine ic (ex_q) ?_
    refine ic (t_p (pc' := 18) (ls' := [some (.ref 1), some (.int p1), some (.int v2)]) (st' := [.ref 1]) 1 rfl) ?_
    refine ic (t_gR rfl rfl) ?_
    refine ic (t_p (pc' := 23) (ls' := [some (.ref 1), some (.int p1), some (.int v2)]) (st' := [.int (0 : Int32), .int v2, .ref 7]) 2 rfl) ?_
    refine ic ((t_sI rfl rfl).trans (and_t h3)) ?_
    exact ic (t_p (pc' := 2) (ls' := [some (.ref 1), some (.int p1), some (.int (v2 + (1 : Int32)))]) (st' := []) 2 rfl) id
  · refine ic (t_p (pc' := 32) (ls' := [some (.ref 1), some (.int p1), some (.int v2)]) (st' := [.int p1, .ref 1]) 2 rfl) ?_
    refine ic (t_pI rfl rfl) ?_
    refine ic (t_p (pc' := 37) (ls' := [some (.ref 1), some (.int p1), some (.int v2)]) (st' := [.int (0 : Int32), .ref 1]) 2 rfl) ?_
    refine ic (t_pI rfl rfl) ?_
    exact ic (t_rV rfl) id
theorem ie_M_begin {X : pm_X} {d : Nat} {I : st_I} {J : st_J} {p1 : Int32} (r : pm_R) : (if (¬ ((Int32.toInt64 p1) < (1 : Int64))) ∧ (¬ ((64 : Int64) < (Int32.toInt64 p1))) then Gx X (d + 2) (kc_M_begin, []) (43, [some (.ref 166), some (.int p1), some (.int (0 : Int32))], [], st_h (st_w (st_w (st_w I 166 10 (0 : Int32)) 166 9 p1) 166 6 (1 : Int32)) J, 0, 0) r else r = (.inl none, st_h (st_w (st_w I 166 10 (0 : Int32)) 166 10 (1 : Int32)) J, 0, 0)) → Ex X (d + 3) 206 [.ref 166, .int p1] (st_h I J) r := by
  refine ic (Ex_iff (M := (kc_M_begin, [])) (n := 3) rfl rfl) ?_
  refine ic (t_p (pc' := 2) (ls' := [some (.ref 166), some (.int p1), none]) (st' := [.int (0 : Int32), .ref 166]) 2 rfl) ?_
  refine ic (t_pI rfl rfl) ?_
  refine ic (t_p (pc' := 12) (ls' := [some (.ref 166), some (.int p1), none]) (st' := [.long (64 : Int64), .long (1 : Int64), .long (Int32.toInt64 p1), .ref 166]) 5 rfl) ?_
  refine ic (t_cQ rfl rfl rfl (fun q => ev_M_in (d := d + 1)  q)) ?_
  refine ic (ex_q) ?_
  refine ic (mgI (t_bne rfl) bj_01 (t_p (pc' := 23) (ls' := [some (.ref 166), some (.int p1), none]) (st' := [.int (0 : Int32), .ref 166]) 1 rfl) (t_p (pc' := 23) (ls' := [some (.ref 166), some (.int p1), none]) (st' := [.int (1 : Int32), .ref 166]) 2 rfl)) ?_
  refine ic (t_p (pc' := 24) (ls' := [some (.ref 166), some (.int p1), none]) (st' := [.int (1 : Int32), .int (bz (¬ ((¬ ((Int32.toInt64 p1) < (1 : Int64))) ∧ (¬ ((64 : Int64) < (Int32.toInt64 p1)))))), .ref 166]) 1 rfl) ?_
  refine ic (t_cW rfl rfl rfl rfl (fun q => ev_M_fails (d := d + 1)  q)) ?_
  refine i_cg (cgBN (ex_i)) ?_ ?_
  · refine ic (ex_q) ?_
    refine i_cgF (t_beq rfl) (fun z => z (show (0 : Int32) = (0 : Int32) by decide)) ?_
    refine ic (t_p (pc' := 33) (ls' := [some (.ref 166), some (.int p1), none]) (st' := [.int p1, .ref 166]) 2 rfl) ?_
    refine ic (t_pI rfl rfl) ?_
    refine ic (t_p (pc' := 38) (ls' := [some (.ref 166), some (.int p1), none]) (st' := [.int (1 : Int32), .ref 166]) 2 rfl) ?_
    refine ic (t_pI rfl rfl) ?_
    exact ic (t_p (pc' := 43) (ls' := [some (.ref 166), some (.int p1), some (.int (0 : Int32))]) (st' := []) 2 rfl) id
  · refine i_cgT (ex_i) (show (0 : Int32) = (0 : Int32) by decide) ?_
    refine ic (ex_q) ?_
    refine i_cgT (t_beq rfl) (show ¬ ((1 : Int32) = (0 : Int32)) by decide) ?_
    exact ic (t_rV rfl) id
theorem ib_M_begin_43 {X : pm_X} {d : Nat} {I : st_I} {J : st_J} {p1 : Int32} {v2 : Int32} {c k : Nat} (r : pm_R) : (if v2 < (4 : Int32) then ((pm_in v2 4) = true ∧ Gx X (d + 2) (kc_M_begin, []) (43, [some (.ref 166), some (.int p1), some (.int (v2 + (1 : Int32)))], [], st_h (st_w I 170 (Int32.toNatClampNeg v2) (0 : Int32)) (st_lz J (Int32.toNatClampNeg v2) 64), c, k) r) else r = (.inl none, st_h (st_mz (st_w (st_w I 170 0 (1 : Int32)) 166 11 (1 : Int32)) 17) J, c, k)) → Gx X (d + 2) (kc_M_begin, []) (43, [some (.ref 166), some (.int p1), some (.int v2)], [], st_h I J, c, k) r := by
  refine ic (t_p (pc' := 45) (ls' := [some (.ref 166), some (.int p1), some (.int v2)]) (st' := [.int (4 : Int32), .int v2]) 2 rfl) ?_
  refine i_cg (t_ige rfl) ?_ ?_
  · refine ic (t_p (pc' := 51) (ls' := [some (.ref 166), some (.int p1), some (.int v2)]) (st' := [.int (0 : Int32), .int v2, .ref 166]) 3 rfl) ?_
    refine ip (i_cW rfl rfl rfl rfl (fun q => hc_M_lay (d := d + 1)  q)) ?_
    refine i_an (ex_a) (fun h3 => ?_)
    refine ic (ex_q) ?_
    exact ic (t_p (pc' := 43) (ls' := [some (.ref 166), some (.int p1), some (.int (v2 + (1 : Int32)))]) (st' := []) 2 rfl) id
  · refine ic (t_p (pc' := 61) (ls' := [some (.ref 166), some (.int p1), some (.int v2)]) (st' := [.ref 166]) 1 rfl) ?_
    refine ic (t_gR rfl rfl) ?_
    refine ic (t_p (pc' := 66) (ls' := [some (.ref 166), some (.int p1), some (.int v2)]) (st' := [.int (1 : Int32), .int (0 : Int32), .ref 170]) 2 rfl) ?_
    refine ic ((t_sI rfl rfl).trans (and_t (rfl : (pm_in (0 : Int32) 4) = true))) ?_
    refine ic (t_p (pc' := 69) (ls' := [some (.ref 166), some (.int p1), some (.int v2)]) (st' := [.int (1 : Int32), .ref 166]) 2 rfl) ?_
    refine ic (t_pZ rfl rfl rfl) ?_
    refine ic (t_p (pc' := 73) (ls' := [some (.ref 166), some (.int p1), some (.int v2)]) (st' := [.ref 166]) 1 rfl) ?_
    refine ip (i_cW rfl rfl rfl rfl (fun q => hc_M_forget (d := d)  q)) ?_
    refine ic (ex_q) ?_
    exact ic (t_rV rfl) id
