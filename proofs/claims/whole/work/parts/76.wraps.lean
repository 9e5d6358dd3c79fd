theorem iv_L_feed {X : pm_X} {d : Nat} {I : st_I} {J : st_J} {p1 : Int64} {p2 : Int32} (r : pm_R) : (if (p2 < (1 : Int32)) ∨ ((8 : Int32) < p2) then r = (.inl (some (.int (1 : Int32))), st_h I J, 1, 6) else (if (1500 : Int32) < ((I (st_o (I 0 6)) 1) + p2) then r = (.inl (some (.int (2 : Int32))), st_h I J, 1, 6) else ((fdk I) ∧ r = (.inl (some (.int (0 : Int32))), st_h (fdI I p1 (Int32.toNatClampNeg p2)) (st_y J 187 0 (Int32.toInt64 (Int32.ofNat ((Int32.toNatClampNeg (I (st_o (I 0 6)) 1)) + (Int32.toNatClampNeg p2))))), 0, 0)))) → Ex X (d + 4) 139 [.ref 0, .long p1, .int p2, .ref 187] (st_h I J) r := by
  refine ic (Ex_iff (M := (kc_L_feed, [(0, 11, 16, 1, 5), (0, 11, 20, 3, 5)])) (n := 6) rfl rfl) ?_
  refine ic (t_p (pc' := 6) (ls' := [some (.ref 0), some (.long p1), none, some (.int p2), some (.ref 187), none]) (st' := [.int p2, .long p1, .ref 0, .int (0 : Int32), .ref 187]) 5 rfl) ?_
  refine ip (i_cW rfl rfl rfl rfl (fun q => hc_D_feed (d := d)  q)) ?_
  refine i_cg (ex_i) ?_ ?_
  · refine ic (ex_h rfl) ?_
    refine ic (t_p (pc' := 17) (ls' := [some (.ref 0), some (.long p1), none, some (.int p2), some (.ref 187), none]) (st' := [.int (1 : Int32)]) 1 rfl) ?_
    exact ic (t_rI rfl) id
  · refine i_cg (ex_i) ?_ ?_
    · refine ic (ex_h rfl) ?_
      refine ic (t_p (pc' := 21) (ls' := [some (.ref 0), some (.long p1), none, some (.int p2), some (.ref 187), none]) (st' := [.int (2 : Int32)]) 1 rfl) ?_
      exact ic (t_rI rfl) id
    · refine i_an (ex_a) (fun h3 => ?_)
      refine ic (ex_q) ?_
      refine ic (t_p (pc' := 10) (ls' := [some (.ref 0), some (.long p1), none, some (.int p2), some (.ref 187), none]) (st' := [.long (Int32.toInt64 (Int32.ofNat ((Int32.toNatClampNeg (I (st_o (I 0 6)) 1)) + (Int32.toNatClampNeg p2)))), .int (0 : Int32), .ref 187]) 1 rfl) ?_
      refine ic ((t_sJ rfl rfl).trans (and_t (rfl : (pm_in (0 : Int32) 1) = true))) ?_
      refine ic (t_p (pc' := 23) (ls' := [some (.ref 0), some (.long p1), none, some (.int p2), some (.ref 187), none]) (st' := [.int (0 : Int32)]) 2 rfl) ?_
      exact ic (t_rI rfl) id
