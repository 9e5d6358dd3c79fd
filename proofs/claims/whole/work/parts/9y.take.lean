theorem iv_D_take {X : pm_X} {d : Nat} {I : st_I} {J : st_J} {o : Option (st_I × st_J)} {Z : st_I × st_J} (r : pm_R) : ((upx X d I J (st_o (I 0 6)) o Z) ∧ (om o (fun x1 => ((ckk x1.1) ∧ (if (tkok (x1.2 11) (Int32.toNatClampNeg (x1.1 10 1))) then ((emk x1.1 x1.2) ∧ r = (.inl (some (.int ((st_cz (emI x1.1 x1.2) 16) 1 2))), st_h (st_cz (emI x1.1 x1.2) 16) (emJ x1.1 x1.2), 0, 0)) else r = (.inr 2, st_h x1.1 x1.2, 1, 6)))) (r = (.inr 2, st_h Z.1 Z.2, 1, 6)))) → Ex X (d + 5) 142 [.ref 0] (st_h I J) r := by
  refine ic (Ex_iff (M := (kc_D_take, [])) (n := 1) rfl rfl) ?_
  refine ic (t_p (pc' := 1) (ls' := [some (.ref 0)]) (st' := [.ref 0]) 1 rfl) ?_
  refine ic (t_gR rfl rfl) ?_
  refine ic (t_p (pc' := 5) (ls' := [some (.ref 0)]) (st' := [.ref 0, .ref 10]) 1 rfl) ?_
  refine ic (t_g6 rfl) ?_
  refine ip (i_cW rfl rfl rfl rfl (fun q => hc_Fr_unpack (d := d) (o := o) (Z := Z) (st_o_is _) q)) ?_
  refine i_an (ex_a) (fun h1 => ?_)
  refine i_cgo ex_o (fun x1 => ?_) ?_
  · refine ic (ex_q) ?_
    refine ic (t_p (pc' := 12) (ls' := [some (.ref 0)]) (st' := [.ref 0]) 1 rfl) ?_
    refine ic (t_gR rfl rfl) ?_
    refine ip (i_cW rfl rfl rfl rfl (fun q => hc_Fr_check (d := d + 2)  q)) ?_
    refine i_an (ex_a) (fun h2 => ?_)
    refine i_cg (ex_i) ?_ ?_
    · refine ic (ex_q) ?_
      refine ic (t_p (pc' := 19) (ls' := [some (.ref 0)]) (st' := [.ref 0]) 1 rfl) ?_
      refine ic (t_gR rfl rfl) ?_
      refine ic (t_p (pc' := 23) (ls' := [some (.ref 0)]) (st' := [.ref 0, .ref 10]) 1 rfl) ?_
      refine ic (t_gR rfl rfl) ?_
      refine ip (i_cW rfl rfl rfl rfl (fun q => hc_Fr_empty (d := d + 1)  q)) ?_
      refine i_an (ex_a) (fun h4 => ?_)
      refine ic (ex_q) ?_
      refine ic (t_p (pc' := 30) (ls' := [some (.ref 0)]) (st' := [.ref 0]) 1 rfl) ?_
      refine ip (i_cW rfl rfl rfl rfl (fun q => hc_D_cursorsToNothing (d := d + 1)  q)) ?_
      refine ic (ex_q) ?_
      refine ic (t_p (pc' := 34) (ls' := [some (.ref 0)]) (st' := [.ref 0]) 1 rfl) ?_
      refine ic (t_gR rfl rfl) ?_
      refine ic (t_gI rfl rfl) ?_
      exact ic (t_rI rfl) id
    · exact ic (ex_x) id
  · exact ic (ex_x) id
theorem iv_L_take {X : pm_X} {d : Nat} {I : st_I} {J : st_J} {o : Option (st_I × st_J)} {Z : st_I × st_J} (r : pm_R) : ((upx X d I J (st_o (I 0 6)) o Z) ∧ (om o (fun x1 => ((ckk x1.1) ∧ (if (tkok (x1.2 11) (Int32.toNatClampNeg (x1.1 10 1))) then ((emk x1.1 x1.2) ∧ r = (.inl (some (.int (0 : Int32))), st_h (st_cz (emI x1.1 x1.2) 16) (st_y (emJ x1.1 x1.2) 187 0 (Int32.toInt64 ((st_cz (emI x1.1 x1.2) 16) 1 2))), 0, 0)) else r = (.inl (some (.int (1 : Int32))), st_h x1.1 x1.2, 1, 6)))) (r = (.inl (some (.int (1 : Int32))), st_h Z.1 Z.2, 1, 6)))) → Ex X (d + 6) 141 [.ref 0, .ref 187] (st_h I J) r := by
  refine ic (Ex_iff (M := (kc_L_take, [(0, 8, 12, 2, 2)])) (n := 3) rfl rfl) ?_
  refine ic (t_p (pc' := 3) (ls' := [some (.ref 0), some (.ref 187), none]) (st' := [.ref 0, .int (0 : Int32), .ref 187]) 3 rfl) ?_
  refine ip (i_cW rfl rfl rfl rfl (fun q => iv_D_take (d := d) (o := o) (Z := Z)  q)) ?_
  refine i_an (ex_a) (fun h1 => ?_)
  refine i_cgo ex_o (fun x1 => ?_) ?_
  · refine i_an (ex_a) (fun h2 => ?_)
    refine i_cg (ex_i) ?_ ?_
    · refine i_an (ex_a) (fun h4 => ?_)
      refine ic (ex_q) ?_
      refine ic (t_p (pc' := 7) (ls' := [some (.ref 0), some (.ref 187), none]) (st' := [.long (Int32.toInt64 ((st_cz (emI x1.1 x1.2) 16) 1 2)), .int (0 : Int32), .ref 187]) 1 rfl) ?_
      refine ic ((t_sJ rfl rfl).trans (and_t (rfl : (pm_in (0 : Int32) 1) = true))) ?_
      refine ic (t_p (pc' := 15) (ls' := [some (.ref 0), some (.ref 187), none]) (st' := [.int (0 : Int32)]) 2 rfl) ?_
      exact ic (t_rI rfl) id
    · refine ic (ex_h rfl) ?_
      refine ic (t_p (pc' := 13) (ls' := [some (.ref 0), some (.ref 187), none]) (st' := [.int (1 : Int32)]) 1 rfl) ?_
      exact ic (t_rI rfl) id
  · refine ic (ex_h rfl) ?_
    refine ic (t_p (pc' := 13) (ls' := [some (.ref 0), some (.ref 187), none]) (st' := [.int (1 : Int32)]) 1 rfl) ?_
    exact ic (t_rI rfl) id
