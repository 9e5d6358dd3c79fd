theorem ie_M_pack {X : pm_X} {d : Nat} {I : st_I} {J : st_J} {K : st_I} {b : Int32} {L : st_J} (r : pm_R) : (Ex X (d + 1) 221 [.ref 166] (st_h (st_w I 166 10 (0 : Int32)) J) (.inl (some (.int b)), st_h K L, 0, 0) ∧ Gx X (d + 1) (kc_M_pack, []) (14, [some (.ref 166), some (.int b), some (.int (0 : Int32)), some (.int (0 : Int32)), none, none, none, none, none, none], [], st_h K L, 0, 0) r) → Ex X (d + 2) 220 [.ref 166] (st_h I J) r := by
  refine ic (Ex_iff (M := (kc_M_pack, [])) (n := 10) rfl rfl) ?_
  refine ic (t_p (pc' := 2) (ls' := [some (.ref 166), none, none, none, none, none, none, none, none, none]) (st' := [.int (0 : Int32), .ref 166]) 2 rfl) ?_
  refine ic (t_pI rfl rfl) ?_
  refine ic (t_p (pc' := 6) (ls' := [some (.ref 166), none, none, none, none, none, none, none, none, none]) (st' := [.ref 166]) 1 rfl) ?_
  refine i_hW rfl rfl rfl rfl ?_
  exact ic (t_p (pc' := 14) (ls' := [some (.ref 166), some (.int b), some (.int (0 : Int32)), some (.int (0 : Int32)), none, none, none, none, none, none]) (st' := []) 5 rfl) id
theorem ib_M_pack_14 {X : pm_X} {d : Nat} {I : st_I} {J : st_J}  {v1 : Int32} {v2 : Int32} {v3 : Int32} {u4 : Option Value} {u5 : Option Value} {u6 : Option Value} {u7 : Option Value} {u8 : Option Value} {u9 : Option Value} {c k : Nat} (r : pm_R) : (if v3 < v1 then ((pm_in v3 300) = true ∧ Gx X (d + 1) (kc_M_pack, []) (42, [some (.ref 166), some (.int v1), some (.int (v2 + (1 : Int32))), some (.int v3), some (.long (J 169 (Int32.toNatClampNeg v3))), none, some (.int (0 : Int32)), some (.int v2), some (.int (0 : Int32)), some (.int (0 : Int32))], [], st_h I J, c, k) r) else (if (1500 : Int32) < v2 then (if (I 166 10) = (0 : Int32) then r = (.inl (some (.int (0 : Int32))), st_h (st_w I 166 10 (1 : Int32)) J, c, k) else r = (.inl (some (.int (0 : Int32))), st_h I J, c, k)) else (if (I 166 10) = (0 : Int32) then Gx X (d + 1) (kc_M_pack, []) (248, [some (.ref 166), some (.int v1), some (.int v2), some (.int v3), some (.int (0 : Int32)), u5, u6, u7, u8, u9], [], st_h I J, c, k) r else r = (.inl (some (.int (0 : Int32))), st_h I J, c, k)))) → Gx X (d + 1) (kc_M_pack, []) (14, [some (.ref 166), some (.int v1), some (.int v2), some (.int v3), u4, u5, u6, u7, u8, u9], [], st_h I J, c, k) r := by
  refine ic (t_p (pc' := 16) (ls' := [some (.ref 166), some (.int v1), some (.int v2), some (.int v3), u4, u5, u6, u7, u8, u9]) (st' := [.int v1, .int v3]) 2 rfl) ?_
  refine i_cg (t_ige rfl) ?_ ?_
  · refine ic (t_p (pc' := 20) (ls' := [some (.ref 166), some (.int v1), some (.int v2), some (.int v3), u4, u5, u6, u7, u8, u9]) (st' := [.ref 166]) 1 rfl) ?_
    refine ic (t_gR rfl rfl) ?_
    refine ic (t_p (pc' := 24) (ls' := [some (.ref 166), some (.int v1), some (.int v2), some (.int v3), u4, u5, u6, u7, u8, u9]) (st' := [.int v3, .ref 169]) 1 rfl) ?_
    refine i_an (t_lJ rfl rfl) (fun h3 => ?_)
    exact ic (t_p (pc' := 42) (ls' := [some (.ref 166), some (.int v1), some (.int (v2 + (1 : Int32))), some (.int v3), some (.long (J 169 (Int32.toNatClampNeg v3))), none, some (.int (0 : Int32)), some (.int v2), some (.int (0 : Int32)), some (.int (0 : Int32))]) (st' := []) 10 rfl) id
  · refine ic (t_p (pc' := 228) (ls' := [some (.ref 166), some (.int v1), some (.int v2), some (.int v3), u4, u5, u6, u7, u8, u9]) (st' := [.int (1500 : Int32), .int v2, .ref 166]) 3 rfl) ?_
    refine ic (mgI (t_ile rfl) bj_10 (t_p (pc' := 236) (ls' := [some (.ref 166), some (.int v1), some (.int v2), some (.int v3), u4, u5, u6, u7, u8, u9]) (st' := [.int (1 : Int32), .ref 166]) 2 rfl) (t_p (pc' := 236) (ls' := [some (.ref 166), some (.int v1), some (.int v2), some (.int v3), u4, u5, u6, u7, u8, u9]) (st' := [.int (0 : Int32), .ref 166]) 1 rfl)) ?_
    refine ic (t_p (pc' := 237) (ls' := [some (.ref 166), some (.int v1), some (.int v2), some (.int v3), u4, u5, u6, u7, u8, u9]) (st' := [.int (1 : Int32), .int (bz ((1500 : Int32) < v2)), .ref 166]) 1 rfl) ?_
    refine ic (t_cW rfl rfl rfl rfl (fun q => ev_M_fails (d := d)  q)) ?_
    refine i_cg (cgB (ex_i)) ?_ ?_
    · refine i_cg (ex_i) ?_ ?_
      · refine ic (ex_q) ?_
        refine i_cgT (t_beq rfl) (show ¬ ((1 : Int32) = (0 : Int32)) by decide) ?_
        refine ic (t_p (pc' := 244) (ls' := [some (.ref 166), some (.int v1), some (.int v2), some (.int v3), u4, u5, u6, u7, u8, u9]) (st' := [.int (0 : Int32)]) 1 rfl) ?_
        exact ic (t_rI rfl) id
      · refine ic (ex_q) ?_
        refine i_cgF (t_feq rfl) (show ¬ ((1 : Int32) = (0 : Int32)) by decide) ?_
        refine ic (t_p (pc' := 244) (ls' := [some (.ref 166), some (.int v1), some (.int v2), some (.int v3), u4, u5, u6, u7, u8, u9]) (st' := [.int (0 : Int32)]) 1 rfl) ?_
        exact ic (t_rI rfl) id
    · refine ic (ex_q) ?_
      refine i_cg (cgN (t_beq rfl)) ?_ ?_
      · exact ic (t_p (pc' := 248) (ls' := [some (.ref 166), some (.int v1), some (.int v2), some (.int v3), some (.int (0 : Int32)), u5, u6, u7, u8, u9]) (st' := []) 2 rfl) id
      · refine ic (t_p (pc' := 244) (ls' := [some (.ref 166), some (.int v1), some (.int v2), some (.int v3), u4, u5, u6, u7, u8, u9]) (st' := [.int (0 : Int32)]) 1 rfl) ?_
        exact ic (t_rI rfl) id
set_option maxRecDepth 20000 in
theorem ib_M_pack_42 {X : pm_X} {d : Nat} {I : st_I} {J : st_J}  {v1 : Int32} {v2 : Int32} {v3 : Int32} {v4 : Int64} {v6 : Int32} {v7 : Int32} {v8 : Int32} {v9 : Int32} {c k : Nat} (r : pm_R) : (if v9 < (8 : Int32) then (if ((ju v4 ((8 : Int32) * v9)) &&& (255 : Int64)) = (0 : Int64) then Gx X (d + 1) (kc_M_pack, []) (42, [some (.ref 166), some (.int v1), some (.int v2), some (.int v3), some (.long v4), none, some (.int v6), some (.int v7), some (.int v8), some (.int (v9 + (1 : Int32)))], [], st_h I J, c, k) r else ((pm_in v2 2600) = true ∧ Gx X (d + 1) (kc_M_pack, []) (42, [some (.ref 166), some (.int v1), some (.int (v2 + (1 : Int32))), some (.int v3), some (.long v4), none, some (.int (v6 ||| (il (1 : Int32) v9))), some (.int v7), some (.int v8), some (.int (v9 + (1 : Int32)))], [], st_h (st_w I 172 (Int32.toNatClampNeg v2) (Int64.toInt32 ((ju v4 ((8 : Int32) * v9)) &&& (255 : Int64)))) J, c, k) r)) else ((pm_in v7 2600) = true ∧ (if v6 = (0 : Int32) then Gx X (d + 1) (kc_M_pack, []) (137, [some (.ref 166), some (.int v1), some (.int (v2 + (1 : Int32))), some (.int (v3 + (1 : Int32))), some (.long v4), none, some (.int v6), some (.int v7), some (.int v8), some (.int v2)], [], st_h (st_w I 172 (Int32.toNatClampNeg v7) v6) J, c, k) r else (if v6 = (255 : Int32) then Gx X (d + 1) (kc_M_pack, []) (137, [some (.ref 166), some (.int v1), some (.int (v2 + (1 : Int32))), some (.int (v3 + (1 : Int32))), some (.long v4), none, some (.int v6), some (.int v7), some (.int v8), some (.int v2)], [], st_h (st_w I 172 (Int32.toNatClampNeg v7) v6) J, c, k) r else Gx X (d + 1) (kc_M_pack, []) (14, [some (.ref 166), some (.int v1), some (.int v2), some (.int (v3 + (1 : Int32))), some (.long v4), none, some (.int v6), some (.int v7), some (.int v8), some (.int v9)], [], st_h (st_w I 172 (Int32.toNatClampNeg v7) v6) J, c, k) r)))) → Gx X (d + 1) (kc_M_pack, []) (42, [some (.ref 166), some (.int v1), some (.int v2), some (.int v3), some (.long v4), none, some (.int v6), some (.int v7), some (.int v8), some (.int v9)], [], st_h I J, c, k) r := by
  refine ic (t_p (pc' := 46) (ls' := [some (.ref 166), some (.int v1), some (.int v2), some (.int v3), some (.long v4), none, some (.int v6), some (.int v7), some (.int v8), some (.int v9)]) (st' := [.int (8 : Int32), .int v9]) 2 rfl) ?_
  refine i_cg (t_ige rfl) ?_ ?_
  · refine ic (t_p (pc' := 63) (ls' := [some (.ref 166), some (.int v1), some (.int v2), some (.int v3), some (.long v4), none, some (.int v6), some (.int v7), some (.int v8), some (.int v9)]) (st' := [.int (lg_cmp ((ju v4 ((8 : Int32) * v9)) &&& (255 : Int64)) (0 : Int64))]) 9 rfl) ?_
    refine i_cg (t_Leq rfl) ?_ ?_
    · exact ic (t_p (pc' := 42) (ls' := [some (.ref 166), some (.int v1), some (.int v2), some (.int v3), some (.long v4), none, some (.int v6), some (.int v7), some (.int v8), some (.int (v9 + (1 : Int32)))]) (st' := []) 2 rfl) id
    · refine ic (t_p (pc' := 76) (ls' := [some (.ref 166), some (.int v1), some (.int v2), some (.int v3), some (.long v4), none, some (.int (v6 ||| (il (1 : Int32) v9))), some (.int v7), some (.int v8), some (.int v9)]) (st' := [.ref 166]) 7 rfl) ?_
      refine ic (t_gR rfl rfl) ?_
      refine ic (t_p (pc' := 93) (ls' := [some (.ref 166), some (.int v1), some (.int v2), some (.int v3), some (.long v4), none, some (.int (v6 ||| (il (1 : Int32) v9))), some (.int v7), some (.int v8), some (.int v9)]) (st' := [.int (Int64.toInt32 ((ju v4 ((8 : Int32) * v9)) &&& (255 : Int64))), .int v2, .ref 172]) 9 rfl) ?_
      refine i_an (t_sI rfl rfl) (fun h7 => ?_)
      exact ic (t_p (pc' := 42) (ls' := [some (.ref 166), some (.int v1), some (.int (v2 + (1 : Int32))), some (.int v3), some (.long v4), none, some (.int (v6 ||| (il (1 : Int32) v9))), some (.int v7), some (.int v8), some (.int (v9 + (1 : Int32)))]) (st' := []) 3 rfl) id
  · refine ic (t_p (pc' := 104) (ls' := [some (.ref 166), some (.int v1), some (.int v2), some (.int v3), some (.long v4), none, some (.int v6), some (.int v7), some (.int v8), some (.int v9)]) (st' := [.ref 166]) 1 rfl) ?_
    refine ic (t_gR rfl rfl) ?_
    refine ic (t_p (pc' := 111) (ls' := [some (.ref 166), some (.int v1), some (.int v2), some (.int v3), some (.long v4), none, some (.int v6), some (.int v7), some (.int v8), some (.int v9)]) (st' := [.int v6, .int v7, .ref 172]) 2 rfl) ?_
    refine i_an (t_sI rfl rfl) (fun h8 => ?_)
    refine ic (t_p (pc' := 117) (ls' := [some (.ref 166), some (.int v1), some (.int v2), some (.int (v3 + (1 : Int32))), some (.long v4), none, some (.int v6), some (.int v7), some (.int v8), some (.int v9)]) (st' := [.int v6]) 2 rfl) ?_
    refine i_cg (t_feq rfl) ?_ ?_
    · exact ic (t_p (pc' := 137) (ls' := [some (.ref 166), some (.int v1), some (.int (v2 + (1 : Int32))), some (.int (v3 + (1 : Int32))), some (.long v4), none, some (.int v6), some (.int v7), some (.int v8), some (.int v2)]) (st' := []) 3 rfl) id
    · refine ic (t_p (pc' := 125) (ls' := [some (.ref 166), some (.int v1), some (.int v2), some (.int (v3 + (1 : Int32))), some (.long v4), none, some (.int v6), some (.int v7), some (.int v8), some (.int v9)]) (st' := [.int (255 : Int32), .int v6]) 2 rfl) ?_
      refine i_cg (t_ieq rfl) ?_ ?_
      · exact ic (t_p (pc' := 137) (ls' := [some (.ref 166), some (.int v1), some (.int (v2 + (1 : Int32))), some (.int (v3 + (1 : Int32))), some (.long v4), none, some (.int v6), some (.int v7), some (.int v8), some (.int v2)]) (st' := []) 3 rfl) id
      · exact ic (t_p (pc' := 14) (ls' := [some (.ref 166), some (.int v1), some (.int v2), some (.int (v3 + (1 : Int32))), some (.long v4), none, some (.int v6), some (.int v7), some (.int v8), some (.int v9)]) (st' := []) 1 rfl) id
theorem ib_M_pack_248 {X : pm_X} {d : Nat} {I : st_I} {J : st_J}  {v1 : Int32} {v2 : Int32} {v3 : Int32} {v4 : Int32} {u5 : Option Value} {u6 : Option Value} {u7 : Option Value} {u8 : Option Value} {u9 : Option Value} {c k : Nat} (r : pm_R) : (if v4 < v2 then ((pm_in v4 2600) = true ∧ ((pm_in v4 1500) = true ∧ Gx X (d + 1) (kc_M_pack, []) (248, [some (.ref 166), some (.int v1), some (.int v2), some (.int v3), some (.int (v4 + (1 : Int32))), u5, u6, u7, u8, u9], [], st_h (st_w I 171 (Int32.toNatClampNeg v4) (I 172 (Int32.toNatClampNeg v4))) J, c, k) r)) else r = (.inl (some (.int v2)), st_h (st_w I 166 7 v2) J, c, k)) → Gx X (d + 1) (kc_M_pack, []) (248, [some (.ref 166), some (.int v1), some (.int v2), some (.int v3), some (.int v4), u5, u6, u7, u8, u9], [], st_h I J, c, k) r := by
  refine ic (t_p (pc' := 251) (ls' := [some (.ref 166), some (.int v1), some (.int v2), some (.int v3), some (.int v4), u5, u6, u7, u8, u9]) (st' := [.int v2, .int v4]) 2 rfl) ?_
  refine i_cg (t_ige rfl) ?_ ?_
  · refine ic (t_p (pc' := 255) (ls' := [some (.ref 166), some (.int v1), some (.int v2), some (.int v3), some (.int v4), u5, u6, u7, u8, u9]) (st' := [.ref 166]) 1 rfl) ?_
    refine ic (t_gR rfl rfl) ?_
    refine ic (t_p (pc' := 261) (ls' := [some (.ref 166), some (.int v1), some (.int v2), some (.int v3), some (.int v4), u5, u6, u7, u8, u9]) (st' := [.ref 166, .int v4, .ref 171]) 2 rfl) ?_
    refine ic (t_gR rfl rfl) ?_
    refine ic (t_p (pc' := 266) (ls' := [some (.ref 166), some (.int v1), some (.int v2), some (.int v3), some (.int v4), u5, u6, u7, u8, u9]) (st' := [.int v4, .ref 172, .int v4, .ref 171]) 1 rfl) ?_
    refine i_an (t_lI rfl rfl) (fun h4 => ?_)
    refine i_an (t_sI rfl rfl) (fun h5 => ?_)
    exact ic (t_p (pc' := 248) (ls' := [some (.ref 166), some (.int v1), some (.int v2), some (.int v3), some (.int (v4 + (1 : Int32))), u5, u6, u7, u8, u9]) (st' := []) 2 rfl) id
  · refine ic (t_p (pc' := 276) (ls' := [some (.ref 166), some (.int v1), some (.int v2), some (.int v3), some (.int v4), u5, u6, u7, u8, u9]) (st' := [.int v2, .ref 166]) 2 rfl) ?_
    refine ic (t_pI rfl rfl) ?_
    refine ic (t_p (pc' := 280) (ls' := [some (.ref 166), some (.int v1), some (.int v2), some (.int v3), some (.int v4), u5, u6, u7, u8, u9]) (st' := [.ref 166]) 1 rfl) ?_
    refine ic (t_gI rfl rfl) ?_
    exact ic (t_rI rfl) id
set_option maxRecDepth 20000 in
theorem ib_M_pack_137 {X : pm_X} {d : Nat} {I : st_I} {J : st_J}  {v1 : Int32} {v2 : Int32} {v3 : Int32} {v4 : Int64} {v6 : Int32} {v7 : Int32} {v8 : Int32} {v9 : Int32} {c k : Nat} (r : pm_R) : (if v3 < v1 then (if v8 < (255 : Int32) then (if v6 = (0 : Int32) then ((pm_in v3 300) = true ∧ (if (J 169 (Int32.toNatClampNeg v3)) = (0 : Int64) then Gx X (d + 1) (kc_M_pack, []) (137, [some (.ref 166), some (.int v1), some (.int v2), some (.int (v3 + (1 : Int32))), some (.long v4), none, some (.int v6), some (.int v7), some (.int (v8 + (1 : Int32))), some (.int v9)], [], st_h I J, c, k) r else ((pm_in v9 2600) = true ∧ Gx X (d + 1) (kc_M_pack, []) (14, [some (.ref 166), some (.int v1), some (.int v2), some (.int v3), some (.long v4), none, some (.int v6), some (.int v7), some (.int v8), some (.int v9)], [], st_h (st_w I 172 (Int32.toNatClampNeg v9) v8) J, c, k) r))) else ((pm_in v3 300) = true ∧ (if (Int32.ofNat (zn (J 169 (Int32.toNatClampNeg v3)))) < (2 : Int32) then (if v6 = (255 : Int32) then ((whk v2) ∧ Gx X (d + 1) (kc_M_pack, []) (137, [some (.ref 166), some (.int v1), some (.int (v2 + (8 : Int32))), some (.int (v3 + (1 : Int32))), some (.long v4), none, some (.int v6), some (.int v7), some (.int (v8 + (1 : Int32))), some (.int v9)], [], st_h (whI I (Int32.toNatClampNeg v2) (J 169 (Int32.toNatClampNeg v3))) J, c, k) r) else Gx X (d + 1) (kc_M_pack, []) (137, [some (.ref 166), some (.int v1), some (.int v2), some (.int (v3 + (1 : Int32))), some (.long v4), none, some (.int v6), some (.int v7), some (.int (v8 + (1 : Int32))), some (.int v9)], [], st_h I J, c, k) r) else ((pm_in v9 2600) = true ∧ Gx X (d + 1) (kc_M_pack, []) (14, [some (.ref 166), some (.int v1), some (.int v2), some (.int v3), some (.long v4), none, some (.int v6), some (.int v7), some (.int v8), some (.int v9)], [], st_h (st_w I 172 (Int32.toNatClampNeg v9) v8) J, c, k) r)))) else ((pm_in v9 2600) = true ∧ Gx X (d + 1) (kc_M_pack, []) (14, [some (.ref 166), some (.int v1), some (.int v2), some (.int v3), some (.long v4), none, some (.int v6), some (.int v7), some (.int v8), some (.int v9)], [], st_h (st_w I 172 (Int32.toNatClampNeg v9) v8) J, c, k) r)) else ((pm_in v9 2600) = true ∧ Gx X (d + 1) (kc_M_pack, []) (14, [some (.ref 166), some (.int v1), some (.int v2), some (.int v3), some (.long v4), none, some (.int v6), some (.int v7), some (.int v8), some (.int v9)], [], st_h (st_w I 172 (Int32.toNatClampNeg v9) v8) J, c, k) r)) → Gx X (d + 1) (kc_M_pack, []) (137, [some (.ref 166), some (.int v1), some (.int v2), some (.int v3), some (.long v4), none, some (.int v6), some (.int v7), some (.int v8), some (.int v9)], [], st_h I J, c, k) r := by
  refine ic (t_p (pc' := 139) (ls' := [some (.ref 166), some (.int v1), some (.int v2), some (.int v3), some (.long v4), none, some (.int v6), some (.int v7), some (.int v8), some (.int v9)]) (st' := [.int v1, .int v3]) 2 rfl) ?_
  refine i_cg (t_ige rfl) ?_ ?_
  · refine ic (t_p (pc' := 147) (ls' := [some (.ref 166), some (.int v1), some (.int v2), some (.int v3), some (.long v4), none, some (.int v6), some (.int v7), some (.int v8), some (.int v9)]) (st' := [.int (255 : Int32), .int v8]) 2 rfl) ?_
    refine i_cg (t_ige rfl) ?_ ?_
    · refine ic (t_p (pc' := 152) (ls' := [some (.ref 166), some (.int v1), some (.int v2), some (.int v3), some (.long v4), none, some (.int v6), some (.int v7), some (.int v8), some (.int v9)]) (st' := [.int v6]) 1 rfl) ?_
      refine i_cgd (t_fne rfl) (fun h101 => ?_) (fun h101 => ?_)
      · refine ic (t_p (pc' := 156) (ls' := [some (.ref 166), some (.int v1), some (.int v2), some (.int v3), some (.long v4), none, some (.int v6), some (.int v7), some (.int v8), some (.int v9)]) (st' := [.ref 166]) 1 rfl) ?_
        refine ic (t_gR rfl rfl) ?_
        refine ic (t_p (pc' := 160) (ls' := [some (.ref 166), some (.int v1), some (.int v2), some (.int v3), some (.long v4), none, some (.int v6), some (.int v7), some (.int v8), some (.int v9)]) (st' := [.int v3, .ref 169]) 1 rfl) ?_
        refine i_an (t_lJ rfl rfl) (fun h102 => ?_)
        refine ic (t_p (pc' := 163) (ls' := [some (.ref 166), some (.int v1), some (.int v2), some (.int v3), some (.long v4), none, some (.int v6), some (.int v7), some (.int v8), some (.int v9)]) (st' := [.int (lg_cmp (J 169 (Int32.toNatClampNeg v3)) (0 : Int64))]) 2 rfl) ?_
        refine i_cg (t_Lne rfl) ?_ ?_
        · refine ic (t_p (pc' := 187) (ls' := [some (.ref 166), some (.int v1), some (.int v2), some (.int v3), some (.long v4), none, some (.int v6), some (.int v7), some (.int v8), some (.int v9)]) (st' := [.int (255 : Int32), .int v6]) 3 rfl) ?_
          refine i_cgF (t_ine rfl) (fun z => absurd (h101.symm.trans z) (by decide)) ?_
          exact ic (t_p (pc' := 137) (ls' := [some (.ref 166), some (.int v1), some (.int v2), some (.int (v3 + (1 : Int32))), some (.long v4), none, some (.int v6), some (.int v7), some (.int (v8 + (1 : Int32))), some (.int v9)]) (st' := []) 3 rfl) id
        · refine ic (t_p (pc' := 212) (ls' := [some (.ref 166), some (.int v1), some (.int v2), some (.int v3), some (.long v4), none, some (.int v6), some (.int v7), some (.int v8), some (.int v9)]) (st' := [.ref 166]) 1 rfl) ?_
          refine ic (t_gR rfl rfl) ?_
          refine ic (t_p (pc' := 219) (ls' := [some (.ref 166), some (.int v1), some (.int v2), some (.int v3), some (.long v4), none, some (.int v6), some (.int v7), some (.int v8), some (.int v9)]) (st' := [.int v8, .int v9, .ref 172]) 2 rfl) ?_
          refine i_an (t_sI rfl rfl) (fun h104 => ?_)
          exact ic (t_p (pc' := 14) (ls' := [some (.ref 166), some (.int v1), some (.int v2), some (.int v3), some (.long v4), none, some (.int v6), some (.int v7), some (.int v8), some (.int v9)]) (st' := []) 1 rfl) id
      · refine ic (t_p (pc' := 170) (ls' := [some (.ref 166), some (.int v1), some (.int v2), some (.int v3), some (.long v4), none, some (.int v6), some (.int v7), some (.int v8), some (.int v9)]) (st' := [.ref 166]) 1 rfl) ?_
        refine ic (t_gR rfl rfl) ?_
        refine ic (t_p (pc' := 174) (ls' := [some (.ref 166), some (.int v1), some (.int v2), some (.int v3), some (.long v4), none, some (.int v6), some (.int v7), some (.int v8), some (.int v9)]) (st' := [.int v3, .ref 169]) 1 rfl) ?_
        refine i_an (t_lJ rfl rfl) (fun h105 => ?_)
        refine ip (i_cQ rfl rfl rfl (fun q => hc_M_zeros (d := d)  q)) ?_
        refine ic (ex_q) ?_
        refine ic (t_p (pc' := 179) (ls' := [some (.ref 166), some (.int v1), some (.int v2), some (.int v3), some (.long v4), none, some (.int v6), some (.int v7), some (.int v8), some (.int v9)]) (st' := [.int (2 : Int32), .int (Int32.ofNat (zn (J 169 (Int32.toNatClampNeg v3))))]) 1 rfl) ?_
        refine i_cg (t_ige rfl) ?_ ?_
        · refine ic (t_p (pc' := 187) (ls' := [some (.ref 166), some (.int v1), some (.int v2), some (.int v3), some (.long v4), none, some (.int v6), some (.int v7), some (.int v8), some (.int v9)]) (st' := [.int (255 : Int32), .int v6]) 2 rfl) ?_
          refine i_cg (t_ine rfl) ?_ ?_
          · refine ic (t_p (pc' := 193) (ls' := [some (.ref 166), some (.int v1), some (.int v2), some (.int v3), some (.long v4), none, some (.int v6), some (.int v7), some (.int v8), some (.int v9)]) (st' := [.ref 166, .int v2, .ref 166]) 3 rfl) ?_
            refine ic (t_gR rfl rfl) ?_
            refine ic (t_p (pc' := 197) (ls' := [some (.ref 166), some (.int v1), some (.int v2), some (.int v3), some (.long v4), none, some (.int v6), some (.int v7), some (.int v8), some (.int v9)]) (st' := [.int v3, .ref 169, .int v2, .ref 166]) 1 rfl) ?_
            refine ic ((t_lJ rfl rfl).trans (and_t h105)) ?_
            refine ip (i_cW rfl rfl rfl rfl (fun q => hc_M_whole (d := d)  q)) ?_
            refine i_an (ex_a) (fun h112 => ?_)
            refine ic (ex_q) ?_
            exact ic (t_p (pc' := 137) (ls' := [some (.ref 166), some (.int v1), some (.int (v2 + (8 : Int32))), some (.int (v3 + (1 : Int32))), some (.long v4), none, some (.int v6), some (.int v7), some (.int (v8 + (1 : Int32))), some (.int v9)]) (st' := []) 4 rfl) id
          · exact ic (t_p (pc' := 137) (ls' := [some (.ref 166), some (.int v1), some (.int v2), some (.int (v3 + (1 : Int32))), some (.long v4), none, some (.int v6), some (.int v7), some (.int (v8 + (1 : Int32))), some (.int v9)]) (st' := []) 3 rfl) id
        · refine ic (t_p (pc' := 212) (ls' := [some (.ref 166), some (.int v1), some (.int v2), some (.int v3), some (.long v4), none, some (.int v6), some (.int v7), some (.int v8), some (.int v9)]) (st' := [.ref 166]) 1 rfl) ?_
          refine ic (t_gR rfl rfl) ?_
          refine ic (t_p (pc' := 219) (ls' := [some (.ref 166), some (.int v1), some (.int v2), some (.int v3), some (.long v4), none, some (.int v6), some (.int v7), some (.int v8), some (.int v9)]) (st' := [.int v8, .int v9, .ref 172]) 2 rfl) ?_
          refine i_an (t_sI rfl rfl) (fun h113 => ?_)
          exact ic (t_p (pc' := 14) (ls' := [some (.ref 166), some (.int v1), some (.int v2), some (.int v3), some (.long v4), none, some (.int v6), some (.int v7), some (.int v8), some (.int v9)]) (st' := []) 1 rfl) id
    · refine ic (t_p (pc' := 212) (ls' := [some (.ref 166), some (.int v1), some (.int v2), some (.int v3), some (.long v4), none, some (.int v6), some (.int v7), some (.int v8), some (.int v9)]) (st' := [.ref 166]) 1 rfl) ?_
      refine ic (t_gR rfl rfl) ?_
      refine ic (t_p (pc' := 219) (ls' := [some (.ref 166), some (.int v1), some (.int v2), some (.int v3), some (.long v4), none, some (.int v6), some (.int v7), some (.int v8), some (.int v9)]) (st' := [.int v8, .int v9, .ref 172]) 2 rfl) ?_
      refine i_an (t_sI rfl rfl) (fun h114 => ?_)
      exact ic (t_p (pc' := 14) (ls' := [some (.ref 166), some (.int v1), some (.int v2), some (.int v3), some (.long v4), none, some (.int v6), some (.int v7), some (.int v8), some (.int v9)]) (st' := []) 1 rfl) id
  · refine ic (t_p (pc' := 212) (ls' := [some (.ref 166), some (.int v1), some (.int v2), some (.int v3), some (.long v4), none, some (.int v6), some (.int v7), some (.int v8), some (.int v9)]) (st' := [.ref 166]) 1 rfl) ?_
    refine ic (t_gR rfl rfl) ?_
    refine ic (t_p (pc' := 219) (ls' := [some (.ref 166), some (.int v1), some (.int v2), some (.int v3), some (.long v4), none, some (.int v6), some (.int v7), some (.int v8), some (.int v9)]) (st' := [.int v8, .int v9, .ref 172]) 2 rfl) ?_
    refine i_an (t_sI rfl rfl) (fun h115 => ?_)
    exact ic (t_p (pc' := 14) (ls' := [some (.ref 166), some (.int v1), some (.int v2), some (.int v3), some (.long v4), none, some (.int v6), some (.int v7), some (.int v8), some (.int v9)]) (st' := []) 1 rfl) id
