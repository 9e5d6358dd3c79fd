/-! loops, from cut to cut (printed by gen8.py) -/
theorem e_JA_fill {X : pm_X} {d : Nat} {I : st_I} {J : st_J} {p0 : Nat} (g0 : st_aJ p0 = some 64) {p1 : Int64} (r : pm_R) : Ex X (d + 1) 15 [.ref p0, .long p1] (st_h I J) r ↔ Gx X d (kc_JA_fill, []) (6, [some (.ref p0), some (.long p1), none, some (.int (0 : Int32)), some (.int (64 : Int32))], [], st_h I J, 0, 0) r := by
  refine (Ex_iff (M := (kc_JA_fill, [])) (n := 5) rfl rfl).trans ?_
  refine (t_p (pc' := 3) (ls' := [some (.ref p0), some (.long p1), none, some (.int (0 : Int32)), none]) (st' := [.ref p0]) 3 rfl).trans ?_
  refine (t_nJ rfl g0).trans ?_
  exact t_p (pc' := 6) (ls' := [some (.ref p0), some (.long p1), none, some (.int (0 : Int32)), some (.int (64 : Int32))]) (st' := []) 1 rfl
theorem b_JA_fill_6 {X : pm_X} {d : Nat} {I : st_I} {J : st_J} {p0 : Nat} (g0 : st_aJ p0 = some 64) {p1 : Int64} {v3 : Int32} {v4 : Int32} {c k : Nat} (r : pm_R) : Gx X d (kc_JA_fill, []) (6, [some (.ref p0), some (.long p1), none, some (.int v3), some (.int v4)], [], st_h I J, c, k) r ↔ (if v3 < v4 then ((pm_in v3 64) = true ∧ Gx X d (kc_JA_fill, []) (6, [some (.ref p0), some (.long p1), none, some (.int (v3 + (1 : Int32))), some (.int v4)], [], st_h I (st_y J p0 (Int32.toNatClampNeg v3) p1), c, k) r) else r = (.inl none, st_h I J, c, k)) := by
  refine (t_p (pc' := 9) (ls' := [some (.ref p0), some (.long p1), none, some (.int v3), some (.int v4)]) (st' := [.int v4, .int v3]) 2 rfl).trans ?_
  refine cg (t_ige rfl) ?_ ?_
  · refine (t_p (pc' := 15) (ls' := [some (.ref p0), some (.long p1), none, some (.int v3), some (.int v4)]) (st' := [.long p1, .int v3, .ref p0]) 3 rfl).trans ?_
    refine t_an (t_sJ rfl g0) (fun h3 => ?_)
    exact t_p (pc' := 6) (ls' := [some (.ref p0), some (.long p1), none, some (.int (v3 + (1 : Int32))), some (.int v4)]) (st' := []) 2 rfl
  · exact t_rV rfl
theorem e_Me_firstWithRoom {X : pm_X} {d : Nat} {I : st_I} {J : st_J} {p1 : Int32} (r : pm_R) : Ex X (d + 2) 104 [.ref 1, .int p1] (st_h I J) r ↔ Gx X (d + 1) (kc_Me_firstWithRoom, []) (2, [some (.ref 1), some (.int p1), some (.int (0 : Int32))], [], st_h I J, 0, 0) r := by
  refine (Ex_iff (M := (kc_Me_firstWithRoom, [])) (n := 3) rfl rfl).trans ?_
  exact t_p (pc' := 2) (ls' := [some (.ref 1), some (.int p1), some (.int (0 : Int32))]) (st' := []) 2 rfl
theorem b_Me_firstWithRoom_2 {X : pm_X} {d : Nat} {I : st_I} {J : st_J} {p1 : Int32} {v2 : Int32} {c k : Nat} (r : pm_R) : Gx X (d + 1) (kc_Me_firstWithRoom, []) (2, [some (.ref 1), some (.int p1), some (.int v2)], [], st_h I J, c, k) r ↔ (if v2 < (I 1 2) then ((pm_in v2 4) = true ∧ (if ((I 1 3) - (I 7 (Int32.toNatClampNeg v2))) < p1 then Gx X (d + 1) (kc_Me_firstWithRoom, []) (2, [some (.ref 1), some (.int p1), some (.int (v2 + (1 : Int32)))], [], st_h I J, c, k) r else r = (.inl (some (.int v2)), st_h I J, c, k))) else r = (.inl (some (.int (-1 : Int32))), st_h I J, c, k)) := by
  refine (t_p (pc' := 4) (ls' := [some (.ref 1), some (.int p1), some (.int v2)]) (st' := [.ref 1, .int v2]) 2 rfl).trans ?_
  refine (t_gI rfl rfl).trans ?_
  refine cg (t_ige rfl) ?_ ?_
  · refine (t_p (pc' := 13) (ls' := [some (.ref 1), some (.int p1), some (.int v2)]) (st' := [.int p1, .int v2, .ref 1]) 3 rfl).trans ?_
    refine (t_cW rfl rfl rfl rfl (fun q => ev_Me_hasRoom (d := d)  q)).trans ?_
    refine t_an (ex_a) (fun h2 => ?_)
    refine (ex_q).trans ?_
    refine cg (cgN (t_beq rfl)) ?_ ?_
    · exact t_p (pc' := 2) (ls' := [some (.ref 1), some (.int p1), some (.int (v2 + (1 : Int32)))]) (st' := []) 2 rfl
    · refine (t_p (pc' := 20) (ls' := [some (.ref 1), some (.int p1), some (.int v2)]) (st' := [.int v2]) 1 rfl).trans ?_
      exact t_rI rfl
  · refine (t_p (pc' := 28) (ls' := [some (.ref 1), some (.int p1), some (.int v2)]) (st' := [.int (-1 : Int32)]) 1 rfl).trans ?_
    exact t_rI rfl
theorem e_Fr_addOctets {X : pm_X} {d : Nat} {I : st_I} {J : st_J} {p0 : Nat} (g0 : st_isO p0 = true) {p1 : Int64} {p2 : Int32} (r : pm_R) : Ex X (d + 3) 133 [.ref p0, .long p1, .int p2] (st_h I J) r ↔ Gx X (d + 2) (kc_Fr_addOctets, []) (3, [some (.ref p0), some (.long p1), none, some (.int p2), some (.int (0 : Int32))], [], st_h I J, 0, 0) r := by
  refine (Ex_iff (M := (kc_Fr_addOctets, [])) (n := 5) rfl rfl).trans ?_
  exact t_p (pc' := 3) (ls' := [some (.ref p0), some (.long p1), none, some (.int p2), some (.int (0 : Int32))]) (st' := []) 2 rfl
theorem b_Fr_addOctets_3 {X : pm_X} {d : Nat} {I : st_I} {J : st_J} {p0 : Nat} (g0 : st_isO p0 = true) {p1 : Int64} {p2 : Int32} {v4 : Int32} {c k : Nat} (r : pm_R) : Gx X (d + 2) (kc_Fr_addOctets, []) (3, [some (.ref p0), some (.long p1), none, some (.int p2), some (.int v4)], [], st_h I J, c, k) r ↔ (if v4 < (8 : Int32) then (if ((ir p2 v4) &&& (1 : Int32)) = (0 : Int32) then Gx X (d + 2) (kc_Fr_addOctets, []) (3, [some (.ref p0), some (.long p1), none, some (.int p2), some (.int (v4 + (1 : Int32)))], [], st_h I J, c, k) r else (if (I p0 1) < (1500 : Int32) then ((pm_in (I p0 1) 1500) = true ∧ Gx X (d + 2) (kc_Fr_addOctets, []) (3, [some (.ref p0), some (.long p1), none, some (.int p2), some (.int (v4 + (1 : Int32)))], [], st_h (st_w (st_w I (p0 + 1) (Int32.toNatClampNeg (I p0 1)) (vp_nar .byte (Int8.toInt32 (Int32.toInt8 ((Int64.toInt32 (ju p1 ((8 : Int32) * v4))) &&& (255 : Int32)))))) p0 1 (((st_w I (p0 + 1) (Int32.toNatClampNeg (I p0 1)) (vp_nar .byte (Int8.toInt32 (Int32.toInt8 ((Int64.toInt32 (ju p1 ((8 : Int32) * v4))) &&& (255 : Int32)))))) p0 1) + (1 : Int32))) J, c, k) r) else r = (.inr 3, st_h I J, c + 1, k + 6))) else r = (.inl none, st_h I J, c, k)) := by
  refine (t_p (pc' := 7) (ls' := [some (.ref p0), some (.long p1), none, some (.int p2), some (.int v4)]) (st' := [.int (8 : Int32), .int v4]) 2 rfl).trans ?_
  refine cg (t_ige rfl) ?_ ?_
  · refine (t_p (pc' := 16) (ls' := [some (.ref p0), some (.long p1), none, some (.int p2), some (.int v4)]) (st' := [.int ((ir p2 v4) &&& (1 : Int32))]) 5 rfl).trans ?_
    refine cg (t_feq rfl) ?_ ?_
    · exact t_p (pc' := 3) (ls' := [some (.ref p0), some (.long p1), none, some (.int p2), some (.int (v4 + (1 : Int32)))]) (st' := []) 2 rfl
    · refine (t_p (pc' := 23) (ls' := [some (.ref p0), some (.long p1), none, some (.int p2), some (.int v4)]) (st' := [.int v4, .long p1, .ref p0]) 3 rfl).trans ?_
      refine (t_cQ rfl rfl rfl (fun q => ev_D_octetOf (d := d + 1)  q)).trans ?_
      refine (ex_q).trans ?_
      refine (t_cW rfl rfl rfl (clO g0) (fun q => ev_Oc_add (d := d) g0 q)).trans ?_
      refine cg (ex_i) ?_ ?_
      · refine t_an (ex_a) (fun h11 => ?_)
        refine (ex_q).trans ?_
        exact t_p (pc' := 3) (ls' := [some (.ref p0), some (.long p1), none, some (.int p2), some (.int (v4 + (1 : Int32)))]) (st' := []) 2 rfl
      · exact ex_x
  · exact t_rV rfl
theorem e_Fr_zeroRun {X : pm_X} {d : Nat} {I : st_I} {J : st_J} {p1 : Int32} (r : pm_R) : Ex X (d + 1) 134 [.ref 10, .int p1] (st_h I J) r ↔ Gx X d (kc_Fr_zeroRun, []) (2, [some (.ref 10), some (.int p1), some (.int (0 : Int32))], [], st_h I J, 0, 0) r := by
  refine (Ex_iff (M := (kc_Fr_zeroRun, [])) (n := 3) rfl rfl).trans ?_
  exact t_p (pc' := 2) (ls' := [some (.ref 10), some (.int p1), some (.int (0 : Int32))]) (st' := []) 2 rfl
theorem b_Fr_zeroRun_2 {X : pm_X} {d : Nat} {I : st_I} {J : st_J} {p1 : Int32} {v2 : Int32} {c k : Nat} (r : pm_R) : Gx X d (kc_Fr_zeroRun, []) (2, [some (.ref 10), some (.int p1), some (.int v2)], [], st_h I J, c, k) r ↔ (if v2 < (255 : Int32) then (if (p1 + v2) < (I 10 1) then ((pm_in (p1 + v2) 259) = true ∧ (if (J 11 (Int32.toNatClampNeg (p1 + v2))) = (0 : Int64) then Gx X d (kc_Fr_zeroRun, []) (2, [some (.ref 10), some (.int p1), some (.int (v2 + (1 : Int32)))], [], st_h I J, c, k) r else r = (.inl (some (.int v2)), st_h I J, c, k))) else r = (.inl (some (.int v2)), st_h I J, c, k)) else r = (.inl (some (.int v2)), st_h I J, c, k)) := by
  refine (t_p (pc' := 6) (ls' := [some (.ref 10), some (.int p1), some (.int v2)]) (st' := [.int (255 : Int32), .int v2]) 2 rfl).trans ?_
  refine cg (t_ige rfl) ?_ ?_
  · refine (t_p (pc' := 13) (ls' := [some (.ref 10), some (.int p1), some (.int v2)]) (st' := [.ref 10, .int (p1 + v2)]) 4 rfl).trans ?_
    refine (t_gI rfl rfl).trans ?_
    refine cg (t_ige rfl) ?_ ?_
    · refine (t_p (pc' := 20) (ls' := [some (.ref 10), some (.int p1), some (.int v2)]) (st' := [.ref 10]) 1 rfl).trans ?_
      refine (t_gR rfl rfl).trans ?_
      refine (t_p (pc' := 26) (ls' := [some (.ref 10), some (.int p1), some (.int v2)]) (st' := [.int (p1 + v2), .ref 11]) 3 rfl).trans ?_
      refine t_an (t_lJ rfl rfl) (fun h10 => ?_)
      refine (t_p (pc' := 29) (ls' := [some (.ref 10), some (.int p1), some (.int v2)]) (st' := [.int (lg_cmp (J 11 (Int32.toNatClampNeg (p1 + v2))) (0 : Int64))]) 2 rfl).trans ?_
      refine cg (t_Lne rfl) ?_ ?_
      · exact t_p (pc' := 2) (ls' := [some (.ref 10), some (.int p1), some (.int (v2 + (1 : Int32)))]) (st' := []) 2 rfl
      · refine (t_p (pc' := 39) (ls' := [some (.ref 10), some (.int p1), some (.int v2)]) (st' := [.int v2]) 1 rfl).trans ?_
        exact t_rI rfl
    · refine (t_p (pc' := 39) (ls' := [some (.ref 10), some (.int p1), some (.int v2)]) (st' := [.int v2]) 1 rfl).trans ?_
      exact t_rI rfl
  · refine (t_p (pc' := 39) (ls' := [some (.ref 10), some (.int p1), some (.int v2)]) (st' := [.int v2]) 1 rfl).trans ?_
    exact t_rI rfl
theorem e_D_feed {X : pm_X} {d : Nat} {I : st_I} {J : st_J} {p1 : Int64} {p2 : Int32} (r : pm_R) : Ex X (d + 3) 140 [.ref 0, .long p1, .int p2] (st_h I J) r ↔ (if (p2 < (1 : Int32)) ∨ ((8 : Int32) < p2) then r = (.inr 1, st_h I J, 1, 6) else (if (1500 : Int32) < ((I (st_o (I 0 6)) 1) + p2) then r = (.inr 3, st_h I J, 1, 6) else Gx X (d + 2) (kc_D_feed, []) (45, [some (.ref 0), some (.long p1), none, some (.int p2), some (.int (0 : Int32))], [], st_h I J, 0, 0) r)) := by
  refine (Ex_iff (M := (kc_D_feed, [])) (n := 5) rfl rfl).trans ?_
  refine (t_p (pc' := 2) (ls' := [some (.ref 0), some (.long p1), none, some (.int p2), none]) (st' := [.int (1 : Int32), .int p2]) 2 rfl).trans ?_
  refine (mgI (t_ilt rfl) bj_1b (t_p (pc' := 16) (ls' := [some (.ref 0), some (.long p1), none, some (.int p2), none]) (st' := [.int (1 : Int32)]) 2 rfl) ((t_p (pc' := 8) (ls' := [some (.ref 0), some (.long p1), none, some (.int p2), none]) (st' := [.int (8 : Int32), .int p2]) 2 rfl).trans (mgI (t_ile rfl) bj_10 (t_p (pc' := 16) (ls' := [some (.ref 0), some (.long p1), none, some (.int p2), none]) (st' := [.int (1 : Int32)]) 2 rfl) (t_p (pc' := 16) (ls' := [some (.ref 0), some (.long p1), none, some (.int p2), none]) (st' := [.int (0 : Int32)]) 1 rfl)))).trans ?_
  refine (t_cQ rfl rfl rfl (fun q => ev_D_badIf (d := d + 1)  q)).trans ?_
  refine cg (cgB (ex_i)) ?_ ?_
  · exact ex_x
  · refine (ex_q).trans ?_
    refine (t_p (pc' := 20) (ls' := [some (.ref 0), some (.long p1), none, some (.int p2), none]) (st' := [.ref 0]) 1 rfl).trans ?_
    refine (t_g6 rfl).trans ?_
    refine (t_gI rfl (sfO (st_o_is _))).trans ?_
    refine (t_p (pc' := 31) (ls' := [some (.ref 0), some (.long p1), none, some (.int p2), none]) (st' := [.int (1500 : Int32), .int ((I (st_o (I 0 6)) 1) + p2)]) 3 rfl).trans ?_
    refine (mgI (t_ile rfl) bj_10 (t_p (pc' := 39) (ls' := [some (.ref 0), some (.long p1), none, some (.int p2), none]) (st' := [.int (1 : Int32)]) 2 rfl) (t_p (pc' := 39) (ls' := [some (.ref 0), some (.long p1), none, some (.int p2), none]) (st' := [.int (0 : Int32)]) 1 rfl)).trans ?_
    refine (t_cQ rfl rfl rfl (fun q => ev_D_noRoomIf (d := d + 1)  q)).trans ?_
    refine cg (cgB (ex_i)) ?_ ?_
    · exact ex_x
    · refine (ex_q).trans ?_
      exact t_p (pc' := 45) (ls' := [some (.ref 0), some (.long p1), none, some (.int p2), some (.int (0 : Int32))]) (st' := []) 2 rfl
theorem b_D_feed_45 {X : pm_X} {d : Nat} {I : st_I} {J : st_J} {p1 : Int64} {p2 : Int32} {v4 : Int32} {c k : Nat} (r : pm_R) : Gx X (d + 2) (kc_D_feed, []) (45, [some (.ref 0), some (.long p1), none, some (.int p2), some (.int v4)], [], st_h I J, c, k) r ↔ (if v4 < p2 then (if (I (st_o (I 0 6)) 1) < (1500 : Int32) then ((pm_in (I (st_o (I 0 6)) 1) 1500) = true ∧ Gx X (d + 2) (kc_D_feed, []) (45, [some (.ref 0), some (.long p1), none, some (.int p2), some (.int (v4 + (1 : Int32)))], [], st_h (st_w (st_w I ((st_o (I 0 6)) + 1) (Int32.toNatClampNeg (I (st_o (I 0 6)) 1)) (vp_nar .byte (Int8.toInt32 (Int32.toInt8 ((Int64.toInt32 (ju p1 ((8 : Int32) * v4))) &&& (255 : Int32)))))) (st_o (I 0 6)) 1 (((st_w I ((st_o (I 0 6)) + 1) (Int32.toNatClampNeg (I (st_o (I 0 6)) 1)) (vp_nar .byte (Int8.toInt32 (Int32.toInt8 ((Int64.toInt32 (ju p1 ((8 : Int32) * v4))) &&& (255 : Int32)))))) (st_o (I 0 6)) 1) + (1 : Int32))) J, c, k) r) else r = (.inr 3, st_h I J, c + 1, k + 6)) else r = (.inl (some (.int (I (st_o (I 0 6)) 1))), st_h I J, c, k)) := by
  refine (t_p (pc' := 48) (ls' := [some (.ref 0), some (.long p1), none, some (.int p2), some (.int v4)]) (st' := [.int p2, .int v4]) 2 rfl).trans ?_
  refine cg (t_ige rfl) ?_ ?_
  · refine (t_p (pc' := 52) (ls' := [some (.ref 0), some (.long p1), none, some (.int p2), some (.int v4)]) (st' := [.ref 0]) 1 rfl).trans ?_
    refine (t_g6 rfl).trans ?_
    refine (t_p (pc' := 58) (ls' := [some (.ref 0), some (.long p1), none, some (.int p2), some (.int v4)]) (st' := [.int v4, .long p1, .ref (st_o (I 0 6))]) 2 rfl).trans ?_
    refine (t_cQ rfl rfl rfl (fun q => ev_D_octetOf (d := d + 1)  q)).trans ?_
    refine (ex_q).trans ?_
    refine (t_cW rfl rfl rfl (clO (st_o_is _)) (fun q => ev_Oc_add (d := d) (st_o_is _) q)).trans ?_
    refine cg (ex_i) ?_ ?_
    · refine t_an (ex_a) (fun h5 => ?_)
      refine (ex_q).trans ?_
      exact t_p (pc' := 45) (ls' := [some (.ref 0), some (.long p1), none, some (.int p2), some (.int (v4 + (1 : Int32)))]) (st' := []) 2 rfl
    · exact ex_x
  · refine (t_p (pc' := 71) (ls' := [some (.ref 0), some (.long p1), none, some (.int p2), some (.int v4)]) (st' := [.ref 0]) 1 rfl).trans ?_
    refine (t_g6 rfl).trans ?_
    refine (t_gI rfl (sfO (st_o_is _))).trans ?_
    exact t_rI rfl
theorem e_Fr_nextGroup {X : pm_X} {d : Nat} {I : st_I} {J : st_J} {p1 : Nat} (g1 : st_isO p1 = true) {p2 : Int32} (r : pm_R) : Ex X (d + 3) 145 [.ref 10, .ref p1, .int p2] (st_h I J) r ↔ Gx X (d + 2) (kc_Fr_nextGroup, []) (5, [some (.ref 10), some (.ref p1), some (.int p2), some (.long (0 : Int64)), none, some (.int (0 : Int32))], [], st_h I J, 0, 0) r := by
  refine (Ex_iff (M := (kc_Fr_nextGroup, [])) (n := 6) rfl rfl).trans ?_
  exact t_p (pc' := 5) (ls' := [some (.ref 10), some (.ref p1), some (.int p2), some (.long (0 : Int64)), none, some (.int (0 : Int32))]) (st' := []) 4 rfl
theorem b_Fr_nextGroup_5 {X : pm_X} {d : Nat} {I : st_I} {J : st_J} {p1 : Nat} (g1 : st_isO p1 = true) {p2 : Int32} {v3 : Int64} {v5 : Int32} {c k : Nat} (r : pm_R) : Gx X (d + 2) (kc_Fr_nextGroup, []) (5, [some (.ref 10), some (.ref p1), some (.int p2), some (.long v3), none, some (.int v5)], [], st_h I J, c, k) r ↔ (if v5 < (8 : Int32) then (if ((ir p2 v5) &&& (1 : Int32)) = (0 : Int32) then Gx X (d + 2) (kc_Fr_nextGroup, []) (5, [some (.ref 10), some (.ref p1), some (.int p2), some (.long v3), none, some (.int (v5 + (1 : Int32)))], [], st_h I J, c, k) r else (if (I 10 2) < (I p1 1) then ((pm_in (((I 10 2) + (1 : Int32)) - (1 : Int32)) 1500) = true ∧ Gx X (d + 2) (kc_Fr_nextGroup, []) (5, [some (.ref 10), some (.ref p1), some (.int p2), some (.long (v3 ||| (jl (Int32.toInt64 (((st_w I 10 2 ((I 10 2) + (1 : Int32))) (p1 + 1) (Int32.toNatClampNeg (((I 10 2) + (1 : Int32)) - (1 : Int32)))) &&& (255 : Int32))) ((8 : Int32) * v5)))), none, some (.int (v5 + (1 : Int32)))], [], st_h (st_w I 10 2 ((I 10 2) + (1 : Int32))) J, c, k) r) else r = (.inr 2, st_h I J, c + 1, k + 6))) else r = (.inl (some (.long v3)), st_h I J, c, k)) := by
  refine (t_p (pc' := 9) (ls' := [some (.ref 10), some (.ref p1), some (.int p2), some (.long v3), none, some (.int v5)]) (st' := [.int (8 : Int32), .int v5]) 2 rfl).trans ?_
  refine cg (t_ige rfl) ?_ ?_
  · refine (t_p (pc' := 18) (ls' := [some (.ref 10), some (.ref p1), some (.int p2), some (.long v3), none, some (.int v5)]) (st' := [.int ((ir p2 v5) &&& (1 : Int32))]) 5 rfl).trans ?_
    refine cg (t_feq rfl) ?_ ?_
    · exact t_p (pc' := 5) (ls' := [some (.ref 10), some (.ref p1), some (.int p2), some (.long v3), none, some (.int (v5 + (1 : Int32)))]) (st' := []) 2 rfl
    · refine (t_p (pc' := 24) (ls' := [some (.ref 10), some (.ref p1), some (.int p2), some (.long v3), none, some (.int v5)]) (st' := [.ref p1, .ref 10, .long v3]) 3 rfl).trans ?_
      refine (t_cW rfl rfl rfl rfl (fun q => ev_Fr_nextOctet (d := d) g1 q)).trans ?_
      refine cg (ex_i) ?_ ?_
      · refine t_an (ex_a) (fun h11 => ?_)
        refine (ex_q).trans ?_
        exact t_p (pc' := 5) (ls' := [some (.ref 10), some (.ref p1), some (.int p2), some (.long (v3 ||| (jl (Int32.toInt64 (((st_w I 10 2 ((I 10 2) + (1 : Int32))) (p1 + 1) (Int32.toNatClampNeg (((I 10 2) + (1 : Int32)) - (1 : Int32)))) &&& (255 : Int32))) ((8 : Int32) * v5)))), none, some (.int (v5 + (1 : Int32)))]) (st' := []) 9 rfl
      · exact ex_x
  · refine (t_p (pc' := 43) (ls' := [some (.ref 10), some (.ref p1), some (.int p2), some (.long v3), none, some (.int v5)]) (st' := [.long v3]) 1 rfl).trans ?_
    exact t_rJ rfl
theorem e_Le_needed {X : pm_X} {d : Nat} {I : st_I} {J : st_J} {p0 : Nat} (g0 : st_aJ p0 = some 64) {p1 : Int32} {p2 : Int32} (r : pm_R) : Ex X (d + 1) 159 [.ref p0, .int p1, .int p2] (st_h I J) r ↔ Gx X d (kc_Le_needed, []) (2, [some (.ref p0), some (.int p1), some (.int p2), some (.int p2)], [], st_h I J, 0, 0) r := by
  refine (Ex_iff (M := (kc_Le_needed, [])) (n := 4) rfl rfl).trans ?_
  exact t_p (pc' := 2) (ls' := [some (.ref p0), some (.int p1), some (.int p2), some (.int p2)]) (st' := []) 2 rfl
theorem b_Le_needed_2 {X : pm_X} {d : Nat} {I : st_I} {J : st_J} {p0 : Nat} (g0 : st_aJ p0 = some 64) {p1 : Int32} {p2 : Int32} {v3 : Int32} {c k : Nat} (r : pm_R) : Gx X d (kc_Le_needed, []) (2, [some (.ref p0), some (.int p1), some (.int p2), some (.int v3)], [], st_h I J, c, k) r ↔ (if (0 : Int32) < v3 then ((pm_in ((p1 + v3) - (1 : Int32)) 64) = true ∧ (if (J p0 (Int32.toNatClampNeg ((p1 + v3) - (1 : Int32)))) = (0 : Int64) then Gx X d (kc_Le_needed, []) (2, [some (.ref p0), some (.int p1), some (.int p2), some (.int (v3 + (-1 : Int32)))], [], st_h I J, c, k) r else r = (.inl (some (.int v3)), st_h I J, c, k))) else r = (.inl (some (.int v3)), st_h I J, c, k)) := by
  refine (t_p (pc' := 3) (ls' := [some (.ref p0), some (.int p1), some (.int p2), some (.int v3)]) (st' := [.int v3]) 1 rfl).trans ?_
  refine cg (t_fle rfl) ?_ ?_
  · refine (t_p (pc' := 12) (ls' := [some (.ref p0), some (.int p1), some (.int p2), some (.int v3)]) (st' := [.int ((p1 + v3) - (1 : Int32)), .ref p0]) 6 rfl).trans ?_
    refine t_an (t_lJ rfl g0) (fun h4 => ?_)
    refine (t_p (pc' := 15) (ls' := [some (.ref p0), some (.int p1), some (.int p2), some (.int v3)]) (st' := [.int (lg_cmp (J p0 (Int32.toNatClampNeg ((p1 + v3) - (1 : Int32)))) (0 : Int64))]) 2 rfl).trans ?_
    refine cg (t_Lne rfl) ?_ ?_
    · exact t_p (pc' := 2) (ls' := [some (.ref p0), some (.int p1), some (.int p2), some (.int (v3 + (-1 : Int32)))]) (st' := []) 2 rfl
    · refine (t_p (pc' := 25) (ls' := [some (.ref p0), some (.int p1), some (.int p2), some (.int v3)]) (st' := [.int v3]) 1 rfl).trans ?_
      exact t_rI rfl
  · refine (t_p (pc' := 25) (ls' := [some (.ref p0), some (.int p1), some (.int p2), some (.int v3)]) (st' := [.int v3]) 1 rfl).trans ?_
    exact t_rI rfl
theorem e_M_lay {X : pm_X} {d : Nat} {I : st_I} {J : st_J} {p1 : Int32} {p2 : Int32} (r : pm_R) : Ex X (d + 1) 173 [.ref 166, .int p1, .int p2] (st_h I J) r ↔ ((pm_in p1 4) = true ∧ Gx X d (kc_M_lay, []) (9, [some (.ref 166), some (.int p1), some (.int p2), some (.int (0 : Int32))], [], st_h (st_w I 170 (Int32.toNatClampNeg p1) p2) J, 0, 0) r) := by
  refine (Ex_iff (M := (kc_M_lay, [])) (n := 4) rfl rfl).trans ?_
  refine (t_p (pc' := 1) (ls' := [some (.ref 166), some (.int p1), some (.int p2), none]) (st' := [.ref 166]) 1 rfl).trans ?_
  refine (t_gR rfl rfl).trans ?_
  refine (t_p (pc' := 6) (ls' := [some (.ref 166), some (.int p1), some (.int p2), none]) (st' := [.int p2, .int p1, .ref 170]) 2 rfl).trans ?_
  refine t_an (t_sI rfl rfl) (fun h1 => ?_)
  exact t_p (pc' := 9) (ls' := [some (.ref 166), some (.int p1), some (.int p2), some (.int (0 : Int32))]) (st' := []) 2 rfl
theorem b_M_lay_9 {X : pm_X} {d : Nat} {I : st_I} {J : st_J} {p1 : Int32} {p2 : Int32} {v3 : Int32} {c k : Nat} (r : pm_R) : Gx X d (kc_M_lay, []) (9, [some (.ref 166), some (.int p1), some (.int p2), some (.int v3)], [], st_h I J, c, k) r ↔ (if v3 < (64 : Int32) then ((pm_in (((64 : Int32) * p1) + v3) 256) = true ∧ Gx X d (kc_M_lay, []) (9, [some (.ref 166), some (.int p1), some (.int p2), some (.int (v3 + (1 : Int32)))], [], st_h I (st_y J 167 (Int32.toNatClampNeg (((64 : Int32) * p1) + v3)) (0 : Int64)), c, k) r) else r = (.inl none, st_h I J, c, k)) := by
  refine (t_p (pc' := 12) (ls' := [some (.ref 166), some (.int p1), some (.int p2), some (.int v3)]) (st' := [.int (64 : Int32), .int v3]) 2 rfl).trans ?_
  refine cg (t_ige rfl) ?_ ?_
  · refine (t_p (pc' := 16) (ls' := [some (.ref 166), some (.int p1), some (.int p2), some (.int v3)]) (st' := [.ref 166]) 1 rfl).trans ?_
    refine (t_gR rfl rfl).trans ?_
    refine (t_p (pc' := 26) (ls' := [some (.ref 166), some (.int p1), some (.int p2), some (.int v3)]) (st' := [.long (0 : Int64), .int (((64 : Int32) * p1) + v3), .ref 167]) 6 rfl).trans ?_
    refine t_an (t_sJ rfl rfl) (fun h3 => ?_)
    exact t_p (pc' := 9) (ls' := [some (.ref 166), some (.int p1), some (.int p2), some (.int (v3 + (1 : Int32)))]) (st' := []) 2 rfl
  · exact t_rV rfl
theorem e_M_realOf {X : pm_X} {d : Nat} {I : st_I} {J : st_J} {p0 : Int64} {p1 : Int32} {p2 : Int32} (r : pm_R) : Ex X (d + 1) 203 [.long p0, .int p1, .int p2] (st_h I J) r ↔ Gx X d (kc_M_realOf, []) (66, [some (.long p0), none, some (.int p1), some (.int p2), some (.long (p0 &&& ((jl (1 : Int64) p1) - (1 : Int64)))), none, some (.int ((Int64.toInt32 (ju p0 p1)) &&& ((il (1 : Int32) p2) - (1 : Int32)))), some (.double (FP.l2d (if ((Int64.toInt32 (ju p0 p1)) &&& ((il (1 : Int32) p2) - (1 : Int32))) = (0 : Int32) then (p0 &&& ((jl (1 : Int64) p1) - (1 : Int64))) else ((p0 &&& ((jl (1 : Int64) p1) - (1 : Int64))) ||| (jl (1 : Int64) p1))))), none, some (.int ((((if ((Int64.toInt32 (ju p0 p1)) &&& ((il (1 : Int32) p2) - (1 : Int32))) = (0 : Int32) then (1 : Int32) else ((Int64.toInt32 (ju p0 p1)) &&& ((il (1 : Int32) p2) - (1 : Int32)))) - (il (1 : Int32) (p2 - (1 : Int32)))) + (1 : Int32)) - p1)), some (.int (0 : Int32))], [], st_h I J, 0, 0) r := by
  refine (Ex_iff (M := (kc_M_realOf, [])) (n := 11) rfl rfl).trans ?_
  refine (t_p (pc' := 23) (ls' := [some (.long p0), none, some (.int p1), some (.int p2), some (.long (p0 &&& ((jl (1 : Int64) p1) - (1 : Int64)))), none, some (.int ((Int64.toInt32 (ju p0 p1)) &&& ((il (1 : Int32) p2) - (1 : Int32)))), none, none, none, none]) (st' := [.int ((Int64.toInt32 (ju p0 p1)) &&& ((il (1 : Int32) p2) - (1 : Int32)))]) 20 rfl).trans ?_
  refine (mgJ (t_fne rfl) (t_p (pc' := 37) (ls' := [some (.long p0), none, some (.int p1), some (.int p2), some (.long (p0 &&& ((jl (1 : Int64) p1) - (1 : Int64)))), none, some (.int ((Int64.toInt32 (ju p0 p1)) &&& ((il (1 : Int32) p2) - (1 : Int32)))), none, none, none, none]) (st' := [.long (p0 &&& ((jl (1 : Int64) p1) - (1 : Int64)))]) 2 rfl) (t_p (pc' := 37) (ls' := [some (.long p0), none, some (.int p1), some (.int p2), some (.long (p0 &&& ((jl (1 : Int64) p1) - (1 : Int64)))), none, some (.int ((Int64.toInt32 (ju p0 p1)) &&& ((il (1 : Int32) p2) - (1 : Int32)))), none, none, none, none]) (st' := [.long ((p0 &&& ((jl (1 : Int64) p1) - (1 : Int64))) ||| (jl (1 : Int64) p1))]) 5 rfl)).trans ?_
  refine (t_p (pc' := 42) (ls' := [some (.long p0), none, some (.int p1), some (.int p2), some (.long (p0 &&& ((jl (1 : Int64) p1) - (1 : Int64)))), none, some (.int ((Int64.toInt32 (ju p0 p1)) &&& ((il (1 : Int32) p2) - (1 : Int32)))), some (.double (FP.l2d (if ((Int64.toInt32 (ju p0 p1)) &&& ((il (1 : Int32) p2) - (1 : Int32))) = (0 : Int32) then (p0 &&& ((jl (1 : Int64) p1) - (1 : Int64))) else ((p0 &&& ((jl (1 : Int64) p1) - (1 : Int64))) ||| (jl (1 : Int64) p1))))), none, none, none]) (st' := [.int ((Int64.toInt32 (ju p0 p1)) &&& ((il (1 : Int32) p2) - (1 : Int32)))]) 3 rfl).trans ?_
  refine (mgI (t_fne rfl) rfl (t_p (pc' := 51) (ls' := [some (.long p0), none, some (.int p1), some (.int p2), some (.long (p0 &&& ((jl (1 : Int64) p1) - (1 : Int64)))), none, some (.int ((Int64.toInt32 (ju p0 p1)) &&& ((il (1 : Int32) p2) - (1 : Int32)))), some (.double (FP.l2d (if ((Int64.toInt32 (ju p0 p1)) &&& ((il (1 : Int32) p2) - (1 : Int32))) = (0 : Int32) then (p0 &&& ((jl (1 : Int64) p1) - (1 : Int64))) else ((p0 &&& ((jl (1 : Int64) p1) - (1 : Int64))) ||| (jl (1 : Int64) p1))))), none, none, none]) (st' := [.int (1 : Int32)]) 2 rfl) (t_p (pc' := 51) (ls' := [some (.long p0), none, some (.int p1), some (.int p2), some (.long (p0 &&& ((jl (1 : Int64) p1) - (1 : Int64)))), none, some (.int ((Int64.toInt32 (ju p0 p1)) &&& ((il (1 : Int32) p2) - (1 : Int32)))), some (.double (FP.l2d (if ((Int64.toInt32 (ju p0 p1)) &&& ((il (1 : Int32) p2) - (1 : Int32))) = (0 : Int32) then (p0 &&& ((jl (1 : Int64) p1) - (1 : Int64))) else ((p0 &&& ((jl (1 : Int64) p1) - (1 : Int64))) ||| (jl (1 : Int64) p1))))), none, none, none]) (st' := [.int ((Int64.toInt32 (ju p0 p1)) &&& ((il (1 : Int32) p2) - (1 : Int32)))]) 1 rfl)).trans ?_
  exact t_p (pc' := 66) (ls' := [some (.long p0), none, some (.int p1), some (.int p2), some (.long (p0 &&& ((jl (1 : Int64) p1) - (1 : Int64)))), none, some (.int ((Int64.toInt32 (ju p0 p1)) &&& ((il (1 : Int32) p2) - (1 : Int32)))), some (.double (FP.l2d (if ((Int64.toInt32 (ju p0 p1)) &&& ((il (1 : Int32) p2) - (1 : Int32))) = (0 : Int32) then (p0 &&& ((jl (1 : Int64) p1) - (1 : Int64))) else ((p0 &&& ((jl (1 : Int64) p1) - (1 : Int64))) ||| (jl (1 : Int64) p1))))), none, some (.int ((((if ((Int64.toInt32 (ju p0 p1)) &&& ((il (1 : Int32) p2) - (1 : Int32))) = (0 : Int32) then (1 : Int32) else ((Int64.toInt32 (ju p0 p1)) &&& ((il (1 : Int32) p2) - (1 : Int32)))) - (il (1 : Int32) (p2 - (1 : Int32)))) + (1 : Int32)) - p1)), some (.int (0 : Int32))]) (st' := []) 13 rfl
theorem b_M_realOf_66 {X : pm_X} {d : Nat} {I : st_I} {J : st_J} {p0 : Int64} {p1 : Int32} {p2 : Int32} {v4 : Int64} {v6 : Int32} {v7 : UInt64} {v9 : Int32} {v10 : Int32} {c k : Nat} (r : pm_R) : Gx X d (kc_M_realOf, []) (66, [some (.long p0), none, some (.int p1), some (.int p2), some (.long v4), none, some (.int v6), some (.double v7), none, some (.int v9), some (.int v10)], [], st_h I J, c, k) r ↔ (if v10 < v9 then ((pm_n64 (FP.dmul v7 (4611686018427387904 : UInt64))) = true ∧ Gx X d (kc_M_realOf, []) (66, [some (.long p0), none, some (.int p1), some (.int p2), some (.long v4), none, some (.int v6), some (.double (FP.dmul v7 (4611686018427387904 : UInt64))), none, some (.int v9), some (.int (v10 + (1 : Int32)))], [], st_h I J, c, k) r) else Gx X d (kc_M_realOf, []) (90, [some (.long p0), none, some (.int p1), some (.int p2), some (.long v4), none, some (.int v6), some (.double v7), none, some (.int v9), some (.int (0 : Int32))], [], st_h I J, c, k) r) := by
  refine (t_p (pc' := 70) (ls' := [some (.long p0), none, some (.int p1), some (.int p2), some (.long v4), none, some (.int v6), some (.double v7), none, some (.int v9), some (.int v10)]) (st' := [.int v9, .int v10]) 2 rfl).trans ?_
  refine cg (t_ige rfl) ?_ ?_
  · refine (t_p (pc' := 78) (ls' := [some (.long p0), none, some (.int p1), some (.int p2), some (.long v4), none, some (.int v6), some (.double v7), none, some (.int v9), some (.int v10)]) (st' := [.double (4611686018427387904 : UInt64), .double v7]) 2 rfl).trans ?_
    refine t_an (t_d2 FP.dmul rfl rfl rfl) (fun h3 => ?_)
    exact t_p (pc' := 66) (ls' := [some (.long p0), none, some (.int p1), some (.int p2), some (.long v4), none, some (.int v6), some (.double (FP.dmul v7 (4611686018427387904 : UInt64))), none, some (.int v9), some (.int (v10 + (1 : Int32)))]) (st' := []) 3 rfl
  · exact t_p (pc' := 90) (ls' := [some (.long p0), none, some (.int p1), some (.int p2), some (.long v4), none, some (.int v6), some (.double v7), none, some (.int v9), some (.int (0 : Int32))]) (st' := []) 2 rfl
theorem b_M_realOf_90 {X : pm_X} {d : Nat} {I : st_I} {J : st_J} {p0 : Int64} {p1 : Int32} {p2 : Int32} {v4 : Int64} {v6 : Int32} {v7 : UInt64} {v9 : Int32} {v10 : Int32} {c k : Nat} (r : pm_R) : Gx X d (kc_M_realOf, []) (90, [some (.long p0), none, some (.int p1), some (.int p2), some (.long v4), none, some (.int v6), some (.double v7), none, some (.int v9), some (.int v10)], [], st_h I J, c, k) r ↔ (if v9 < v10 then ((pm_n64 (FP.ddiv v7 (4611686018427387904 : UInt64))) = true ∧ Gx X d (kc_M_realOf, []) (90, [some (.long p0), none, some (.int p1), some (.int p2), some (.long v4), none, some (.int v6), some (.double (FP.ddiv v7 (4611686018427387904 : UInt64))), none, some (.int v9), some (.int (v10 + (-1 : Int32)))], [], st_h I J, c, k) r) else r = (.inl (some (.double (if ((ju p0 (p1 + p2)) &&& (1 : Int64)) = (1 : Int64) then (FP.dneg v7) else v7))), st_h I J, c, k)) := by
  refine (t_p (pc' := 94) (ls' := [some (.long p0), none, some (.int p1), some (.int p2), some (.long v4), none, some (.int v6), some (.double v7), none, some (.int v9), some (.int v10)]) (st' := [.int v9, .int v10]) 2 rfl).trans ?_
  refine cg (t_ile rfl) ?_ ?_
  · refine (t_p (pc' := 102) (ls' := [some (.long p0), none, some (.int p1), some (.int p2), some (.long v4), none, some (.int v6), some (.double v7), none, some (.int v9), some (.int v10)]) (st' := [.double (4611686018427387904 : UInt64), .double v7]) 2 rfl).trans ?_
    refine t_an (t_d2 FP.ddiv rfl rfl rfl) (fun h3 => ?_)
    exact t_p (pc' := 90) (ls' := [some (.long p0), none, some (.int p1), some (.int p2), some (.long v4), none, some (.int v6), some (.double (FP.ddiv v7 (4611686018427387904 : UInt64))), none, some (.int v9), some (.int (v10 + (-1 : Int32)))]) (st' := []) 3 rfl
  · refine (t_p (pc' := 120) (ls' := [some (.long p0), none, some (.int p1), some (.int p2), some (.long v4), none, some (.int v6), some (.double v7), none, some (.int v9), some (.int v10)]) (st' := [.int (lg_cmp ((ju p0 (p1 + p2)) &&& (1 : Int64)) (1 : Int64))]) 9 rfl).trans ?_
    refine (mgD (t_Lne rfl) (t_p (pc' := 131) (ls' := [some (.long p0), none, some (.int p1), some (.int p2), some (.long v4), none, some (.int v6), some (.double v7), none, some (.int v9), some (.int v10)]) (st' := [.double (FP.dneg v7)]) 3 rfl) (t_p (pc' := 131) (ls' := [some (.long p0), none, some (.int p1), some (.int p2), some (.long v4), none, some (.int v6), some (.double v7), none, some (.int v9), some (.int v10)]) (st' := [.double v7]) 1 rfl)).trans ?_
    exact t_rD rfl
theorem e_M_withLeft {X : pm_X} {d : Nat} {I : st_I} {J : st_J} {p1 : Int32} (r : pm_R) : Ex X (d + 1) 212 [.ref 166, .int p1] (st_h I J) r ↔ Gx X d (kc_M_withLeft, []) (2, [some (.ref 166), some (.int p1), some (.int (0 : Int32))], [], st_h I J, 0, 0) r := by
  refine (Ex_iff (M := (kc_M_withLeft, [])) (n := 3) rfl rfl).trans ?_
  exact t_p (pc' := 2) (ls' := [some (.ref 166), some (.int p1), some (.int (0 : Int32))]) (st' := []) 2 rfl
theorem b_M_withLeft_2 {X : pm_X} {d : Nat} {I : st_I} {J : st_J} {p1 : Int32} {v2 : Int32} {c k : Nat} (r : pm_R) : Gx X d (kc_M_withLeft, []) (2, [some (.ref 166), some (.int p1), some (.int v2)], [], st_h I J, c, k) r ↔ (if v2 < (I 166 6) then ((pm_in v2 4) = true ∧ (if ((I 166 9) - (I 170 (Int32.toNatClampNeg v2))) < p1 then Gx X d (kc_M_withLeft, []) (2, [some (.ref 166), some (.int p1), some (.int (v2 + (1 : Int32)))], [], st_h I J, c, k) r else r = (.inl (some (.int v2)), st_h I J, c, k))) else r = (.inl (some (.int (-1 : Int32))), st_h I J, c, k)) := by
  refine (t_p (pc' := 4) (ls' := [some (.ref 166), some (.int p1), some (.int v2)]) (st' := [.ref 166, .int v2]) 2 rfl).trans ?_
  refine (t_gI rfl rfl).trans ?_
  refine cg (t_ige rfl) ?_ ?_
  · refine (t_p (pc' := 11) (ls' := [some (.ref 166), some (.int p1), some (.int v2)]) (st' := [.ref 166]) 1 rfl).trans ?_
    refine (t_gI rfl rfl).trans ?_
    refine (t_p (pc' := 15) (ls' := [some (.ref 166), some (.int p1), some (.int v2)]) (st' := [.ref 166, .int (I 166 9)]) 1 rfl).trans ?_
    refine (t_gR rfl rfl).trans ?_
    refine (t_p (pc' := 19) (ls' := [some (.ref 166), some (.int p1), some (.int v2)]) (st' := [.int v2, .ref 170, .int (I 166 9)]) 1 rfl).trans ?_
    refine t_an (t_lI rfl rfl) (fun h2 => ?_)
    refine (t_p (pc' := 22) (ls' := [some (.ref 166), some (.int p1), some (.int v2)]) (st' := [.int p1, .int ((I 166 9) - (I 170 (Int32.toNatClampNeg v2)))]) 2 rfl).trans ?_
    refine cg (t_ilt rfl) ?_ ?_
    · exact t_p (pc' := 2) (ls' := [some (.ref 166), some (.int p1), some (.int (v2 + (1 : Int32)))]) (st' := []) 2 rfl
    · refine (t_p (pc' := 26) (ls' := [some (.ref 166), some (.int p1), some (.int v2)]) (st' := [.int v2]) 1 rfl).trans ?_
      exact t_rI rfl
  · refine (t_p (pc' := 34) (ls' := [some (.ref 166), some (.int p1), some (.int v2)]) (st' := [.int (-1 : Int32)]) 1 rfl).trans ?_
    exact t_rI rfl
theorem e_M_bitsOfReal {X : pm_X} {d : Nat} {I : st_I} {J : st_J} {p0 : UInt64} {p1 : Int32} {p2 : Int32} (r : pm_R) : Ex X (d + 1) 219 [.double p0, .int p1, .int p2] (st_h I J) r ↔ (if (Op.cmpValue (FP.dcmp p0 FP.dconst0) .l) = (0 : Int32) then r = (.inl (some (.long (0 : Int64))), st_h I J, 0, 0) else Gx X d (kc_M_bitsOfReal, []) (25, [some (.double p0), none, some (.int p1), some (.int p2), some (.double (if (Op.cmpValue (FP.dcmp p0 FP.dconst0) .g) < (0 : Int32) then (FP.dneg p0) else p0)), none, some (.int (0 : Int32)), none, none], [], st_h I J, 0, 0) r) := by
  refine (Ex_iff (M := (kc_M_bitsOfReal, [])) (n := 9) rfl rfl).trans ?_
  refine (t_p (pc' := 3) (ls' := [some (.double p0), none, some (.int p1), some (.int p2), none, none, none, none, none]) (st' := [.int (Op.cmpValue (FP.dcmp p0 FP.dconst0) .l)]) 3 rfl).trans ?_
  refine cg (t_fne rfl) ?_ ?_
  · refine (t_p (pc' := 7) (ls' := [some (.double p0), none, some (.int p1), some (.int p2), none, none, none, none, none]) (st' := [.long (0 : Int64)]) 1 rfl).trans ?_
    exact t_rJ rfl
  · refine (t_p (pc' := 11) (ls' := [some (.double p0), none, some (.int p1), some (.int p2), none, none, none, none, none]) (st' := [.int (Op.cmpValue (FP.dcmp p0 FP.dconst0) .g)]) 3 rfl).trans ?_
    refine (mgD (t_fge rfl) (t_p (pc' := 20) (ls' := [some (.double p0), none, some (.int p1), some (.int p2), none, none, none, none, none]) (st' := [.double (FP.dneg p0)]) 3 rfl) (t_p (pc' := 20) (ls' := [some (.double p0), none, some (.int p1), some (.int p2), none, none, none, none, none]) (st' := [.double p0]) 1 rfl)).trans ?_
    exact t_p (pc' := 25) (ls' := [some (.double p0), none, some (.int p1), some (.int p2), some (.double (if (Op.cmpValue (FP.dcmp p0 FP.dconst0) .g) < (0 : Int32) then (FP.dneg p0) else p0)), none, some (.int (0 : Int32)), none, none]) (st' := []) 3 rfl
theorem b_M_bitsOfReal_25 {X : pm_X} {d : Nat} {I : st_I} {J : st_J} {p0 : UInt64} {p1 : Int32} {p2 : Int32} {v4 : UInt64} {v6 : Int32} {u7 : Option Value} {u8 : Option Value} {c k : Nat} (r : pm_R) : Gx X d (kc_M_bitsOfReal, []) (25, [some (.double p0), none, some (.int p1), some (.int p2), some (.double v4), none, some (.int v6), u7, u8], [], st_h I J, c, k) r ↔ (if (Op.cmpValue (FP.dcmp v4 (4611686018427387904 : UInt64)) .l) < (0 : Int32) then Gx X d (kc_M_bitsOfReal, []) (48, [some (.double p0), none, some (.int p1), some (.int p2), some (.double v4), none, some (.int v6), u7, u8], [], st_h I J, c, k) r else ((pm_n64 (FP.ddiv v4 (4611686018427387904 : UInt64))) = true ∧ Gx X d (kc_M_bitsOfReal, []) (25, [some (.double p0), none, some (.int p1), some (.int p2), some (.double (FP.ddiv v4 (4611686018427387904 : UInt64))), none, some (.int (v6 + (1 : Int32))), u7, u8], [], st_h I J, c, k) r)) := by
  refine (t_p (pc' := 31) (ls' := [some (.double p0), none, some (.int p1), some (.int p2), some (.double v4), none, some (.int v6), u7, u8]) (st' := [.int (Op.cmpValue (FP.dcmp v4 (4611686018427387904 : UInt64)) .l)]) 3 rfl).trans ?_
  refine cg (t_flt rfl) ?_ ?_
  · exact Iff.rfl
  · refine (t_p (pc' := 39) (ls' := [some (.double p0), none, some (.int p1), some (.int p2), some (.double v4), none, some (.int v6), u7, u8]) (st' := [.double (4611686018427387904 : UInt64), .double v4]) 2 rfl).trans ?_
    refine t_an (t_d2 FP.ddiv rfl rfl rfl) (fun h3 => ?_)
    exact t_p (pc' := 25) (ls' := [some (.double p0), none, some (.int p1), some (.int p2), some (.double (FP.ddiv v4 (4611686018427387904 : UInt64))), none, some (.int (v6 + (1 : Int32))), u7, u8]) (st' := []) 3 rfl
theorem b_M_bitsOfReal_48 {X : pm_X} {d : Nat} {I : st_I} {J : st_J} {p0 : UInt64} {p1 : Int32} {p2 : Int32} {v4 : UInt64} {v6 : Int32} {u7 : Option Value} {u8 : Option Value} {c k : Nat} (r : pm_R) : Gx X d (kc_M_bitsOfReal, []) (48, [some (.double p0), none, some (.int p1), some (.int p2), some (.double v4), none, some (.int v6), u7, u8], [], st_h I J, c, k) r ↔ (if (Op.cmpValue (FP.dcmp v4 FP.dconst1) .g) < (0 : Int32) then ((pm_n64 (FP.dmul v4 (4611686018427387904 : UInt64))) = true ∧ Gx X d (kc_M_bitsOfReal, []) (48, [some (.double p0), none, some (.int p1), some (.int p2), some (.double (FP.dmul v4 (4611686018427387904 : UInt64))), none, some (.int (v6 + (-1 : Int32))), u7, u8], [], st_h I J, c, k) r) else ((pm_n64 (FP.dsub v4 FP.dconst1)) = true ∧ ((pm_n64 (FP.dmul (FP.dsub v4 FP.dconst1) (FP.l2d (jl (1 : Int64) p1)))) = true ∧ r = (.inl (some (.long (((jl (if (Op.cmpValue (FP.dcmp p0 FP.dconst0) .g) < (0 : Int32) then (1 : Int64) else (0 : Int64)) (p1 + p2)) ||| (jl (Int32.toInt64 ((v6 + (il (1 : Int32) (p2 - (1 : Int32)))) - (1 : Int32))) p1)) ||| (FP.d2l (FP.dmul (FP.dsub v4 FP.dconst1) (FP.l2d (jl (1 : Int64) p1))))))), st_h I J, c, k)))) := by
  refine (t_p (pc' := 52) (ls' := [some (.double p0), none, some (.int p1), some (.int p2), some (.double v4), none, some (.int v6), u7, u8]) (st' := [.int (Op.cmpValue (FP.dcmp v4 FP.dconst1) .g)]) 3 rfl).trans ?_
  refine cg (t_fge rfl) ?_ ?_
  · refine (t_p (pc' := 60) (ls' := [some (.double p0), none, some (.int p1), some (.int p2), some (.double v4), none, some (.int v6), u7, u8]) (st' := [.double (4611686018427387904 : UInt64), .double v4]) 2 rfl).trans ?_
    refine t_an (t_d2 FP.dmul rfl rfl rfl) (fun h3 => ?_)
    exact t_p (pc' := 48) (ls' := [some (.double p0), none, some (.int p1), some (.int p2), some (.double (FP.dmul v4 (4611686018427387904 : UInt64))), none, some (.int (v6 + (-1 : Int32))), u7, u8]) (st' := []) 3 rfl
  · refine (t_p (pc' := 72) (ls' := [some (.double p0), none, some (.int p1), some (.int p2), some (.double v4), none, some (.int v6), u7, u8]) (st' := [.double FP.dconst1, .double v4]) 2 rfl).trans ?_
    refine t_an (t_d2 FP.dsub rfl rfl rfl) (fun h4 => ?_)
    refine (t_p (pc' := 77) (ls' := [some (.double p0), none, some (.int p1), some (.int p2), some (.double v4), none, some (.int v6), u7, u8]) (st' := [.double (FP.l2d (jl (1 : Int64) p1)), .double (FP.dsub v4 FP.dconst1)]) 4 rfl).trans ?_
    refine t_an (t_d2 FP.dmul rfl rfl rfl) (fun h5 => ?_)
    refine (t_p (pc' := 84) (ls' := [some (.double p0), none, some (.int p1), some (.int p2), some (.double v4), none, some (.int v6), some (.long (FP.d2l (FP.dmul (FP.dsub v4 FP.dconst1) (FP.l2d (jl (1 : Int64) p1))))), none]) (st' := [.int (Op.cmpValue (FP.dcmp p0 FP.dconst0) .g)]) 5 rfl).trans ?_
    refine (mgJ (t_fge rfl) (t_p (pc' := 92) (ls' := [some (.double p0), none, some (.int p1), some (.int p2), some (.double v4), none, some (.int v6), some (.long (FP.d2l (FP.dmul (FP.dsub v4 FP.dconst1) (FP.l2d (jl (1 : Int64) p1))))), none]) (st' := [.long (1 : Int64)]) 2 rfl) (t_p (pc' := 92) (ls' := [some (.double p0), none, some (.int p1), some (.int p2), some (.double v4), none, some (.int v6), some (.long (FP.d2l (FP.dmul (FP.dsub v4 FP.dconst1) (FP.l2d (jl (1 : Int64) p1))))), none]) (st' := [.long (0 : Int64)]) 1 rfl)).trans ?_
    refine (t_p (pc' := 113) (ls' := [some (.double p0), none, some (.int p1), some (.int p2), some (.double v4), none, some (.int v6), some (.long (FP.d2l (FP.dmul (FP.dsub v4 FP.dconst1) (FP.l2d (jl (1 : Int64) p1))))), none]) (st' := [.long (((jl (if (Op.cmpValue (FP.dcmp p0 FP.dconst0) .g) < (0 : Int32) then (1 : Int64) else (0 : Int64)) (p1 + p2)) ||| (jl (Int32.toInt64 ((v6 + (il (1 : Int32) (p2 - (1 : Int32)))) - (1 : Int32))) p1)) ||| (FP.d2l (FP.dmul (FP.dsub v4 FP.dconst1) (FP.l2d (jl (1 : Int64) p1)))))]) 19 rfl).trans ?_
    exact t_rJ rfl
theorem e_M_framed {X : pm_X} {d : Nat} {I : st_I} {J : st_J}  (r : pm_R) : Ex X (d + 1) 221 [.ref 166] (st_h I J) r ↔ Gx X d (kc_M_framed, []) (13, [some (.ref 166), some (.int (0 : Int32)), some (.long (Int32.toInt64 ((I 166 6) - (1 : Int32)))), none, some (.int (0 : Int32)), none], [], st_h I J, 0, 0) r := by
  refine (Ex_iff (M := (kc_M_framed, [])) (n := 6) rfl rfl).trans ?_
  refine (t_p (pc' := 3) (ls' := [some (.ref 166), some (.int (0 : Int32)), none, none, none, none]) (st' := [.ref 166]) 3 rfl).trans ?_
  refine (t_gI rfl rfl).trans ?_
  exact t_p (pc' := 13) (ls' := [some (.ref 166), some (.int (0 : Int32)), some (.long (Int32.toInt64 ((I 166 6) - (1 : Int32)))), none, some (.int (0 : Int32)), none]) (st' := []) 6 rfl
theorem b_M_framed_13 {X : pm_X} {d : Nat} {I : st_I} {J : st_J}  {v1 : Int32} {v2 : Int64} {v4 : Int32} {u5 : Option Value} {c k : Nat} (r : pm_R) : Gx X d (kc_M_framed, []) (13, [some (.ref 166), some (.int v1), some (.long v2), none, some (.int v4), u5], [], st_h I J, c, k) r ↔ (if v4 < (I 166 6) then (if (irm v4 (2 : Int32)) = (0 : Int32) then ((pm_in v4 4) = true ∧ ((pm_in v1 300) = true ∧ Gx X d (kc_M_framed, []) (13, [some (.ref 166), some (.int (v1 + (1 : Int32))), some (.long (0 : Int64)), none, some (.int (v4 + (1 : Int32))), u5], [], st_h I (st_y J 169 (Int32.toNatClampNeg v1) (v2 ||| (jl (Int32.toInt64 (I 170 (Int32.toNatClampNeg v4))) (32 : Int32)))), c, k) r)) else ((pm_in v4 4) = true ∧ Gx X d (kc_M_framed, []) (13, [some (.ref 166), some (.int v1), some (.long (Int32.toInt64 (I 170 (Int32.toNatClampNeg v4)))), none, some (.int (v4 + (1 : Int32))), u5], [], st_h I J, c, k) r)) else (if (irm (I 166 6) (2 : Int32)) = (0 : Int32) then ((pm_in v1 300) = true ∧ Gx X d (kc_M_framed, []) (93, [some (.ref 166), some (.int (v1 + (1 : Int32))), some (.long v2), none, some (.int (0 : Int32)), u5], [], st_h I (st_y J 169 (Int32.toNatClampNeg v1) v2), c, k) r) else Gx X d (kc_M_framed, []) (93, [some (.ref 166), some (.int v1), some (.long v2), none, some (.int (0 : Int32)), u5], [], st_h I J, c, k) r)) := by
  refine (t_p (pc' := 16) (ls' := [some (.ref 166), some (.int v1), some (.long v2), none, some (.int v4), u5]) (st' := [.ref 166, .int v4]) 2 rfl).trans ?_
  refine (t_gI rfl rfl).trans ?_
  refine cg (t_ige rfl) ?_ ?_
  · refine (t_p (pc' := 26) (ls' := [some (.ref 166), some (.int v1), some (.long v2), none, some (.int v4), u5]) (st' := [.int (irm v4 (2 : Int32))]) 3 rfl).trans ?_
    refine cg (t_fne rfl) ?_ ?_
    · refine (t_p (pc' := 30) (ls' := [some (.ref 166), some (.int v1), some (.long v2), none, some (.int v4), u5]) (st' := [.ref 166]) 1 rfl).trans ?_
      refine (t_gR rfl rfl).trans ?_
      refine (t_p (pc' := 36) (ls' := [some (.ref 166), some (.int v1), some (.long v2), none, some (.int v4), u5]) (st' := [.ref 166, .long v2, .int v1, .ref 169]) 3 rfl).trans ?_
      refine (t_gR rfl rfl).trans ?_
      refine (t_p (pc' := 41) (ls' := [some (.ref 166), some (.int v1), some (.long v2), none, some (.int v4), u5]) (st' := [.int v4, .ref 170, .long v2, .int v1, .ref 169]) 1 rfl).trans ?_
      refine t_an (t_lI rfl rfl) (fun h13 => ?_)
      refine (t_p (pc' := 47) (ls' := [some (.ref 166), some (.int v1), some (.long v2), none, some (.int v4), u5]) (st' := [.long (v2 ||| (jl (Int32.toInt64 (I 170 (Int32.toNatClampNeg v4))) (32 : Int32))), .int v1, .ref 169]) 4 rfl).trans ?_
      refine t_an (t_sJ rfl rfl) (fun h14 => ?_)
      exact t_p (pc' := 13) (ls' := [some (.ref 166), some (.int (v1 + (1 : Int32))), some (.long (0 : Int64)), none, some (.int (v4 + (1 : Int32))), u5]) (st' := []) 6 rfl
    · refine (t_p (pc' := 57) (ls' := [some (.ref 166), some (.int v1), some (.long v2), none, some (.int v4), u5]) (st' := [.ref 166]) 1 rfl).trans ?_
      refine (t_gR rfl rfl).trans ?_
      refine (t_p (pc' := 62) (ls' := [some (.ref 166), some (.int v1), some (.long v2), none, some (.int v4), u5]) (st' := [.int v4, .ref 170]) 1 rfl).trans ?_
      refine t_an (t_lI rfl rfl) (fun h15 => ?_)
      exact t_p (pc' := 13) (ls' := [some (.ref 166), some (.int v1), some (.long (Int32.toInt64 (I 170 (Int32.toNatClampNeg v4)))), none, some (.int (v4 + (1 : Int32))), u5]) (st' := []) 4 rfl
  · refine (t_p (pc' := 72) (ls' := [some (.ref 166), some (.int v1), some (.long v2), none, some (.int v4), u5]) (st' := [.ref 166]) 1 rfl).trans ?_
    refine (t_gI rfl rfl).trans ?_
    refine (t_p (pc' := 77) (ls' := [some (.ref 166), some (.int v1), some (.long v2), none, some (.int v4), u5]) (st' := [.int (irm (I 166 6) (2 : Int32))]) 2 rfl).trans ?_
    refine cg (t_fne rfl) ?_ ?_
    · refine (t_p (pc' := 81) (ls' := [some (.ref 166), some (.int v1), some (.long v2), none, some (.int v4), u5]) (st' := [.ref 166]) 1 rfl).trans ?_
      refine (t_gR rfl rfl).trans ?_
      refine (t_p (pc' := 86) (ls' := [some (.ref 166), some (.int v1), some (.long v2), none, some (.int v4), u5]) (st' := [.long v2, .int v1, .ref 169]) 2 rfl).trans ?_
      refine t_an (t_sJ rfl rfl) (fun h18 => ?_)
      exact t_p (pc' := 93) (ls' := [some (.ref 166), some (.int (v1 + (1 : Int32))), some (.long v2), none, some (.int (0 : Int32)), u5]) (st' := []) 3 rfl
    · exact t_p (pc' := 93) (ls' := [some (.ref 166), some (.int v1), some (.long v2), none, some (.int (0 : Int32)), u5]) (st' := []) 2 rfl
theorem b_M_framed_93 {X : pm_X} {d : Nat} {I : st_I} {J : st_J}  {v1 : Int32} {v2 : Int64} {v4 : Int32} {u5 : Option Value} {c k : Nat} (r : pm_R) : Gx X d (kc_M_framed, []) (93, [some (.ref 166), some (.int v1), some (.long v2), none, some (.int v4), u5], [], st_h I J, c, k) r ↔ (if v4 < (I 166 6) then Gx X d (kc_M_framed, []) (105, [some (.ref 166), some (.int v1), some (.long v2), none, some (.int v4), some (.int (0 : Int32))], [], st_h I J, c, k) r else r = (.inl (some (.int v1)), st_h I J, c, k)) := by
  refine (t_p (pc' := 96) (ls' := [some (.ref 166), some (.int v1), some (.long v2), none, some (.int v4), u5]) (st' := [.ref 166, .int v4]) 2 rfl).trans ?_
  refine (t_gI rfl rfl).trans ?_
  refine cg (t_ige rfl) ?_ ?_
  · exact t_p (pc' := 105) (ls' := [some (.ref 166), some (.int v1), some (.long v2), none, some (.int v4), some (.int (0 : Int32))]) (st' := []) 2 rfl
  · refine (t_p (pc' := 152) (ls' := [some (.ref 166), some (.int v1), some (.long v2), none, some (.int v4), u5]) (st' := [.int v1]) 1 rfl).trans ?_
    exact t_rI rfl
theorem b_M_framed_105 {X : pm_X} {d : Nat} {I : st_I} {J : st_J}  {v1 : Int32} {v2 : Int64} {v4 : Int32} {v5 : Int32} {c k : Nat} (r : pm_R) : Gx X d (kc_M_framed, []) (105, [some (.ref 166), some (.int v1), some (.long v2), none, some (.int v4), some (.int v5)], [], st_h I J, c, k) r ↔ ((pm_in v4 4) = true ∧ (if v5 < (I 170 (Int32.toNatClampNeg v4)) then ((pm_in (((64 : Int32) * v4) + v5) 256) = true ∧ ((pm_in v1 300) = true ∧ Gx X d (kc_M_framed, []) (105, [some (.ref 166), some (.int (v1 + (1 : Int32))), some (.long v2), none, some (.int v4), some (.int (v5 + (1 : Int32)))], [], st_h I (st_y J 169 (Int32.toNatClampNeg v1) (J 167 (Int32.toNatClampNeg (((64 : Int32) * v4) + v5)))), c, k) r)) else Gx X d (kc_M_framed, []) (93, [some (.ref 166), some (.int v1), some (.long v2), none, some (.int (v4 + (1 : Int32))), some (.int v5)], [], st_h I J, c, k) r)) := by
  refine (t_p (pc' := 108) (ls' := [some (.ref 166), some (.int v1), some (.long v2), none, some (.int v4), some (.int v5)]) (st' := [.ref 166, .int v5]) 2 rfl).trans ?_
  refine (t_gR rfl rfl).trans ?_
  refine (t_p (pc' := 113) (ls' := [some (.ref 166), some (.int v1), some (.long v2), none, some (.int v4), some (.int v5)]) (st' := [.int v4, .ref 170, .int v5]) 1 rfl).trans ?_
  refine t_an (t_lI rfl rfl) (fun h1 => ?_)
  refine cg (t_ige rfl) ?_ ?_
  · refine (t_p (pc' := 118) (ls' := [some (.ref 166), some (.int v1), some (.long v2), none, some (.int v4), some (.int v5)]) (st' := [.ref 166]) 1 rfl).trans ?_
    refine (t_gR rfl rfl).trans ?_
    refine (t_p (pc' := 123) (ls' := [some (.ref 166), some (.int v1), some (.long v2), none, some (.int v4), some (.int v5)]) (st' := [.ref 166, .int v1, .ref 169]) 2 rfl).trans ?_
    refine (t_gR rfl rfl).trans ?_
    refine (t_p (pc' := 134) (ls' := [some (.ref 166), some (.int v1), some (.long v2), none, some (.int v4), some (.int v5)]) (st' := [.int (((64 : Int32) * v4) + v5), .ref 167, .int v1, .ref 169]) 5 rfl).trans ?_
    refine t_an (t_lJ rfl rfl) (fun h5 => ?_)
    refine t_an (t_sJ rfl rfl) (fun h6 => ?_)
    exact t_p (pc' := 105) (ls' := [some (.ref 166), some (.int (v1 + (1 : Int32))), some (.long v2), none, some (.int v4), some (.int (v5 + (1 : Int32)))]) (st' := []) 3 rfl
  · exact t_p (pc' := 93) (ls' := [some (.ref 166), some (.int v1), some (.long v2), none, some (.int (v4 + (1 : Int32))), some (.int v5)]) (st' := []) 2 rfl
theorem e_M_zeros {X : pm_X} {d : Nat} {I : st_I} {J : st_J} {p0 : Int64} (r : pm_R) : Ex X (d + 1) 222 [.long p0] (st_h I J) r ↔ Gx X d (kc_M_zeros, []) (4, [some (.long p0), none, some (.int (0 : Int32)), some (.int (0 : Int32))], [], st_h I J, 0, 0) r := by
  refine (Ex_iff (M := (kc_M_zeros, [])) (n := 4) rfl rfl).trans ?_
  exact t_p (pc' := 4) (ls' := [some (.long p0), none, some (.int (0 : Int32)), some (.int (0 : Int32))]) (st' := []) 4 rfl
theorem b_M_zeros_4 {X : pm_X} {d : Nat} {I : st_I} {J : st_J} {p0 : Int64} {v2 : Int32} {v3 : Int32} {c k : Nat} (r : pm_R) : Gx X d (kc_M_zeros, []) (4, [some (.long p0), none, some (.int v2), some (.int v3)], [], st_h I J, c, k) r ↔ (if v3 < (8 : Int32) then (if ((ju p0 ((8 : Int32) * v3)) &&& (255 : Int64)) = (0 : Int64) then Gx X d (kc_M_zeros, []) (4, [some (.long p0), none, some (.int (v2 + (1 : Int32))), some (.int (v3 + (1 : Int32)))], [], st_h I J, c, k) r else Gx X d (kc_M_zeros, []) (4, [some (.long p0), none, some (.int v2), some (.int (v3 + (1 : Int32)))], [], st_h I J, c, k) r) else r = (.inl (some (.int v2)), st_h I J, c, k)) := by
  refine (t_p (pc' := 7) (ls' := [some (.long p0), none, some (.int v2), some (.int v3)]) (st' := [.int (8 : Int32), .int v3]) 2 rfl).trans ?_
  refine cg (t_ige rfl) ?_ ?_
  · refine (t_p (pc' := 22) (ls' := [some (.long p0), none, some (.int v2), some (.int v3)]) (st' := [.int (lg_cmp ((ju p0 ((8 : Int32) * v3)) &&& (255 : Int64)) (0 : Int64))]) 9 rfl).trans ?_
    refine cg (t_Lne rfl) ?_ ?_
    · exact t_p (pc' := 4) (ls' := [some (.long p0), none, some (.int (v2 + (1 : Int32))), some (.int (v3 + (1 : Int32)))]) (st' := []) 3 rfl
    · exact t_p (pc' := 4) (ls' := [some (.long p0), none, some (.int v2), some (.int (v3 + (1 : Int32)))]) (st' := []) 2 rfl
  · refine (t_p (pc' := 35) (ls' := [some (.long p0), none, some (.int v2), some (.int v3)]) (st' := [.int v2]) 1 rfl).trans ?_
    exact t_rI rfl
theorem e_M_whole {X : pm_X} {d : Nat} {I : st_I} {J : st_J} {p1 : Int32} {p2 : Int64} (r : pm_R) : Ex X (d + 1) 223 [.ref 166, .int p1, .long p2] (st_h I J) r ↔ Gx X d (kc_M_whole, []) (3, [some (.ref 166), some (.int p1), some (.long p2), none, some (.int (0 : Int32))], [], st_h I J, 0, 0) r := by
  refine (Ex_iff (M := (kc_M_whole, [])) (n := 5) rfl rfl).trans ?_
  exact t_p (pc' := 3) (ls' := [some (.ref 166), some (.int p1), some (.long p2), none, some (.int (0 : Int32))]) (st' := []) 2 rfl
theorem b_M_whole_3 {X : pm_X} {d : Nat} {I : st_I} {J : st_J} {p1 : Int32} {p2 : Int64} {v4 : Int32} {c k : Nat} (r : pm_R) : Gx X d (kc_M_whole, []) (3, [some (.ref 166), some (.int p1), some (.long p2), none, some (.int v4)], [], st_h I J, c, k) r ↔ (if v4 < (8 : Int32) then ((pm_in (p1 + v4) 2600) = true ∧ Gx X d (kc_M_whole, []) (3, [some (.ref 166), some (.int p1), some (.long p2), none, some (.int (v4 + (1 : Int32)))], [], st_h (st_w I 172 (Int32.toNatClampNeg (p1 + v4)) (Int64.toInt32 ((ju p2 ((8 : Int32) * v4)) &&& (255 : Int64)))) J, c, k) r) else r = (.inl (some (.int (p1 + (8 : Int32)))), st_h I J, c, k)) := by
  refine (t_p (pc' := 7) (ls' := [some (.ref 166), some (.int p1), some (.long p2), none, some (.int v4)]) (st' := [.int (8 : Int32), .int v4]) 2 rfl).trans ?_
  refine cg (t_ige rfl) ?_ ?_
  · refine (t_p (pc' := 11) (ls' := [some (.ref 166), some (.int p1), some (.long p2), none, some (.int v4)]) (st' := [.ref 166]) 1 rfl).trans ?_
    refine (t_gR rfl rfl).trans ?_
    refine (t_p (pc' := 30) (ls' := [some (.ref 166), some (.int p1), some (.long p2), none, some (.int v4)]) (st' := [.int (Int64.toInt32 ((ju p2 ((8 : Int32) * v4)) &&& (255 : Int64))), .int (p1 + v4), .ref 172]) 11 rfl).trans ?_
    refine t_an (t_sI rfl rfl) (fun h3 => ?_)
    exact t_p (pc' := 3) (ls' := [some (.ref 166), some (.int p1), some (.long p2), none, some (.int (v4 + (1 : Int32)))]) (st' := []) 2 rfl
  · refine (t_p (pc' := 41) (ls' := [some (.ref 166), some (.int p1), some (.long p2), none, some (.int v4)]) (st' := [.int (p1 + (8 : Int32))]) 3 rfl).trans ?_
    exact t_rI rfl
theorem e_M_feed {X : pm_X} {d : Nat} {I : st_I} {J : st_J} {p1 : Int64} {p2 : Int32} (r : pm_R) : Ex X (d + 2) 225 [.ref 166, .long p1, .int p2] (st_h I J) r ↔ (if (¬ ((Int32.toInt64 p2) < (1 : Int64))) ∧ (¬ ((8 : Int64) < (Int32.toInt64 p2))) then (if (1500 : Int32) < ((I 166 7) + p2) then r = (.inl (some (.int (0 : Int32))), st_h (st_w (st_w I 166 10 (0 : Int32)) 166 10 (2 : Int32)) J, 0, 0) else Gx X (d + 1) (kc_M_feed, []) (60, [some (.ref 166), some (.long p1), none, some (.int p2), some (.int (0 : Int32))], [], st_h (st_w I 166 10 (0 : Int32)) J, 0, 0) r) else r = (.inl (some (.int (0 : Int32))), st_h (st_w (st_w I 166 10 (0 : Int32)) 166 10 (1 : Int32)) J, 0, 0)) := by
  refine (Ex_iff (M := (kc_M_feed, [])) (n := 5) rfl rfl).trans ?_
  refine (t_p (pc' := 2) (ls' := [some (.ref 166), some (.long p1), none, some (.int p2), none]) (st' := [.int (0 : Int32), .ref 166]) 2 rfl).trans ?_
  refine (t_pI rfl rfl).trans ?_
  refine (t_p (pc' := 12) (ls' := [some (.ref 166), some (.long p1), none, some (.int p2), none]) (st' := [.long (8 : Int64), .long (1 : Int64), .long (Int32.toInt64 p2), .ref 166]) 5 rfl).trans ?_
  refine (t_cQ rfl rfl rfl (fun q => ev_M_in (d := d)  q)).trans ?_
  refine (ex_q).trans ?_
  refine (mgI (t_bne rfl) bj_01 (t_p (pc' := 23) (ls' := [some (.ref 166), some (.long p1), none, some (.int p2), none]) (st' := [.int (0 : Int32), .ref 166]) 1 rfl) (t_p (pc' := 23) (ls' := [some (.ref 166), some (.long p1), none, some (.int p2), none]) (st' := [.int (1 : Int32), .ref 166]) 2 rfl)).trans ?_
  refine (t_p (pc' := 24) (ls' := [some (.ref 166), some (.long p1), none, some (.int p2), none]) (st' := [.int (1 : Int32), .int (bz (¬ ((¬ ((Int32.toInt64 p2) < (1 : Int64))) ∧ (¬ ((8 : Int64) < (Int32.toInt64 p2)))))), .ref 166]) 1 rfl).trans ?_
  refine (t_cW rfl rfl rfl rfl (fun q => ev_M_fails (d := d)  q)).trans ?_
  refine cg (cgBN (ex_i)) ?_ ?_
  · refine (ex_q).trans ?_
    refine cgF (t_bne rfl) (fun z => z (show (0 : Int32) = (0 : Int32) by decide)) ?_
    refine (t_p (pc' := 32) (ls' := [some (.ref 166), some (.long p1), none, some (.int p2), none]) (st' := [.ref 166, .ref 166]) 2 rfl).trans ?_
    refine (t_gI rfl rfl).trans ?_
    refine (t_p (pc' := 40) (ls' := [some (.ref 166), some (.long p1), none, some (.int p2), none]) (st' := [.int (1500 : Int32), .int ((I 166 7) + p2), .ref 166]) 3 rfl).trans ?_
    refine (mgI (t_ile rfl) bj_10 (t_p (pc' := 48) (ls' := [some (.ref 166), some (.long p1), none, some (.int p2), none]) (st' := [.int (1 : Int32), .ref 166]) 2 rfl) (t_p (pc' := 48) (ls' := [some (.ref 166), some (.long p1), none, some (.int p2), none]) (st' := [.int (0 : Int32), .ref 166]) 1 rfl)).trans ?_
    refine (t_p (pc' := 49) (ls' := [some (.ref 166), some (.long p1), none, some (.int p2), none]) (st' := [.int (2 : Int32), .int (bz ((1500 : Int32) < ((I 166 7) + p2))), .ref 166]) 1 rfl).trans ?_
    refine (t_cW rfl rfl rfl rfl (fun q => ev_M_fails (d := d)  q)).trans ?_
    refine cg (cgB (ex_i)) ?_ ?_
    · refine cgT (ex_i) (show (0 : Int32) = (0 : Int32) by decide) ?_
      refine (ex_q).trans ?_
      refine cgT (t_beq rfl) (show ¬ ((2 : Int32) = (0 : Int32)) by decide) ?_
      refine (t_p (pc' := 56) (ls' := [some (.ref 166), some (.long p1), none, some (.int p2), none]) (st' := [.int (0 : Int32)]) 1 rfl).trans ?_
      exact t_rI rfl
    · refine (ex_q).trans ?_
      refine cgF (t_beq rfl) (fun z => z (show (0 : Int32) = (0 : Int32) by decide)) ?_
      exact t_p (pc' := 60) (ls' := [some (.ref 166), some (.long p1), none, some (.int p2), some (.int (0 : Int32))]) (st' := []) 2 rfl
  · refine cgT (ex_i) (show (0 : Int32) = (0 : Int32) by decide) ?_
    refine (ex_q).trans ?_
    refine cgT (t_bne rfl) (show ¬ ((1 : Int32) = (0 : Int32)) by decide) ?_
    refine (t_p (pc' := 56) (ls' := [some (.ref 166), some (.long p1), none, some (.int p2), none]) (st' := [.int (0 : Int32)]) 1 rfl).trans ?_
    exact t_rI rfl
theorem b_M_feed_60 {X : pm_X} {d : Nat} {I : st_I} {J : st_J} {p1 : Int64} {p2 : Int32} {v4 : Int32} {c k : Nat} (r : pm_R) : Gx X (d + 1) (kc_M_feed, []) (60, [some (.ref 166), some (.long p1), none, some (.int p2), some (.int v4)], [], st_h I J, c, k) r ↔ (if v4 < p2 then ((pm_in ((I 166 7) + v4) 1500) = true ∧ Gx X (d + 1) (kc_M_feed, []) (60, [some (.ref 166), some (.long p1), none, some (.int p2), some (.int (v4 + (1 : Int32)))], [], st_h (st_w I 171 (Int32.toNatClampNeg ((I 166 7) + v4)) (Int64.toInt32 ((ju p1 ((8 : Int32) * v4)) &&& (255 : Int64)))) J, c, k) r) else r = (.inl (some (.int ((I 166 7) + p2))), st_h (st_w I 166 7 ((I 166 7) + p2)) J, c, k)) := by
  refine (t_p (pc' := 63) (ls' := [some (.ref 166), some (.long p1), none, some (.int p2), some (.int v4)]) (st' := [.int p2, .int v4]) 2 rfl).trans ?_
  refine cg (t_ige rfl) ?_ ?_
  · refine (t_p (pc' := 67) (ls' := [some (.ref 166), some (.long p1), none, some (.int p2), some (.int v4)]) (st' := [.ref 166]) 1 rfl).trans ?_
    refine (t_gR rfl rfl).trans ?_
    refine (t_p (pc' := 71) (ls' := [some (.ref 166), some (.long p1), none, some (.int p2), some (.int v4)]) (st' := [.ref 166, .ref 171]) 1 rfl).trans ?_
    refine (t_gI rfl rfl).trans ?_
    refine (t_p (pc' := 89) (ls' := [some (.ref 166), some (.long p1), none, some (.int p2), some (.int v4)]) (st' := [.int (Int64.toInt32 ((ju p1 ((8 : Int32) * v4)) &&& (255 : Int64))), .int ((I 166 7) + v4), .ref 171]) 10 rfl).trans ?_
    refine t_an (t_sI rfl rfl) (fun h3 => ?_)
    exact t_p (pc' := 60) (ls' := [some (.ref 166), some (.long p1), none, some (.int p2), some (.int (v4 + (1 : Int32)))]) (st' := []) 2 rfl
  · refine (t_p (pc' := 98) (ls' := [some (.ref 166), some (.long p1), none, some (.int p2), some (.int v4)]) (st' := [.ref 166, .ref 166]) 2 rfl).trans ?_
    refine (t_gI rfl rfl).trans ?_
    refine (t_p (pc' := 103) (ls' := [some (.ref 166), some (.long p1), none, some (.int p2), some (.int v4)]) (st' := [.int ((I 166 7) + p2), .ref 166]) 2 rfl).trans ?_
    refine (t_pI rfl rfl).trans ?_
    refine (t_p (pc' := 107) (ls' := [some (.ref 166), some (.long p1), none, some (.int p2), some (.int v4)]) (st' := [.ref 166]) 1 rfl).trans ?_
    refine (t_gI rfl rfl).trans ?_
    exact t_rI rfl
theorem e_M_needs {X : pm_X} {d : Nat} {I : st_I} {J : st_J} {p1 : Int32} {p2 : Int32} {p3 : Int32} (r : pm_R) : Ex X (d + 1) 234 [.ref 166, .int p1, .int p2, .int p3] (st_h I J) r ↔ Gx X d (kc_M_needs, []) (3, [some (.ref 166), some (.int p1), some (.int p2), some (.int p3), some (.int p3)], [], st_h I J, 0, 0) r := by
  refine (Ex_iff (M := (kc_M_needs, [])) (n := 5) rfl rfl).trans ?_
  exact t_p (pc' := 3) (ls' := [some (.ref 166), some (.int p1), some (.int p2), some (.int p3), some (.int p3)]) (st' := []) 2 rfl
theorem b_M_needs_3 {X : pm_X} {d : Nat} {I : st_I} {J : st_J} {p1 : Int32} {p2 : Int32} {p3 : Int32} {v4 : Int32} {c k : Nat} (r : pm_R) : Gx X d (kc_M_needs, []) (3, [some (.ref 166), some (.int p1), some (.int p2), some (.int p3), some (.int v4)], [], st_h I J, c, k) r ↔ (if (0 : Int32) < v4 then ((pm_in (((((64 : Int32) * p1) + p2) + v4) - (1 : Int32)) 256) = true ∧ (if (J 167 (Int32.toNatClampNeg (((((64 : Int32) * p1) + p2) + v4) - (1 : Int32)))) = (0 : Int64) then Gx X d (kc_M_needs, []) (3, [some (.ref 166), some (.int p1), some (.int p2), some (.int p3), some (.int (v4 + (-1 : Int32)))], [], st_h I J, c, k) r else r = (.inl (some (.int v4)), st_h I J, c, k))) else r = (.inl (some (.int v4)), st_h I J, c, k)) := by
  refine (t_p (pc' := 5) (ls' := [some (.ref 166), some (.int p1), some (.int p2), some (.int p3), some (.int v4)]) (st' := [.int v4]) 1 rfl).trans ?_
  refine cg (t_fle rfl) ?_ ?_
  · refine (t_p (pc' := 9) (ls' := [some (.ref 166), some (.int p1), some (.int p2), some (.int p3), some (.int v4)]) (st' := [.ref 166]) 1 rfl).trans ?_
    refine (t_gR rfl rfl).trans ?_
    refine (t_p (pc' := 23) (ls' := [some (.ref 166), some (.int p1), some (.int p2), some (.int p3), some (.int v4)]) (st' := [.int (((((64 : Int32) * p1) + p2) + v4) - (1 : Int32)), .ref 167]) 9 rfl).trans ?_
    refine t_an (t_lJ rfl rfl) (fun h4 => ?_)
    refine (t_p (pc' := 26) (ls' := [some (.ref 166), some (.int p1), some (.int p2), some (.int p3), some (.int v4)]) (st' := [.int (lg_cmp (J 167 (Int32.toNatClampNeg (((((64 : Int32) * p1) + p2) + v4) - (1 : Int32)))) (0 : Int64))]) 2 rfl).trans ?_
    refine cg (t_Lne rfl) ?_ ?_
    · exact t_p (pc' := 3) (ls' := [some (.ref 166), some (.int p1), some (.int p2), some (.int p3), some (.int (v4 + (-1 : Int32)))]) (st' := []) 2 rfl
    · refine (t_p (pc' := 37) (ls' := [some (.ref 166), some (.int p1), some (.int p2), some (.int p3), some (.int v4)]) (st' := [.int v4]) 1 rfl).trans ?_
      exact t_rI rfl
  · refine (t_p (pc' := 37) (ls' := [some (.ref 166), some (.int p1), some (.int p2), some (.int p3), some (.int v4)]) (st' := [.int v4]) 1 rfl).trans ?_
    exact t_rI rfl
theorem e_Ra_scaled {X : pm_X} {d : Nat} {I : st_I} {J : st_J} {p0 : UInt64} {p1 : Int32} (r : pm_R) : Ex X (d + 2) 83 [.double p0, .int p1] (st_h I J) r ↔ Gx X (d + 1) (kc_Ra_scaled, []) (13, [some (.double p0), none, some (.int p1), some (.double p0), none, some (.int (if p1 < (0 : Int32) then (-p1) else p1)), some (.double (4751297606875873280 : UInt64)), none], [], st_h I J, 0, 0) r := by
  refine (Ex_iff (M := (kc_Ra_scaled, [])) (n := 8) rfl rfl).trans ?_
  refine (t_p (pc' := 3) (ls' := [some (.double p0), none, some (.int p1), some (.double p0), none, none, none, none]) (st' := [.int p1]) 3 rfl).trans ?_
  refine (t_cQ rfl rfl rfl (fun q => ev_JM_abs (d := d)  q)).trans ?_
  refine (ex_q).trans ?_
  exact t_p (pc' := 13) (ls' := [some (.double p0), none, some (.int p1), some (.double p0), none, some (.int (if p1 < (0 : Int32) then (-p1) else p1)), some (.double (4751297606875873280 : UInt64)), none]) (st' := []) 3 rfl
theorem b_Ra_scaled_13 {X : pm_X} {d : Nat} {I : st_I} {J : st_J} {p0 : UInt64} {p1 : Int32} {v3 : UInt64} {v5 : Int32} {v6 : UInt64} {c k : Nat} (r : pm_R) : Gx X (d + 1) (kc_Ra_scaled, []) (13, [some (.double p0), none, some (.int p1), some (.double v3), none, some (.int v5), some (.double v6), none], [], st_h I J, c, k) r ↔ (if (0 : Int32) < v5 then (if v5 < (32 : Int32) then (if (0 : Int32) < p1 then ((pm_n64 (FP.dmul v3 (4611686018427387904 : UInt64))) = true ∧ Gx X (d + 1) (kc_Ra_scaled, []) (13, [some (.double p0), none, some (.int p1), some (.double (FP.dmul v3 (4611686018427387904 : UInt64))), none, some (.int (v5 - (1 : Int32))), some (.double (4611686018427387904 : UInt64)), none], [], st_h I J, c, k) r) else ((pm_n64 (FP.ddiv v3 (4611686018427387904 : UInt64))) = true ∧ Gx X (d + 1) (kc_Ra_scaled, []) (13, [some (.double p0), none, some (.int p1), some (.double (FP.ddiv v3 (4611686018427387904 : UInt64))), none, some (.int (v5 - (1 : Int32))), some (.double (4611686018427387904 : UInt64)), none], [], st_h I J, c, k) r)) else (if (0 : Int32) < p1 then ((pm_n64 (FP.dmul v3 v6)) = true ∧ Gx X (d + 1) (kc_Ra_scaled, []) (13, [some (.double p0), none, some (.int p1), some (.double (FP.dmul v3 v6)), none, some (.int (v5 - (32 : Int32))), some (.double v6), none], [], st_h I J, c, k) r) else ((pm_n64 (FP.ddiv v3 v6)) = true ∧ Gx X (d + 1) (kc_Ra_scaled, []) (13, [some (.double p0), none, some (.int p1), some (.double (FP.ddiv v3 v6)), none, some (.int (v5 - (32 : Int32))), some (.double v6), none], [], st_h I J, c, k) r))) else r = (.inl (some (.double v3)), st_h I J, c, k)) := by
  refine (t_p (pc' := 15) (ls' := [some (.double p0), none, some (.int p1), some (.double v3), none, some (.int v5), some (.double v6), none]) (st' := [.int v5]) 1 rfl).trans ?_
  refine cg (t_fle rfl) ?_ ?_
  · refine (t_p (pc' := 22) (ls' := [some (.double p0), none, some (.int p1), some (.double v3), none, some (.int v5), some (.double v6), none]) (st' := [.int (32 : Int32), .int v5]) 2 rfl).trans ?_
    refine cgd (t_ige rfl) (fun h13 => ?_) (fun h13 => ?_)
    · refine (t_p (pc' := 31) (ls' := [some (.double p0), none, some (.int p1), some (.double v3), none, some (.int v5), some (.double (4611686018427387904 : UInt64)), none]) (st' := [.int p1]) 3 rfl).trans ?_
      refine cg (t_fle rfl) ?_ ?_
      · refine (t_p (pc' := 37) (ls' := [some (.double p0), none, some (.int p1), some (.double v3), none, some (.int v5), some (.double (4611686018427387904 : UInt64)), none]) (st' := [.double (4611686018427387904 : UInt64), .double v3]) 2 rfl).trans ?_
        refine t_an (t_d2 FP.dmul rfl rfl rfl) (fun h17 => ?_)
        refine (t_p (pc' := 52) (ls' := [some (.double p0), none, some (.int p1), some (.double (FP.dmul v3 (4611686018427387904 : UInt64))), none, some (.int v5), some (.double (4611686018427387904 : UInt64)), none]) (st' := [.int (32 : Int32), .int v5, .int v5]) 5 rfl).trans ?_
        refine cgT (t_ige rfl) h13 ?_
        exact t_p (pc' := 13) (ls' := [some (.double p0), none, some (.int p1), some (.double (FP.dmul v3 (4611686018427387904 : UInt64))), none, some (.int (v5 - (1 : Int32))), some (.double (4611686018427387904 : UInt64)), none]) (st' := []) 5 rfl
      · refine (t_p (pc' := 44) (ls' := [some (.double p0), none, some (.int p1), some (.double v3), none, some (.int v5), some (.double (4611686018427387904 : UInt64)), none]) (st' := [.double (4611686018427387904 : UInt64), .double v3]) 2 rfl).trans ?_
        refine t_an (t_d2 FP.ddiv rfl rfl rfl) (fun h18 => ?_)
        refine (t_p (pc' := 52) (ls' := [some (.double p0), none, some (.int p1), some (.double (FP.ddiv v3 (4611686018427387904 : UInt64))), none, some (.int v5), some (.double (4611686018427387904 : UInt64)), none]) (st' := [.int (32 : Int32), .int v5, .int v5]) 4 rfl).trans ?_
        refine cgT (t_ige rfl) h13 ?_
        exact t_p (pc' := 13) (ls' := [some (.double p0), none, some (.int p1), some (.double (FP.ddiv v3 (4611686018427387904 : UInt64))), none, some (.int (v5 - (1 : Int32))), some (.double (4611686018427387904 : UInt64)), none]) (st' := []) 5 rfl
    · refine (t_p (pc' := 31) (ls' := [some (.double p0), none, some (.int p1), some (.double v3), none, some (.int v5), some (.double v6), none]) (st' := [.int p1]) 1 rfl).trans ?_
      refine cg (t_fle rfl) ?_ ?_
      · refine (t_p (pc' := 37) (ls' := [some (.double p0), none, some (.int p1), some (.double v3), none, some (.int v5), some (.double v6), none]) (st' := [.double v6, .double v3]) 2 rfl).trans ?_
        refine t_an (t_d2 FP.dmul rfl rfl rfl) (fun h22 => ?_)
        refine (t_p (pc' := 52) (ls' := [some (.double p0), none, some (.int p1), some (.double (FP.dmul v3 v6)), none, some (.int v5), some (.double v6), none]) (st' := [.int (32 : Int32), .int v5, .int v5]) 5 rfl).trans ?_
        refine cgF (t_ige rfl) h13 ?_
        exact t_p (pc' := 13) (ls' := [some (.double p0), none, some (.int p1), some (.double (FP.dmul v3 v6)), none, some (.int (v5 - (32 : Int32))), some (.double v6), none]) (st' := []) 4 rfl
      · refine (t_p (pc' := 44) (ls' := [some (.double p0), none, some (.int p1), some (.double v3), none, some (.int v5), some (.double v6), none]) (st' := [.double v6, .double v3]) 2 rfl).trans ?_
        refine t_an (t_d2 FP.ddiv rfl rfl rfl) (fun h23 => ?_)
        refine (t_p (pc' := 52) (ls' := [some (.double p0), none, some (.int p1), some (.double (FP.ddiv v3 v6)), none, some (.int v5), some (.double v6), none]) (st' := [.int (32 : Int32), .int v5, .int v5]) 4 rfl).trans ?_
        refine cgF (t_ige rfl) h13 ?_
        exact t_p (pc' := 13) (ls' := [some (.double p0), none, some (.int p1), some (.double (FP.ddiv v3 v6)), none, some (.int (v5 - (32 : Int32))), some (.double v6), none]) (st' := []) 4 rfl
  · refine (t_p (pc' := 68) (ls' := [some (.double p0), none, some (.int p1), some (.double v3), none, some (.int v5), some (.double v6), none]) (st' := [.double v3]) 1 rfl).trans ?_
    exact t_rD rfl
theorem e_Ra_sizeBits {X : pm_X} {d : Nat} {I : st_I} {J : st_J} {p0 : UInt64} {p1 : Int32} (r : pm_R) : Ex X (d + 3) 122 [.double p0, .int p1] (st_h I J) r ↔ (if (Op.cmpValue (FP.dcmp p0 FP.dconst0) .l) = (0 : Int32) then r = (.inl (some (.long (0 : Int64))), st_h I J, 0, 0) else Gx X (d + 2) (kc_Ra_sizeBits, []) (28, [some (.double p0), none, some (.int p1), some (.int (if p1 = (0 : Int32) then (23 : Int32) else (52 : Int32))), some (.double (FP.l2d (jl (1 : Int64) (if p1 = (0 : Int32) then (23 : Int32) else (52 : Int32))))), none, some (.double p0), none, some (.int (0 : Int32)), some (.int (0 : Int32))], [], st_h I J, 0, 0) r) := by
  refine (Ex_iff (M := (kc_Ra_sizeBits, [])) (n := 10) rfl rfl).trans ?_
  refine (t_p (pc' := 3) (ls' := [some (.double p0), none, some (.int p1), none, none, none, none, none, none, none]) (st' := [.int (Op.cmpValue (FP.dcmp p0 FP.dconst0) .l)]) 3 rfl).trans ?_
  refine cg (t_fne rfl) ?_ ?_
  · refine (t_p (pc' := 7) (ls' := [some (.double p0), none, some (.int p1), none, none, none, none, none, none, none]) (st' := [.long (0 : Int64)]) 1 rfl).trans ?_
    exact t_rJ rfl
  · refine (t_p (pc' := 9) (ls' := [some (.double p0), none, some (.int p1), none, none, none, none, none, none, none]) (st' := [.int p1]) 1 rfl).trans ?_
    refine (t_cQ rfl rfl rfl (fun q => ev_Ra_fractionBits (d := d + 1)  q)).trans ?_
    refine (ex_q).trans ?_
    exact t_p (pc' := 28) (ls' := [some (.double p0), none, some (.int p1), some (.int (if p1 = (0 : Int32) then (23 : Int32) else (52 : Int32))), some (.double (FP.l2d (jl (1 : Int64) (if p1 = (0 : Int32) then (23 : Int32) else (52 : Int32))))), none, some (.double p0), none, some (.int (0 : Int32)), some (.int (0 : Int32))]) (st' := []) 12 rfl
theorem b_Ra_sizeBits_28 {X : pm_X} {d : Nat} {I : st_I} {J : st_J} {p0 : UInt64} {p1 : Int32} {v3 : Int32} {v4 : UInt64} {v6 : UInt64} {v8 : Int32} {v9 : Int32} {c k : Nat} (r : pm_R) : Gx X (d + 2) (kc_Ra_sizeBits, []) (28, [some (.double p0), none, some (.int p1), some (.int v3), some (.double v4), none, some (.double v6), none, some (.int v8), some (.int v9)], [], st_h I J, c, k) r ↔ (if v9 < (40 : Int32) then ((pm_n64 (FP.dmul v4 (4751297606875873280 : UInt64))) = true ∧ (if (Op.cmpValue (FP.dcmp v6 (FP.dmul v4 (4751297606875873280 : UInt64))) .l) < (0 : Int32) then Gx X (d + 2) (kc_Ra_sizeBits, []) (67, [some (.double p0), none, some (.int p1), some (.int v3), some (.double v4), none, some (.double v6), none, some (.int v8), some (.int (0 : Int32))], [], st_h I J, c, k) r else ((pm_n64 (FP.ddiv v6 (4751297606875873280 : UInt64))) = true ∧ Gx X (d + 2) (kc_Ra_sizeBits, []) (28, [some (.double p0), none, some (.int p1), some (.int v3), some (.double v4), none, some (.double (FP.ddiv v6 (4751297606875873280 : UInt64))), none, some (.int (v8 + (32 : Int32))), some (.int (v9 + (1 : Int32)))], [], st_h I J, c, k) r))) else Gx X (d + 2) (kc_Ra_sizeBits, []) (67, [some (.double p0), none, some (.int p1), some (.int v3), some (.double v4), none, some (.double v6), none, some (.int v8), some (.int (0 : Int32))], [], st_h I J, c, k) r) := by
  refine (t_p (pc' := 32) (ls' := [some (.double p0), none, some (.int p1), some (.int v3), some (.double v4), none, some (.double v6), none, some (.int v8), some (.int v9)]) (st' := [.int (40 : Int32), .int v9]) 2 rfl).trans ?_
  refine cg (t_ige rfl) ?_ ?_
  · refine (t_p (pc' := 42) (ls' := [some (.double p0), none, some (.int p1), some (.int v3), some (.double v4), none, some (.double v6), none, some (.int v8), some (.int v9)]) (st' := [.double (4751297606875873280 : UInt64), .double v4, .double v6]) 3 rfl).trans ?_
    refine t_an (t_d2 FP.dmul rfl rfl rfl) (fun h6 => ?_)
    refine (t_p (pc' := 44) (ls' := [some (.double p0), none, some (.int p1), some (.int v3), some (.double v4), none, some (.double v6), none, some (.int v8), some (.int v9)]) (st' := [.int (Op.cmpValue (FP.dcmp v6 (FP.dmul v4 (4751297606875873280 : UInt64))) .l)]) 1 rfl).trans ?_
    refine cg (t_flt rfl) ?_ ?_
    · exact t_p (pc' := 67) (ls' := [some (.double p0), none, some (.int p1), some (.int v3), some (.double v4), none, some (.double v6), none, some (.int v8), some (.int (0 : Int32))]) (st' := []) 2 rfl
    · refine (t_p (pc' := 52) (ls' := [some (.double p0), none, some (.int p1), some (.int v3), some (.double v4), none, some (.double v6), none, some (.int v8), some (.int v9)]) (st' := [.double (4751297606875873280 : UInt64), .double v6]) 2 rfl).trans ?_
      refine t_an (t_d2 FP.ddiv rfl rfl rfl) (fun h9 => ?_)
      exact t_p (pc' := 28) (ls' := [some (.double p0), none, some (.int p1), some (.int v3), some (.double v4), none, some (.double (FP.ddiv v6 (4751297606875873280 : UInt64))), none, some (.int (v8 + (32 : Int32))), some (.int (v9 + (1 : Int32)))]) (st' := []) 4 rfl
  · exact t_p (pc' := 67) (ls' := [some (.double p0), none, some (.int p1), some (.int v3), some (.double v4), none, some (.double v6), none, some (.int v8), some (.int (0 : Int32))]) (st' := []) 2 rfl
theorem b_Ra_sizeBits_67 {X : pm_X} {d : Nat} {I : st_I} {J : st_J} {p0 : UInt64} {p1 : Int32} {v3 : Int32} {v4 : UInt64} {v6 : UInt64} {v8 : Int32} {v9 : Int32} {c k : Nat} (r : pm_R) : Gx X (d + 2) (kc_Ra_sizeBits, []) (67, [some (.double p0), none, some (.int p1), some (.int v3), some (.double v4), none, some (.double v6), none, some (.int v8), some (.int v9)], [], st_h I J, c, k) r ↔ (if v9 < (40 : Int32) then ((pm_n64 (FP.ddiv v4 (4751297606875873280 : UInt64))) = true ∧ (if (Op.cmpValue (FP.dcmp v6 (FP.ddiv v4 (4751297606875873280 : UInt64))) .g) < (0 : Int32) then ((pm_n64 (FP.dmul v6 (4751297606875873280 : UInt64))) = true ∧ Gx X (d + 2) (kc_Ra_sizeBits, []) (67, [some (.double p0), none, some (.int p1), some (.int v3), some (.double v4), none, some (.double (FP.dmul v6 (4751297606875873280 : UInt64))), none, some (.int (v8 + (-32 : Int32))), some (.int (v9 + (1 : Int32)))], [], st_h I J, c, k) r) else Gx X (d + 2) (kc_Ra_sizeBits, []) (106, [some (.double p0), none, some (.int p1), some (.int v3), some (.double v4), none, some (.double v6), none, some (.int v8), some (.int (0 : Int32))], [], st_h I J, c, k) r)) else Gx X (d + 2) (kc_Ra_sizeBits, []) (106, [some (.double p0), none, some (.int p1), some (.int v3), some (.double v4), none, some (.double v6), none, some (.int v8), some (.int (0 : Int32))], [], st_h I J, c, k) r) := by
  refine (t_p (pc' := 71) (ls' := [some (.double p0), none, some (.int p1), some (.int v3), some (.double v4), none, some (.double v6), none, some (.int v8), some (.int v9)]) (st' := [.int (40 : Int32), .int v9]) 2 rfl).trans ?_
  refine cg (t_ige rfl) ?_ ?_
  · refine (t_p (pc' := 81) (ls' := [some (.double p0), none, some (.int p1), some (.int v3), some (.double v4), none, some (.double v6), none, some (.int v8), some (.int v9)]) (st' := [.double (4751297606875873280 : UInt64), .double v4, .double v6]) 3 rfl).trans ?_
    refine t_an (t_d2 FP.ddiv rfl rfl rfl) (fun h6 => ?_)
    refine (t_p (pc' := 83) (ls' := [some (.double p0), none, some (.int p1), some (.int v3), some (.double v4), none, some (.double v6), none, some (.int v8), some (.int v9)]) (st' := [.int (Op.cmpValue (FP.dcmp v6 (FP.ddiv v4 (4751297606875873280 : UInt64))) .g)]) 1 rfl).trans ?_
    refine cg (t_fge rfl) ?_ ?_
    · refine (t_p (pc' := 91) (ls' := [some (.double p0), none, some (.int p1), some (.int v3), some (.double v4), none, some (.double v6), none, some (.int v8), some (.int v9)]) (st' := [.double (4751297606875873280 : UInt64), .double v6]) 2 rfl).trans ?_
      refine t_an (t_d2 FP.dmul rfl rfl rfl) (fun h9 => ?_)
      exact t_p (pc' := 67) (ls' := [some (.double p0), none, some (.int p1), some (.int v3), some (.double v4), none, some (.double (FP.dmul v6 (4751297606875873280 : UInt64))), none, some (.int (v8 + (-32 : Int32))), some (.int (v9 + (1 : Int32)))]) (st' := []) 4 rfl
    · exact t_p (pc' := 106) (ls' := [some (.double p0), none, some (.int p1), some (.int v3), some (.double v4), none, some (.double v6), none, some (.int v8), some (.int (0 : Int32))]) (st' := []) 2 rfl
  · exact t_p (pc' := 106) (ls' := [some (.double p0), none, some (.int p1), some (.int v3), some (.double v4), none, some (.double v6), none, some (.int v8), some (.int (0 : Int32))]) (st' := []) 2 rfl
theorem b_Ra_sizeBits_106 {X : pm_X} {d : Nat} {I : st_I} {J : st_J} {p0 : UInt64} {p1 : Int32} {v3 : Int32} {v4 : UInt64} {v6 : UInt64} {v8 : Int32} {v9 : Int32} {c k : Nat} (r : pm_R) : Gx X (d + 2) (kc_Ra_sizeBits, []) (106, [some (.double p0), none, some (.int p1), some (.int v3), some (.double v4), none, some (.double v6), none, some (.int v8), some (.int v9)], [], st_h I J, c, k) r ↔ (if v9 < (33 : Int32) then ((pm_n64 (FP.dmul v4 (4611686018427387904 : UInt64))) = true ∧ (if (Op.cmpValue (FP.dcmp v6 (FP.dmul v4 (4611686018427387904 : UInt64))) .l) < (0 : Int32) then Gx X (d + 2) (kc_Ra_sizeBits, []) (145, [some (.double p0), none, some (.int p1), some (.int v3), some (.double v4), none, some (.double v6), none, some (.int v8), some (.int (0 : Int32))], [], st_h I J, c, k) r else ((pm_n64 (FP.ddiv v6 (4611686018427387904 : UInt64))) = true ∧ Gx X (d + 2) (kc_Ra_sizeBits, []) (106, [some (.double p0), none, some (.int p1), some (.int v3), some (.double v4), none, some (.double (FP.ddiv v6 (4611686018427387904 : UInt64))), none, some (.int (v8 + (1 : Int32))), some (.int (v9 + (1 : Int32)))], [], st_h I J, c, k) r))) else Gx X (d + 2) (kc_Ra_sizeBits, []) (145, [some (.double p0), none, some (.int p1), some (.int v3), some (.double v4), none, some (.double v6), none, some (.int v8), some (.int (0 : Int32))], [], st_h I J, c, k) r) := by
  refine (t_p (pc' := 110) (ls' := [some (.double p0), none, some (.int p1), some (.int v3), some (.double v4), none, some (.double v6), none, some (.int v8), some (.int v9)]) (st' := [.int (33 : Int32), .int v9]) 2 rfl).trans ?_
  refine cg (t_ige rfl) ?_ ?_
  · refine (t_p (pc' := 120) (ls' := [some (.double p0), none, some (.int p1), some (.int v3), some (.double v4), none, some (.double v6), none, some (.int v8), some (.int v9)]) (st' := [.double (4611686018427387904 : UInt64), .double v4, .double v6]) 3 rfl).trans ?_
    refine t_an (t_d2 FP.dmul rfl rfl rfl) (fun h6 => ?_)
    refine (t_p (pc' := 122) (ls' := [some (.double p0), none, some (.int p1), some (.int v3), some (.double v4), none, some (.double v6), none, some (.int v8), some (.int v9)]) (st' := [.int (Op.cmpValue (FP.dcmp v6 (FP.dmul v4 (4611686018427387904 : UInt64))) .l)]) 1 rfl).trans ?_
    refine cg (t_flt rfl) ?_ ?_
    · exact t_p (pc' := 145) (ls' := [some (.double p0), none, some (.int p1), some (.int v3), some (.double v4), none, some (.double v6), none, some (.int v8), some (.int (0 : Int32))]) (st' := []) 2 rfl
    · refine (t_p (pc' := 130) (ls' := [some (.double p0), none, some (.int p1), some (.int v3), some (.double v4), none, some (.double v6), none, some (.int v8), some (.int v9)]) (st' := [.double (4611686018427387904 : UInt64), .double v6]) 2 rfl).trans ?_
      refine t_an (t_d2 FP.ddiv rfl rfl rfl) (fun h9 => ?_)
      exact t_p (pc' := 106) (ls' := [some (.double p0), none, some (.int p1), some (.int v3), some (.double v4), none, some (.double (FP.ddiv v6 (4611686018427387904 : UInt64))), none, some (.int (v8 + (1 : Int32))), some (.int (v9 + (1 : Int32)))]) (st' := []) 4 rfl
  · exact t_p (pc' := 145) (ls' := [some (.double p0), none, some (.int p1), some (.int v3), some (.double v4), none, some (.double v6), none, some (.int v8), some (.int (0 : Int32))]) (st' := []) 2 rfl
theorem b_Ra_sizeBits_145 {X : pm_X} {d : Nat} {I : st_I} {J : st_J} {p0 : UInt64} {p1 : Int32} {v3 : Int32} {v4 : UInt64} {v6 : UInt64} {v8 : Int32} {v9 : Int32} {c k : Nat} (r : pm_R) : Gx X (d + 2) (kc_Ra_sizeBits, []) (145, [some (.double p0), none, some (.int p1), some (.int v3), some (.double v4), none, some (.double v6), none, some (.int v8), some (.int v9)], [], st_h I J, c, k) r ↔ (if v9 < (33 : Int32) then (if (Op.cmpValue (FP.dcmp v6 v4) .g) < (0 : Int32) then ((pm_n64 (FP.dmul v6 (4611686018427387904 : UInt64))) = true ∧ Gx X (d + 2) (kc_Ra_sizeBits, []) (145, [some (.double p0), none, some (.int p1), some (.int v3), some (.double v4), none, some (.double (FP.dmul v6 (4611686018427387904 : UInt64))), none, some (.int (v8 + (-1 : Int32))), some (.int (v9 + (1 : Int32)))], [], st_h I J, c, k) r) else r = (.inl (some (.long (if ((v8 + v3) + (if p1 = (0 : Int32) then (127 : Int32) else (1023 : Int32))) < (1 : Int32) then (ju (FP.d2l v6) ((1 : Int32) - ((v8 + v3) + (if p1 = (0 : Int32) then (127 : Int32) else (1023 : Int32))))) else ((jl (Int32.toInt64 ((v8 + v3) + (if p1 = (0 : Int32) then (127 : Int32) else (1023 : Int32)))) v3) ||| ((FP.d2l v6) &&& (if v3 < (64 : Int32) then ((jl (1 : Int64) v3) - (1 : Int64)) else (-1 : Int64))))))), st_h I J, c, k)) else r = (.inl (some (.long (if ((v8 + v3) + (if p1 = (0 : Int32) then (127 : Int32) else (1023 : Int32))) < (1 : Int32) then (ju (FP.d2l v6) ((1 : Int32) - ((v8 + v3) + (if p1 = (0 : Int32) then (127 : Int32) else (1023 : Int32))))) else ((jl (Int32.toInt64 ((v8 + v3) + (if p1 = (0 : Int32) then (127 : Int32) else (1023 : Int32)))) v3) ||| ((FP.d2l v6) &&& (if v3 < (64 : Int32) then ((jl (1 : Int64) v3) - (1 : Int64)) else (-1 : Int64))))))), st_h I J, c, k)) := by
  refine (t_p (pc' := 149) (ls' := [some (.double p0), none, some (.int p1), some (.int v3), some (.double v4), none, some (.double v6), none, some (.int v8), some (.int v9)]) (st' := [.int (33 : Int32), .int v9]) 2 rfl).trans ?_
  refine cg (t_ige rfl) ?_ ?_
  · refine (t_p (pc' := 157) (ls' := [some (.double p0), none, some (.int p1), some (.int v3), some (.double v4), none, some (.double v6), none, some (.int v8), some (.int v9)]) (st' := [.int (Op.cmpValue (FP.dcmp v6 v4) .g)]) 3 rfl).trans ?_
    refine cg (t_fge rfl) ?_ ?_
    · refine (t_p (pc' := 165) (ls' := [some (.double p0), none, some (.int p1), some (.int v3), some (.double v4), none, some (.double v6), none, some (.int v8), some (.int v9)]) (st' := [.double (4611686018427387904 : UInt64), .double v6]) 2 rfl).trans ?_
      refine t_an (t_d2 FP.dmul rfl rfl rfl) (fun h7 => ?_)
      exact t_p (pc' := 145) (ls' := [some (.double p0), none, some (.int p1), some (.int v3), some (.double v4), none, some (.double (FP.dmul v6 (4611686018427387904 : UInt64))), none, some (.int (v8 + (-1 : Int32))), some (.int (v9 + (1 : Int32)))]) (st' := []) 4 rfl
    · refine (t_p (pc' := 185) (ls' := [some (.double p0), none, some (.int p1), some (.int v3), some (.double v4), none, some (.double v6), none, some (.int v8), some (.int v9)]) (st' := [.int p1, .int (v8 + v3), .long (FP.d2l v6)]) 6 rfl).trans ?_
      refine (t_cQ rfl rfl rfl (fun q => ev_Ra_bias (d := d + 1)  q)).trans ?_
      refine (ex_q).trans ?_
      refine (t_p (pc' := 190) (ls' := [some (.double p0), none, some (.int p1), some (.int v3), some (.double v4), none, some (.double v6), none, some (.int v8), some (.int v9)]) (st' := [.int v3, .int ((v8 + v3) + (if p1 = (0 : Int32) then (127 : Int32) else (1023 : Int32))), .long (FP.d2l v6)]) 2 rfl).trans ?_
      refine (t_cQ rfl rfl rfl (fun q => ev_Ra_joined (d := d)  q)).trans ?_
      refine (ex_q).trans ?_
      exact t_rJ rfl
  · refine (t_p (pc' := 185) (ls' := [some (.double p0), none, some (.int p1), some (.int v3), some (.double v4), none, some (.double v6), none, some (.int v8), some (.int v9)]) (st' := [.int p1, .int (v8 + v3), .long (FP.d2l v6)]) 6 rfl).trans ?_
    refine (t_cQ rfl rfl rfl (fun q => ev_Ra_bias (d := d + 1)  q)).trans ?_
    refine (ex_q).trans ?_
    refine (t_p (pc' := 190) (ls' := [some (.double p0), none, some (.int p1), some (.int v3), some (.double v4), none, some (.double v6), none, some (.int v8), some (.int v9)]) (st' := [.int v3, .int ((v8 + v3) + (if p1 = (0 : Int32) then (127 : Int32) else (1023 : Int32))), .long (FP.d2l v6)]) 2 rfl).trans ?_
    refine (t_cQ rfl rfl rfl (fun q => ev_Ra_joined (d := d)  q)).trans ?_
    refine (ex_q).trans ?_
    exact t_rJ rfl
theorem e_Fr_fill {X : pm_X} {d : Nat} {I : st_I} {J : st_J}  (r : pm_R) : Ex X (d + 2) 126 [.ref 10, .ref 1] (st_h I J) r ↔ Gx X (d + 1) (kc_Fr_fill, []) (13, [some (.ref 10), some (.ref 1), some (.int (0 : Int32))], [], st_h (st_w I 10 1 (((I 1 2) / (2 : Int32)) + (1 : Int32))) J, 0, 0) r := by
  refine (Ex_iff (M := (kc_Fr_fill, [])) (n := 3) rfl rfl).trans ?_
  refine (t_p (pc' := 2) (ls' := [some (.ref 10), some (.ref 1), none]) (st' := [.ref 1, .ref 10]) 2 rfl).trans ?_
  refine (t_gI rfl rfl).trans ?_
  refine (t_cQ rfl rfl rfl (fun q => ev_Fr_headGroups (d := d)  q)).trans ?_
  refine (ex_q).trans ?_
  refine (t_pI rfl rfl).trans ?_
  exact t_p (pc' := 13) (ls' := [some (.ref 10), some (.ref 1), some (.int (0 : Int32))]) (st' := []) 2 rfl
theorem b_Fr_fill_13 {X : pm_X} {d : Nat} {I : st_I} {J : st_J}  {v2 : Int32} {c k : Nat} (r : pm_R) : Gx X (d + 1) (kc_Fr_fill, []) (13, [some (.ref 10), some (.ref 1), some (.int v2)], [], st_h I J, c, k) r ↔ (if v2 < (I 10 1) then (((¬ (((2 : Int32) * v2) = (0 : Int32))) → ((¬ ((I 1 2) < ((2 : Int32) * v2))) → (pm_in (((2 : Int32) * v2) - (1 : Int32)) 4) = true)) ∧ (((¬ ((((2 : Int32) * v2) + (1 : Int32)) = (0 : Int32))) → ((¬ ((I 1 2) < (((2 : Int32) * v2) + (1 : Int32)))) → (pm_in ((((2 : Int32) * v2) + (1 : Int32)) - (1 : Int32)) 4) = true)) ∧ ((pm_in v2 259) = true ∧ Gx X (d + 1) (kc_Fr_fill, []) (13, [some (.ref 10), some (.ref 1), some (.int (v2 + (1 : Int32)))], [], st_h I (st_y J 11 (Int32.toNatClampNeg v2) ((if ((2 : Int32) * v2) = (0 : Int32) then (Int32.toInt64 ((I 1 2) - (1 : Int32))) else (if (I 1 2) < ((2 : Int32) * v2) then (0 : Int64) else (Int32.toInt64 (I 7 (Int32.toNatClampNeg (((2 : Int32) * v2) - (1 : Int32))))))) ||| (jl (if (((2 : Int32) * v2) + (1 : Int32)) = (0 : Int32) then (Int32.toInt64 ((I 1 2) - (1 : Int32))) else (if (I 1 2) < (((2 : Int32) * v2) + (1 : Int32)) then (0 : Int64) else (Int32.toInt64 (I 7 (Int32.toNatClampNeg ((((2 : Int32) * v2) + (1 : Int32)) - (1 : Int32))))))) (32 : Int32)))), c, k) r))) else Gx X (d + 1) (kc_Fr_fill, []) (55, [some (.ref 10), some (.ref 1), some (.int (0 : Int32))], [], st_h I J, c, k) r) := by
  refine (t_p (pc' := 15) (ls' := [some (.ref 10), some (.ref 1), some (.int v2)]) (st' := [.ref 10, .int v2]) 2 rfl).trans ?_
  refine (t_gI rfl rfl).trans ?_
  refine cg (t_ige rfl) ?_ ?_
  · refine (t_p (pc' := 22) (ls' := [some (.ref 10), some (.ref 1), some (.int v2)]) (st' := [.ref 10]) 1 rfl).trans ?_
    refine (t_gR rfl rfl).trans ?_
    refine (t_p (pc' := 30) (ls' := [some (.ref 10), some (.ref 1), some (.int v2)]) (st' := [.int ((2 : Int32) * v2), .ref 1, .int v2, .ref 11]) 5 rfl).trans ?_
    refine (t_cQ rfl rfl rfl (fun q => ev_Fr_numberInFront (d := d)  q)).trans ?_
    refine t_an (ex_a) (fun h5 => ?_)
    refine (ex_q).trans ?_
    refine (t_p (pc' := 39) (ls' := [some (.ref 10), some (.ref 1), some (.int v2)]) (st' := [.int (((2 : Int32) * v2) + (1 : Int32)), .ref 1, .long (if ((2 : Int32) * v2) = (0 : Int32) then (Int32.toInt64 ((I 1 2) - (1 : Int32))) else (if (I 1 2) < ((2 : Int32) * v2) then (0 : Int64) else (Int32.toInt64 (I 7 (Int32.toNatClampNeg (((2 : Int32) * v2) - (1 : Int32))))))), .int v2, .ref 11]) 6 rfl).trans ?_
    refine (t_cQ rfl rfl rfl (fun q => ev_Fr_numberInFront (d := d)  q)).trans ?_
    refine t_an (ex_a) (fun h6 => ?_)
    refine (ex_q).trans ?_
    refine (t_p (pc' := 46) (ls' := [some (.ref 10), some (.ref 1), some (.int v2)]) (st' := [.long ((if ((2 : Int32) * v2) = (0 : Int32) then (Int32.toInt64 ((I 1 2) - (1 : Int32))) else (if (I 1 2) < ((2 : Int32) * v2) then (0 : Int64) else (Int32.toInt64 (I 7 (Int32.toNatClampNeg (((2 : Int32) * v2) - (1 : Int32))))))) ||| (jl (if (((2 : Int32) * v2) + (1 : Int32)) = (0 : Int32) then (Int32.toInt64 ((I 1 2) - (1 : Int32))) else (if (I 1 2) < (((2 : Int32) * v2) + (1 : Int32)) then (0 : Int64) else (Int32.toInt64 (I 7 (Int32.toNatClampNeg ((((2 : Int32) * v2) + (1 : Int32)) - (1 : Int32))))))) (32 : Int32))), .int v2, .ref 11]) 3 rfl).trans ?_
    refine t_an (t_sJ rfl rfl) (fun h7 => ?_)
    exact t_p (pc' := 13) (ls' := [some (.ref 10), some (.ref 1), some (.int (v2 + (1 : Int32)))]) (st' := []) 2 rfl
  · exact t_p (pc' := 55) (ls' := [some (.ref 10), some (.ref 1), some (.int (0 : Int32))]) (st' := []) 2 rfl
theorem b_Fr_fill_55 {X : pm_X} {d : Nat} {I : st_I} {J : st_J}  {v2 : Int32} {c k : Nat} (r : pm_R) : Gx X (d + 1) (kc_Fr_fill, []) (55, [some (.ref 10), some (.ref 1), some (.int v2)], [], st_h I J, c, k) r ↔ (if v2 < (I 1 2) then ((pm_in v2 4) = true ∧ ((st_cpk (0 : Int32) (I 10 1) (I 7 (Int32.toNatClampNeg v2)) 64 259) = true ∧ Gx X (d + 1) (kc_Fr_fill, []) (55, [some (.ref 10), some (.ref 1), some (.int (v2 + (1 : Int32)))], [], st_h (st_w I 10 1 ((I 10 1) + (I 7 (Int32.toNatClampNeg v2)))) (st_yr J 11 (va_cpy (J (3 + (Int32.toNatClampNeg v2))) (J 11) 0 (Int32.toNatClampNeg (I 10 1)) (Int32.toNatClampNeg (I 7 (Int32.toNatClampNeg v2))))), c, k) r)) else r = (.inl none, st_h I J, c, k)) := by
  refine (t_p (pc' := 57) (ls' := [some (.ref 10), some (.ref 1), some (.int v2)]) (st' := [.ref 1, .int v2]) 2 rfl).trans ?_
  refine (t_gI rfl rfl).trans ?_
  refine cg (t_ige rfl) ?_ ?_
  · refine (t_p (pc' := 64) (ls' := [some (.ref 10), some (.ref 1), some (.int v2)]) (st' := [.ref 1]) 1 rfl).trans ?_
    refine (t_gR rfl rfl).trans ?_
    refine (t_p (pc' := 68) (ls' := [some (.ref 10), some (.ref 1), some (.int v2)]) (st' := [.int v2, .ref 2]) 1 rfl).trans ?_
    refine t_an (t_lR1 rfl rfl) (fun h4 => ?_)
    refine (t_p (pc' := 71) (ls' := [some (.ref 10), some (.ref 1), some (.int v2)]) (st' := [.ref 10, .int (0 : Int32), .ref (3 + (Int32.toNatClampNeg v2))]) 2 rfl).trans ?_
    refine (t_gR rfl rfl).trans ?_
    refine (t_p (pc' := 75) (ls' := [some (.ref 10), some (.ref 1), some (.int v2)]) (st' := [.ref 10, .ref 11, .int (0 : Int32), .ref (3 + (Int32.toNatClampNeg v2))]) 1 rfl).trans ?_
    refine (t_gI rfl rfl).trans ?_
    refine (t_p (pc' := 79) (ls' := [some (.ref 10), some (.ref 1), some (.int v2)]) (st' := [.ref 1, .int (I 10 1), .ref 11, .int (0 : Int32), .ref (3 + (Int32.toNatClampNeg v2))]) 1 rfl).trans ?_
    refine (t_gR rfl rfl).trans ?_
    refine (t_p (pc' := 83) (ls' := [some (.ref 10), some (.ref 1), some (.int v2)]) (st' := [.int v2, .ref 7, .int (I 10 1), .ref 11, .int (0 : Int32), .ref (3 + (Int32.toNatClampNeg v2))]) 1 rfl).trans ?_
    refine ((t_lI rfl rfl).trans (and_t h4)).trans ?_
    refine t_an (t_cp rfl (siW1 h4) rfl rfl) (fun h5 => ?_)
    refine (t_p (pc' := 89) (ls' := [some (.ref 10), some (.ref 1), some (.int v2)]) (st' := [.ref 10, .ref 10]) 2 rfl).trans ?_
    refine (t_gI rfl rfl).trans ?_
    refine (t_p (pc' := 93) (ls' := [some (.ref 10), some (.ref 1), some (.int v2)]) (st' := [.ref 1, .int (I 10 1), .ref 10]) 1 rfl).trans ?_
    refine (t_gR rfl rfl).trans ?_
    refine (t_p (pc' := 97) (ls' := [some (.ref 10), some (.ref 1), some (.int v2)]) (st' := [.int v2, .ref 7, .int (I 10 1), .ref 10]) 1 rfl).trans ?_
    refine ((t_lI rfl rfl).trans (and_t h4)).trans ?_
    refine (t_p (pc' := 99) (ls' := [some (.ref 10), some (.ref 1), some (.int v2)]) (st' := [.int ((I 10 1) + (I 7 (Int32.toNatClampNeg v2))), .ref 10]) 1 rfl).trans ?_
    refine (t_pI rfl rfl).trans ?_
    exact t_p (pc' := 55) (ls' := [some (.ref 10), some (.ref 1), some (.int (v2 + (1 : Int32)))]) (st' := []) 2 rfl
  · exact t_rV rfl
theorem e_Fr_tagOf {X : pm_X} {d : Nat} {I : st_I} {J : st_J} {p0 : Int64} (r : pm_R) : Ex X (d + 2) 130 [.long p0] (st_h I J) r ↔ Gx X (d + 1) (kc_Fr_tagOf, []) (4, [some (.long p0), none, some (.int (0 : Int32)), some (.int (0 : Int32))], [], st_h I J, 0, 0) r := by
  refine (Ex_iff (M := (kc_Fr_tagOf, [])) (n := 4) rfl rfl).trans ?_
  exact t_p (pc' := 4) (ls' := [some (.long p0), none, some (.int (0 : Int32)), some (.int (0 : Int32))]) (st' := []) 4 rfl
theorem b_Fr_tagOf_4 {X : pm_X} {d : Nat} {I : st_I} {J : st_J} {p0 : Int64} {v2 : Int32} {v3 : Int32} {c k : Nat} (r : pm_R) : Gx X (d + 1) (kc_Fr_tagOf, []) (4, [some (.long p0), none, some (.int v2), some (.int v3)], [], st_h I J, c, k) r ↔ (if v3 < (8 : Int32) then (if ((Int64.toInt32 (ju p0 ((8 : Int32) * v3))) &&& (255 : Int32)) = (0 : Int32) then Gx X (d + 1) (kc_Fr_tagOf, []) (4, [some (.long p0), none, some (.int v2), some (.int (v3 + (1 : Int32)))], [], st_h I J, c, k) r else Gx X (d + 1) (kc_Fr_tagOf, []) (4, [some (.long p0), none, some (.int (v2 ||| (il (1 : Int32) v3))), some (.int (v3 + (1 : Int32)))], [], st_h I J, c, k) r) else r = (.inl (some (.int v2)), st_h I J, c, k)) := by
  refine (t_p (pc' := 7) (ls' := [some (.long p0), none, some (.int v2), some (.int v3)]) (st' := [.int (8 : Int32), .int v3]) 2 rfl).trans ?_
  refine cg (t_ige rfl) ?_ ?_
  · refine (t_p (pc' := 12) (ls' := [some (.long p0), none, some (.int v2), some (.int v3)]) (st' := [.int v3, .long p0]) 2 rfl).trans ?_
    refine (t_cQ rfl rfl rfl (fun q => ev_D_octetOf (d := d)  q)).trans ?_
    refine (ex_q).trans ?_
    refine cg (t_feq rfl) ?_ ?_
    · exact t_p (pc' := 4) (ls' := [some (.long p0), none, some (.int v2), some (.int (v3 + (1 : Int32)))]) (st' := []) 2 rfl
    · exact t_p (pc' := 4) (ls' := [some (.long p0), none, some (.int (v2 ||| (il (1 : Int32) v3))), some (.int (v3 + (1 : Int32)))]) (st' := []) 8 rfl
  · refine (t_p (pc' := 31) (ls' := [some (.long p0), none, some (.int v2), some (.int v3)]) (st' := [.int v2]) 1 rfl).trans ?_
    exact t_rI rfl
theorem e_Fr_check {X : pm_X} {d : Nat} {I : st_I} {J : st_J}  (r : pm_R) : Ex X (d + 2) 147 [.ref 10] (st_h I J) r ↔ (if (I 10 1) = (0 : Int32) then r = (.inr 2, st_h I J, 1, 6) else ((pm_in ((0 : Int32) / (2 : Int32)) 259) = true ∧ (if ((ju (J 11 (Int32.toNatClampNeg ((0 : Int32) / (2 : Int32)))) ((32 : Int32) * (irm (0 : Int32) (2 : Int32)))) &&& (4294967295 : Int64)) < (4 : Int64) then (if (I 10 1) < ((((Int64.toInt32 ((ju (J 11 (Int32.toNatClampNeg ((0 : Int32) / (2 : Int32)))) ((32 : Int32) * (irm (0 : Int32) (2 : Int32)))) &&& (4294967295 : Int64))) + (1 : Int32)) / (2 : Int32)) + (1 : Int32)) then r = (.inr 2, st_h I J, 1, 6) else Gx X (d + 1) (kc_Fr_check, []) (59, [some (.ref 10), some (.int ((Int64.toInt32 ((ju (J 11 (Int32.toNatClampNeg ((0 : Int32) / (2 : Int32)))) ((32 : Int32) * (irm (0 : Int32) (2 : Int32)))) &&& (4294967295 : Int64))) + (1 : Int32))), some (.int ((((Int64.toInt32 ((ju (J 11 (Int32.toNatClampNeg ((0 : Int32) / (2 : Int32)))) ((32 : Int32) * (irm (0 : Int32) (2 : Int32)))) &&& (4294967295 : Int64))) + (1 : Int32)) / (2 : Int32)) + (1 : Int32))), some (.int (0 : Int32))], [], st_h I J, 0, 0) r) else r = (.inr 2, st_h I J, 1, 6)))) := by
  refine (Ex_iff (M := (kc_Fr_check, [])) (n := 4) rfl rfl).trans ?_
  refine (t_p (pc' := 1) (ls' := [some (.ref 10), none, none, none]) (st' := [.ref 10]) 1 rfl).trans ?_
  refine (t_gI rfl rfl).trans ?_
  refine cg (t_feq rfl) ?_ ?_
  · refine (t_p (pc' := 24) (ls' := [some (.ref 10), none, none, none]) (st' := [.int (1 : Int32)]) 2 rfl).trans ?_
    refine (t_cQ rfl rfl rfl (fun q => ev_D_malformedIf (d := d)  q)).trans ?_
    refine cgF (ex_i) (show ¬ ((1 : Int32) = (0 : Int32)) by decide) ?_
    exact ex_x
  · refine (t_p (pc' := 9) (ls' := [some (.ref 10), none, none, none]) (st' := [.int (0 : Int32), .ref 10]) 2 rfl).trans ?_
    refine (t_cW rfl rfl rfl rfl (fun q => ev_Fr_headNumber (d := d)  q)).trans ?_
    refine t_an (ex_a) (fun h3 => ?_)
    refine (ex_q).trans ?_
    refine (t_p (pc' := 16) (ls' := [some (.ref 10), none, none, none]) (st' := [.int (lg_cmp ((ju (J 11 (Int32.toNatClampNeg ((0 : Int32) / (2 : Int32)))) ((32 : Int32) * (irm (0 : Int32) (2 : Int32)))) &&& (4294967295 : Int64)) (4 : Int64))]) 2 rfl).trans ?_
    refine (mgI (t_Llt rfl) bj_01 (t_p (pc' := 24) (ls' := [some (.ref 10), none, none, none]) (st' := [.int (0 : Int32)]) 1 rfl) (t_p (pc' := 24) (ls' := [some (.ref 10), none, none, none]) (st' := [.int (1 : Int32)]) 2 rfl)).trans ?_
    refine (t_cQ rfl rfl rfl (fun q => ev_D_malformedIf (d := d)  q)).trans ?_
    refine cg (cgBN (ex_i)) ?_ ?_
    · refine (ex_q).trans ?_
      refine (t_p (pc' := 29) (ls' := [some (.ref 10), none, none, none]) (st' := [.int (0 : Int32), .ref 10]) 2 rfl).trans ?_
      refine (t_cW rfl rfl rfl rfl (fun q => ev_Fr_headNumber (d := d)  q)).trans ?_
      refine (ex_a.trans (and_t h3)).trans ?_
      refine (ex_q).trans ?_
      refine (t_p (pc' := 37) (ls' := [some (.ref 10), some (.int ((Int64.toInt32 ((ju (J 11 (Int32.toNatClampNeg ((0 : Int32) / (2 : Int32)))) ((32 : Int32) * (irm (0 : Int32) (2 : Int32)))) &&& (4294967295 : Int64))) + (1 : Int32))), none, none]) (st' := [.int ((Int64.toInt32 ((ju (J 11 (Int32.toNatClampNeg ((0 : Int32) / (2 : Int32)))) ((32 : Int32) * (irm (0 : Int32) (2 : Int32)))) &&& (4294967295 : Int64))) + (1 : Int32))]) 5 rfl).trans ?_
      refine (t_cQ rfl rfl rfl (fun q => ev_Fr_headGroups (d := d)  q)).trans ?_
      refine (ex_q).trans ?_
      refine (t_p (pc' := 42) (ls' := [some (.ref 10), some (.int ((Int64.toInt32 ((ju (J 11 (Int32.toNatClampNeg ((0 : Int32) / (2 : Int32)))) ((32 : Int32) * (irm (0 : Int32) (2 : Int32)))) &&& (4294967295 : Int64))) + (1 : Int32))), some (.int ((((Int64.toInt32 ((ju (J 11 (Int32.toNatClampNeg ((0 : Int32) / (2 : Int32)))) ((32 : Int32) * (irm (0 : Int32) (2 : Int32)))) &&& (4294967295 : Int64))) + (1 : Int32)) / (2 : Int32)) + (1 : Int32))), none]) (st' := [.ref 10]) 2 rfl).trans ?_
      refine (t_gI rfl rfl).trans ?_
      refine (t_p (pc' := 46) (ls' := [some (.ref 10), some (.int ((Int64.toInt32 ((ju (J 11 (Int32.toNatClampNeg ((0 : Int32) / (2 : Int32)))) ((32 : Int32) * (irm (0 : Int32) (2 : Int32)))) &&& (4294967295 : Int64))) + (1 : Int32))), some (.int ((((Int64.toInt32 ((ju (J 11 (Int32.toNatClampNeg ((0 : Int32) / (2 : Int32)))) ((32 : Int32) * (irm (0 : Int32) (2 : Int32)))) &&& (4294967295 : Int64))) + (1 : Int32)) / (2 : Int32)) + (1 : Int32))), none]) (st' := [.int ((((Int64.toInt32 ((ju (J 11 (Int32.toNatClampNeg ((0 : Int32) / (2 : Int32)))) ((32 : Int32) * (irm (0 : Int32) (2 : Int32)))) &&& (4294967295 : Int64))) + (1 : Int32)) / (2 : Int32)) + (1 : Int32)), .int (I 10 1)]) 1 rfl).trans ?_
      refine (mgI (t_ige rfl) bj_10 (t_p (pc' := 54) (ls' := [some (.ref 10), some (.int ((Int64.toInt32 ((ju (J 11 (Int32.toNatClampNeg ((0 : Int32) / (2 : Int32)))) ((32 : Int32) * (irm (0 : Int32) (2 : Int32)))) &&& (4294967295 : Int64))) + (1 : Int32))), some (.int ((((Int64.toInt32 ((ju (J 11 (Int32.toNatClampNeg ((0 : Int32) / (2 : Int32)))) ((32 : Int32) * (irm (0 : Int32) (2 : Int32)))) &&& (4294967295 : Int64))) + (1 : Int32)) / (2 : Int32)) + (1 : Int32))), none]) (st' := [.int (1 : Int32)]) 2 rfl) (t_p (pc' := 54) (ls' := [some (.ref 10), some (.int ((Int64.toInt32 ((ju (J 11 (Int32.toNatClampNeg ((0 : Int32) / (2 : Int32)))) ((32 : Int32) * (irm (0 : Int32) (2 : Int32)))) &&& (4294967295 : Int64))) + (1 : Int32))), some (.int ((((Int64.toInt32 ((ju (J 11 (Int32.toNatClampNeg ((0 : Int32) / (2 : Int32)))) ((32 : Int32) * (irm (0 : Int32) (2 : Int32)))) &&& (4294967295 : Int64))) + (1 : Int32)) / (2 : Int32)) + (1 : Int32))), none]) (st' := [.int (0 : Int32)]) 1 rfl)).trans ?_
      refine (t_cQ rfl rfl rfl (fun q => ev_D_malformedIf (d := d)  q)).trans ?_
      refine cg (cgB (ex_i)) ?_ ?_
      · exact ex_x
      · refine (ex_q).trans ?_
        exact t_p (pc' := 59) (ls' := [some (.ref 10), some (.int ((Int64.toInt32 ((ju (J 11 (Int32.toNatClampNeg ((0 : Int32) / (2 : Int32)))) ((32 : Int32) * (irm (0 : Int32) (2 : Int32)))) &&& (4294967295 : Int64))) + (1 : Int32))), some (.int ((((Int64.toInt32 ((ju (J 11 (Int32.toNatClampNeg ((0 : Int32) / (2 : Int32)))) ((32 : Int32) * (irm (0 : Int32) (2 : Int32)))) &&& (4294967295 : Int64))) + (1 : Int32)) / (2 : Int32)) + (1 : Int32))), some (.int (0 : Int32))]) (st' := []) 2 rfl
    · exact ex_x
theorem b_Fr_check_59 {X : pm_X} {d : Nat} {I : st_I} {J : st_J}  {v1 : Int32} {v2 : Int32} {v3 : Int32} {c k : Nat} (r : pm_R) : Gx X (d + 1) (kc_Fr_check, []) (59, [some (.ref 10), some (.int v1), some (.int v2), some (.int v3)], [], st_h I J, c, k) r ↔ (if v3 < v1 then ((pm_in ((v3 + (1 : Int32)) / (2 : Int32)) 259) = true ∧ (if (64 : Int64) < ((ju (J 11 (Int32.toNatClampNeg ((v3 + (1 : Int32)) / (2 : Int32)))) ((32 : Int32) * (irm (v3 + (1 : Int32)) (2 : Int32)))) &&& (4294967295 : Int64)) then r = (.inr 2, st_h I J, c + 1, k + 6) else Gx X (d + 1) (kc_Fr_check, []) (59, [some (.ref 10), some (.int v1), some (.int (v2 + (Int64.toInt32 ((ju (J 11 (Int32.toNatClampNeg ((v3 + (1 : Int32)) / (2 : Int32)))) ((32 : Int32) * (irm (v3 + (1 : Int32)) (2 : Int32)))) &&& (4294967295 : Int64))))), some (.int (v3 + (1 : Int32)))], [], st_h I J, c, k) r)) else (if (I 10 1) = v2 then r = (.inl none, st_h I J, c, k) else r = (.inr 2, st_h I J, c + 1, k + 6))) := by
  refine (t_p (pc' := 61) (ls' := [some (.ref 10), some (.int v1), some (.int v2), some (.int v3)]) (st' := [.int v1, .int v3]) 2 rfl).trans ?_
  refine cg (t_ige rfl) ?_ ?_
  · refine (t_p (pc' := 68) (ls' := [some (.ref 10), some (.int v1), some (.int v2), some (.int v3)]) (st' := [.int (v3 + (1 : Int32)), .ref 10]) 4 rfl).trans ?_
    refine (t_cW rfl rfl rfl rfl (fun q => ev_Fr_headNumber (d := d)  q)).trans ?_
    refine t_an (ex_a) (fun h4 => ?_)
    refine (ex_q).trans ?_
    refine (t_p (pc' := 75) (ls' := [some (.ref 10), some (.int v1), some (.int v2), some (.int v3)]) (st' := [.int (lg_cmp ((ju (J 11 (Int32.toNatClampNeg ((v3 + (1 : Int32)) / (2 : Int32)))) ((32 : Int32) * (irm (v3 + (1 : Int32)) (2 : Int32)))) &&& (4294967295 : Int64)) (64 : Int64))]) 2 rfl).trans ?_
    refine (mgI (t_Lle rfl) bj_10 (t_p (pc' := 83) (ls' := [some (.ref 10), some (.int v1), some (.int v2), some (.int v3)]) (st' := [.int (1 : Int32)]) 2 rfl) (t_p (pc' := 83) (ls' := [some (.ref 10), some (.int v1), some (.int v2), some (.int v3)]) (st' := [.int (0 : Int32)]) 1 rfl)).trans ?_
    refine (t_cQ rfl rfl rfl (fun q => ev_D_malformedIf (d := d)  q)).trans ?_
    refine cg (cgB (ex_i)) ?_ ?_
    · exact ex_x
    · refine (ex_q).trans ?_
      refine (t_p (pc' := 91) (ls' := [some (.ref 10), some (.int v1), some (.int v2), some (.int v3)]) (st' := [.int (v3 + (1 : Int32)), .ref 10, .int v2]) 5 rfl).trans ?_
      refine (t_cW rfl rfl rfl rfl (fun q => ev_Fr_headNumber (d := d)  q)).trans ?_
      refine (ex_a.trans (and_t h4)).trans ?_
      refine (ex_q).trans ?_
      exact t_p (pc' := 59) (ls' := [some (.ref 10), some (.int v1), some (.int (v2 + (Int64.toInt32 ((ju (J 11 (Int32.toNatClampNeg ((v3 + (1 : Int32)) / (2 : Int32)))) ((32 : Int32) * (irm (v3 + (1 : Int32)) (2 : Int32)))) &&& (4294967295 : Int64))))), some (.int (v3 + (1 : Int32)))]) (st' := []) 5 rfl
  · refine (t_p (pc' := 104) (ls' := [some (.ref 10), some (.int v1), some (.int v2), some (.int v3)]) (st' := [.ref 10]) 1 rfl).trans ?_
    refine (t_gI rfl rfl).trans ?_
    refine (t_p (pc' := 108) (ls' := [some (.ref 10), some (.int v1), some (.int v2), some (.int v3)]) (st' := [.int v2, .int (I 10 1)]) 1 rfl).trans ?_
    refine (mgI (t_ieq rfl) bj_01 (t_p (pc' := 116) (ls' := [some (.ref 10), some (.int v1), some (.int v2), some (.int v3)]) (st' := [.int (0 : Int32)]) 1 rfl) (t_p (pc' := 116) (ls' := [some (.ref 10), some (.int v1), some (.int v2), some (.int v3)]) (st' := [.int (1 : Int32)]) 2 rfl)).trans ?_
    refine (t_cQ rfl rfl rfl (fun q => ev_D_malformedIf (d := d)  q)).trans ?_
    refine cg (cgBN (ex_i)) ?_ ?_
    · refine (ex_q).trans ?_
      exact t_rV rfl
    · exact ex_x
theorem e_Ca_copyData {X : pm_X} {d : Nat} {I : st_I} {J : st_J} {p1 : Nat} (g1 : st_aJ p1 = some 64) {p2 : Nat} (g2 : st_isL p2 = true) (r : pm_R) : Ex X (d + 2) 161 [.ref 12, .ref p1, .ref p2] (st_h I J) r ↔ Gx X (d + 1) (kc_Ca_copyData, []) (2, [some (.ref 12), some (.ref p1), some (.ref p2), some (.int (0 : Int32))], [], st_h I J, 0, 0) r := by
  refine (Ex_iff (M := (kc_Ca_copyData, [])) (n := 4) rfl rfl).trans ?_
  exact t_p (pc' := 2) (ls' := [some (.ref 12), some (.ref p1), some (.ref p2), some (.int (0 : Int32))]) (st' := []) 2 rfl
theorem b_Ca_copyData_2 {X : pm_X} {d : Nat} {I : st_I} {J : st_J} {p1 : Nat} (g1 : st_aJ p1 = some 64) {p2 : Nat} (g2 : st_isL p2 = true) {v3 : Int32} {c k : Nat} (r : pm_R) : Gx X (d + 1) (kc_Ca_copyData, []) (2, [some (.ref 12), some (.ref p1), some (.ref p2), some (.int v3)], [], st_h I J, c, k) r ↔ (if v3 < (I p2 1) then ((st_cpk ((I p2 2) + (v3 * ((I p2 3) + (I p2 4)))) ((I p2 5) + (v3 * ((I p2 6) + (I p2 7)))) (I p2 6) 64 64) = true ∧ Gx X (d + 1) (kc_Ca_copyData, []) (2, [some (.ref 12), some (.ref p1), some (.ref p2), some (.int (v3 + (1 : Int32)))], [], st_h I (st_yr J 13 (va_cpy (J p1) (J 13) (Int32.toNatClampNeg ((I p2 2) + (v3 * ((I p2 3) + (I p2 4))))) (Int32.toNatClampNeg ((I p2 5) + (v3 * ((I p2 6) + (I p2 7))))) (Int32.toNatClampNeg (I p2 6)))), c, k) r) else r = (.inl none, st_h I J, c, k)) := by
  refine (t_p (pc' := 4) (ls' := [some (.ref 12), some (.ref p1), some (.ref p2), some (.int v3)]) (st' := [.ref p2, .int v3]) 2 rfl).trans ?_
  refine (t_gI rfl (sfL g2 rfl rfl)).trans ?_
  refine cg (t_ige rfl) ?_ ?_
  · refine (t_p (pc' := 13) (ls' := [some (.ref 12), some (.ref p1), some (.ref p2), some (.int v3)]) (st' := [.int v3, .ref p2, .ref p1]) 3 rfl).trans ?_
    refine (t_cW rfl rfl rfl (clL g2) (fun q => ev_Le_elementFrom (d := d) g2 q)).trans ?_
    refine (ex_q).trans ?_
    refine (t_p (pc' := 17) (ls' := [some (.ref 12), some (.ref p1), some (.ref p2), some (.int v3)]) (st' := [.ref 12, .int ((I p2 2) + (v3 * ((I p2 3) + (I p2 4)))), .ref p1]) 1 rfl).trans ?_
    refine (t_gR rfl rfl).trans ?_
    refine (t_p (pc' := 22) (ls' := [some (.ref 12), some (.ref p1), some (.ref p2), some (.int v3)]) (st' := [.int v3, .ref p2, .ref 13, .int ((I p2 2) + (v3 * ((I p2 3) + (I p2 4)))), .ref p1]) 2 rfl).trans ?_
    refine (t_cW rfl rfl rfl (clL g2) (fun q => ev_Le_elementTo (d := d) g2 q)).trans ?_
    refine (ex_q).trans ?_
    refine (t_p (pc' := 26) (ls' := [some (.ref 12), some (.ref p1), some (.ref p2), some (.int v3)]) (st' := [.ref p2, .int ((I p2 5) + (v3 * ((I p2 6) + (I p2 7)))), .ref 13, .int ((I p2 2) + (v3 * ((I p2 3) + (I p2 4)))), .ref p1]) 1 rfl).trans ?_
    refine (t_gI rfl (sfL g2 rfl rfl)).trans ?_
    refine t_an (t_cp rfl g1 rfl rfl) (fun h3 => ?_)
    exact t_p (pc' := 2) (ls' := [some (.ref 12), some (.ref p1), some (.ref p2), some (.int (v3 + (1 : Int32)))]) (st' := []) 2 rfl
  · exact t_rV rfl
theorem e_M_forget {X : pm_X} {d : Nat} {I : st_I} {J : st_J}  (r : pm_R) : Ex X (d + 2) 174 [.ref 166] (st_h I J) r ↔ Gx X (d + 1) (kc_M_forget, []) (2, [some (.ref 166), some (.int (0 : Int32))], [], st_h I J, 0, 0) r := by
  refine (Ex_iff (M := (kc_M_forget, [])) (n := 2) rfl rfl).trans ?_
  exact t_p (pc' := 2) (ls' := [some (.ref 166), some (.int (0 : Int32))]) (st' := []) 2 rfl
theorem b_M_forget_2 {X : pm_X} {d : Nat} {I : st_I} {J : st_J}  {v1 : Int32} {c k : Nat} (r : pm_R) : Gx X (d + 1) (kc_M_forget, []) (2, [some (.ref 166), some (.int v1)], [], st_h I J, c, k) r ↔ (if v1 < (17 : Int32) then ((pm_in v1 17) = true ∧ Gx X (d + 1) (kc_M_forget, []) (2, [some (.ref 166), some (.int (v1 + (1 : Int32)))], [], st_h (st_w (st_w (st_w (st_w (st_w (st_w (st_w (st_w (st_w (st_w I 173 (Int32.toNatClampNeg v1) (0 : Int32)) 174 (Int32.toNatClampNeg v1) (0 : Int32)) 175 (Int32.toNatClampNeg v1) (0 : Int32)) 176 (Int32.toNatClampNeg v1) (0 : Int32)) 177 (Int32.toNatClampNeg v1) (0 : Int32)) 178 (Int32.toNatClampNeg v1) (0 : Int32)) 179 (Int32.toNatClampNeg v1) (0 : Int32)) 180 (Int32.toNatClampNeg v1) (0 : Int32)) 181 (Int32.toNatClampNeg v1) (0 : Int32)) 182 (Int32.toNatClampNeg v1) (0 : Int32)) J, c, k) r) else r = (.inl none, st_h I J, c, k)) := by
  refine (t_p (pc' := 5) (ls' := [some (.ref 166), some (.int v1)]) (st' := [.int (17 : Int32), .int v1]) 2 rfl).trans ?_
  refine cg (t_ige rfl) ?_ ?_
  · refine (t_p (pc' := 10) (ls' := [some (.ref 166), some (.int v1)]) (st' := [.int v1, .ref 166]) 2 rfl).trans ?_
    refine (t_cW rfl rfl rfl rfl (fun q => ev_M_clear (d := d)  q)).trans ?_
    refine t_an (ex_a) (fun h3 => ?_)
    refine (ex_q).trans ?_
    exact t_p (pc' := 2) (ls' := [some (.ref 166), some (.int (v1 + (1 : Int32)))]) (st' := []) 2 rfl
  · exact t_rV rfl
theorem e_M_unpacked {X : pm_X} {d : Nat} {I : st_I} {J : st_J}  (r : pm_R) : Ex X (d + 2) 228 [.ref 166] (st_h I J) r ↔ Gx X (d + 1) (kc_M_unpacked, []) (4, [some (.ref 166), some (.int (0 : Int32)), some (.int (0 : Int32)), none, none, none, none, none, none], [], st_h I J, 0, 0) r := by
  refine (Ex_iff (M := (kc_M_unpacked, [])) (n := 9) rfl rfl).trans ?_
  exact t_p (pc' := 4) (ls' := [some (.ref 166), some (.int (0 : Int32)), some (.int (0 : Int32)), none, none, none, none, none, none]) (st' := []) 4 rfl
theorem b_M_unpacked_4 {X : pm_X} {d : Nat} {I : st_I} {J : st_J}  {v1 : Int32} {v2 : Int32} {u3 : Option Value} {u4 : Option Value} {u5 : Option Value} {u6 : Option Value} {u7 : Option Value} {u8 : Option Value} {c k : Nat} (r : pm_R) : Gx X (d + 1) (kc_M_unpacked, []) (4, [some (.ref 166), some (.int v1), some (.int v2), u3, u4, u5, u6, u7, u8], [], st_h I J, c, k) r ↔ (if v2 < (I 166 7) then ((pm_in v2 1500) = true ∧ Gx X (d + 1) (kc_M_unpacked, []) (28, [some (.ref 166), some (.int v1), some (.int (v2 + (1 : Int32))), some (.int (I 171 (Int32.toNatClampNeg v2))), some (.long (0 : Int64)), none, some (.int (0 : Int32)), u7, u8], [], st_h I J, c, k) r) else r = (.inl (some (.int v1)), st_h I J, c, k)) := by
  refine (t_p (pc' := 6) (ls' := [some (.ref 166), some (.int v1), some (.int v2), u3, u4, u5, u6, u7, u8]) (st' := [.ref 166, .int v2]) 2 rfl).trans ?_
  refine (t_gI rfl rfl).trans ?_
  refine cg (t_ige rfl) ?_ ?_
  · refine (t_p (pc' := 13) (ls' := [some (.ref 166), some (.int v1), some (.int v2), u3, u4, u5, u6, u7, u8]) (st' := [.ref 166]) 1 rfl).trans ?_
    refine (t_gR rfl rfl).trans ?_
    refine (t_p (pc' := 17) (ls' := [some (.ref 166), some (.int v1), some (.int v2), u3, u4, u5, u6, u7, u8]) (st' := [.int v2, .ref 171]) 1 rfl).trans ?_
    refine t_an (t_lI rfl rfl) (fun h2 => ?_)
    exact t_p (pc' := 28) (ls' := [some (.ref 166), some (.int v1), some (.int (v2 + (1 : Int32))), some (.int (I 171 (Int32.toNatClampNeg v2))), some (.long (0 : Int64)), none, some (.int (0 : Int32)), u7, u8]) (st' := []) 6 rfl
  · refine (t_p (pc' := 244) (ls' := [some (.ref 166), some (.int v1), some (.int v2), u3, u4, u5, u6, u7, u8]) (st' := [.int v1]) 1 rfl).trans ?_
    exact t_rI rfl
theorem b_M_unpacked_28 {X : pm_X} {d : Nat} {I : st_I} {J : st_J}  {v1 : Int32} {v2 : Int32} {v3 : Int32} {v4 : Int64} {v6 : Int32} {u7 : Option Value} {u8 : Option Value} {c k : Nat} (r : pm_R) : Gx X (d + 1) (kc_M_unpacked, []) (28, [some (.ref 166), some (.int v1), some (.int v2), some (.int v3), some (.long v4), none, some (.int v6), u7, u8], [], st_h I J, c, k) r ↔ (if v6 < (8 : Int32) then (if ((ir v3 v6) &&& (1 : Int32)) = (1 : Int32) then (if v2 < (I 166 7) then ((pm_in v2 1500) = true ∧ Gx X (d + 1) (kc_M_unpacked, []) (28, [some (.ref 166), some (.int v1), some (.int (v2 + (1 : Int32))), some (.int v3), some (.long (v4 ||| (jl (Int32.toInt64 (I 171 (Int32.toNatClampNeg v2))) ((8 : Int32) * v6)))), none, some (.int (v6 + (1 : Int32))), u7, u8], [], st_h I J, c, k) r) else r = (.inl (some (.int (-1 : Int32))), st_h I J, c, k)) else Gx X (d + 1) (kc_M_unpacked, []) (28, [some (.ref 166), some (.int v1), some (.int v2), some (.int v3), some (.long v4), none, some (.int (v6 + (1 : Int32))), u7, u8], [], st_h I J, c, k) r) else (if v1 < (300 : Int32) then ((pm_in v1 300) = true ∧ (if v3 = (0 : Int32) then (if v2 < (I 166 7) then ((pm_in v2 1500) = true ∧ (if v3 = (255 : Int32) then (if (I 166 7) < ((v2 + (1 : Int32)) + ((8 : Int32) * (I 171 (Int32.toNatClampNeg v2)))) then r = (.inl (some (.int (-1 : Int32))), st_h I (st_y J 169 (Int32.toNatClampNeg v1) v4), c, k) else Gx X (d + 1) (kc_M_unpacked, []) (151, [some (.ref 166), some (.int (v1 + (1 : Int32))), some (.int (v2 + (1 : Int32))), some (.int v3), some (.long v4), none, some (.int (I 171 (Int32.toNatClampNeg v2))), some (.int (0 : Int32)), u8], [], st_h I (st_y J 169 (Int32.toNatClampNeg v1) v4), c, k) r) else Gx X (d + 1) (kc_M_unpacked, []) (151, [some (.ref 166), some (.int (v1 + (1 : Int32))), some (.int (v2 + (1 : Int32))), some (.int v3), some (.long v4), none, some (.int (I 171 (Int32.toNatClampNeg v2))), some (.int (0 : Int32)), u8], [], st_h I (st_y J 169 (Int32.toNatClampNeg v1) v4), c, k) r)) else r = (.inl (some (.int (-1 : Int32))), st_h I (st_y J 169 (Int32.toNatClampNeg v1) v4), c, k)) else (if v3 = (255 : Int32) then (if v2 < (I 166 7) then ((pm_in v2 1500) = true ∧ (if (I 166 7) < ((v2 + (1 : Int32)) + ((8 : Int32) * (I 171 (Int32.toNatClampNeg v2)))) then r = (.inl (some (.int (-1 : Int32))), st_h I (st_y J 169 (Int32.toNatClampNeg v1) v4), c, k) else Gx X (d + 1) (kc_M_unpacked, []) (151, [some (.ref 166), some (.int (v1 + (1 : Int32))), some (.int (v2 + (1 : Int32))), some (.int v3), some (.long v4), none, some (.int (I 171 (Int32.toNatClampNeg v2))), some (.int (0 : Int32)), u8], [], st_h I (st_y J 169 (Int32.toNatClampNeg v1) v4), c, k) r)) else r = (.inl (some (.int (-1 : Int32))), st_h I (st_y J 169 (Int32.toNatClampNeg v1) v4), c, k)) else Gx X (d + 1) (kc_M_unpacked, []) (4, [some (.ref 166), some (.int (v1 + (1 : Int32))), some (.int v2), some (.int v3), some (.long v4), none, some (.int v6), u7, u8], [], st_h I (st_y J 169 (Int32.toNatClampNeg v1) v4), c, k) r))) else (if v3 = (0 : Int32) then (if v2 < (I 166 7) then ((pm_in v2 1500) = true ∧ (if v3 = (255 : Int32) then (if (I 166 7) < ((v2 + (1 : Int32)) + ((8 : Int32) * (I 171 (Int32.toNatClampNeg v2)))) then r = (.inl (some (.int (-1 : Int32))), st_h I J, c, k) else Gx X (d + 1) (kc_M_unpacked, []) (151, [some (.ref 166), some (.int (v1 + (1 : Int32))), some (.int (v2 + (1 : Int32))), some (.int v3), some (.long v4), none, some (.int (I 171 (Int32.toNatClampNeg v2))), some (.int (0 : Int32)), u8], [], st_h I J, c, k) r) else Gx X (d + 1) (kc_M_unpacked, []) (151, [some (.ref 166), some (.int (v1 + (1 : Int32))), some (.int (v2 + (1 : Int32))), some (.int v3), some (.long v4), none, some (.int (I 171 (Int32.toNatClampNeg v2))), some (.int (0 : Int32)), u8], [], st_h I J, c, k) r)) else r = (.inl (some (.int (-1 : Int32))), st_h I J, c, k)) else (if v3 = (255 : Int32) then (if v2 < (I 166 7) then ((pm_in v2 1500) = true ∧ (if (I 166 7) < ((v2 + (1 : Int32)) + ((8 : Int32) * (I 171 (Int32.toNatClampNeg v2)))) then r = (.inl (some (.int (-1 : Int32))), st_h I J, c, k) else Gx X (d + 1) (kc_M_unpacked, []) (151, [some (.ref 166), some (.int (v1 + (1 : Int32))), some (.int (v2 + (1 : Int32))), some (.int v3), some (.long v4), none, some (.int (I 171 (Int32.toNatClampNeg v2))), some (.int (0 : Int32)), u8], [], st_h I J, c, k) r)) else r = (.inl (some (.int (-1 : Int32))), st_h I J, c, k)) else Gx X (d + 1) (kc_M_unpacked, []) (4, [some (.ref 166), some (.int (v1 + (1 : Int32))), some (.int v2), some (.int v3), some (.long v4), none, some (.int v6), u7, u8], [], st_h I J, c, k) r)))) := by
  refine (t_p (pc' := 32) (ls' := [some (.ref 166), some (.int v1), some (.int v2), some (.int v3), some (.long v4), none, some (.int v6), u7, u8]) (st' := [.int (8 : Int32), .int v6]) 2 rfl).trans ?_
  refine cg (t_ige rfl) ?_ ?_
  · refine (t_p (pc' := 42) (ls' := [some (.ref 166), some (.int v1), some (.int v2), some (.int v3), some (.long v4), none, some (.int v6), u7, u8]) (st' := [.int (1 : Int32), .int ((ir v3 v6) &&& (1 : Int32))]) 6 rfl).trans ?_
    refine cg (t_ine rfl) ?_ ?_
    · refine (t_p (pc' := 47) (ls' := [some (.ref 166), some (.int v1), some (.int v2), some (.int v3), some (.long v4), none, some (.int v6), u7, u8]) (st' := [.ref 166, .int v2]) 2 rfl).trans ?_
      refine (t_gI rfl rfl).trans ?_
      refine cg (t_ilt rfl) ?_ ?_
      · refine (t_p (pc' := 58) (ls' := [some (.ref 166), some (.int v1), some (.int v2), some (.int v3), some (.long v4), none, some (.int v6), u7, u8]) (st' := [.ref 166, .long v4]) 2 rfl).trans ?_
        refine (t_gR rfl rfl).trans ?_
        refine (t_p (pc' := 62) (ls' := [some (.ref 166), some (.int v1), some (.int v2), some (.int v3), some (.long v4), none, some (.int v6), u7, u8]) (st' := [.int v2, .ref 171, .long v4]) 1 rfl).trans ?_
        refine t_an (t_lI rfl rfl) (fun h4 => ?_)
        exact t_p (pc' := 28) (ls' := [some (.ref 166), some (.int v1), some (.int (v2 + (1 : Int32))), some (.int v3), some (.long (v4 ||| (jl (Int32.toInt64 (I 171 (Int32.toNatClampNeg v2))) ((8 : Int32) * v6)))), none, some (.int (v6 + (1 : Int32))), u7, u8]) (st' := []) 10 rfl
      · refine (t_p (pc' := 54) (ls' := [some (.ref 166), some (.int v1), some (.int v2), some (.int v3), some (.long v4), none, some (.int v6), u7, u8]) (st' := [.int (-1 : Int32)]) 1 rfl).trans ?_
        exact t_rI rfl
    · exact t_p (pc' := 28) (ls' := [some (.ref 166), some (.int v1), some (.int v2), some (.int v3), some (.long v4), none, some (.int (v6 + (1 : Int32))), u7, u8]) (st' := []) 2 rfl
  · refine (t_p (pc' := 86) (ls' := [some (.ref 166), some (.int v1), some (.int v2), some (.int v3), some (.long v4), none, some (.int v6), u7, u8]) (st' := [.long v4, .int v1, .ref 166]) 3 rfl).trans ?_
    refine (t_cW rfl rfl rfl rfl (fun q => ev_M_grown (d := d)  q)).trans ?_
    refine cg (ex_i) ?_ ?_
    · refine t_an (ex_a) (fun h6 => ?_)
      refine (ex_q).trans ?_
      refine (t_p (pc' := 91) (ls' := [some (.ref 166), some (.int (v1 + (1 : Int32))), some (.int v2), some (.int v3), some (.long v4), none, some (.int v6), u7, u8]) (st' := [.int v3]) 2 rfl).trans ?_
      refine cg (t_feq rfl) ?_ ?_
      · refine (t_p (pc' := 106) (ls' := [some (.ref 166), some (.int (v1 + (1 : Int32))), some (.int v2), some (.int v3), some (.long v4), none, some (.int v6), u7, u8]) (st' := [.ref 166, .int v2]) 2 rfl).trans ?_
        refine (t_gI rfl rfl).trans ?_
        refine cg (t_ilt rfl) ?_ ?_
        · refine (t_p (pc' := 115) (ls' := [some (.ref 166), some (.int (v1 + (1 : Int32))), some (.int v2), some (.int v3), some (.long v4), none, some (.int v6), u7, u8]) (st' := [.ref 166]) 1 rfl).trans ?_
          refine (t_gR rfl rfl).trans ?_
          refine (t_p (pc' := 119) (ls' := [some (.ref 166), some (.int (v1 + (1 : Int32))), some (.int v2), some (.int v3), some (.long v4), none, some (.int v6), u7, u8]) (st' := [.int v2, .ref 171]) 1 rfl).trans ?_
          refine t_an (t_lI rfl rfl) (fun h9 => ?_)
          refine (t_p (pc' := 129) (ls' := [some (.ref 166), some (.int (v1 + (1 : Int32))), some (.int (v2 + (1 : Int32))), some (.int v3), some (.long v4), none, some (.int (I 171 (Int32.toNatClampNeg v2))), u7, u8]) (st' := [.int (255 : Int32), .int v3]) 4 rfl).trans ?_
          refine cg (t_ine rfl) ?_ ?_
          · refine (t_p (pc' := 140) (ls' := [some (.ref 166), some (.int (v1 + (1 : Int32))), some (.int (v2 + (1 : Int32))), some (.int v3), some (.long v4), none, some (.int (I 171 (Int32.toNatClampNeg v2))), u7, u8]) (st' := [.ref 166, .int ((v2 + (1 : Int32)) + ((8 : Int32) * (I 171 (Int32.toNatClampNeg v2))))]) 6 rfl).trans ?_
            refine (t_gI rfl rfl).trans ?_
            refine cg (t_ile rfl) ?_ ?_
            · refine (t_p (pc' := 147) (ls' := [some (.ref 166), some (.int (v1 + (1 : Int32))), some (.int (v2 + (1 : Int32))), some (.int v3), some (.long v4), none, some (.int (I 171 (Int32.toNatClampNeg v2))), u7, u8]) (st' := [.int (-1 : Int32)]) 1 rfl).trans ?_
              exact t_rI rfl
            · exact t_p (pc' := 151) (ls' := [some (.ref 166), some (.int (v1 + (1 : Int32))), some (.int (v2 + (1 : Int32))), some (.int v3), some (.long v4), none, some (.int (I 171 (Int32.toNatClampNeg v2))), some (.int (0 : Int32)), u8]) (st' := []) 2 rfl
          · exact t_p (pc' := 151) (ls' := [some (.ref 166), some (.int (v1 + (1 : Int32))), some (.int (v2 + (1 : Int32))), some (.int v3), some (.long v4), none, some (.int (I 171 (Int32.toNatClampNeg v2))), some (.int (0 : Int32)), u8]) (st' := []) 2 rfl
        · refine (t_p (pc' := 113) (ls' := [some (.ref 166), some (.int (v1 + (1 : Int32))), some (.int v2), some (.int v3), some (.long v4), none, some (.int v6), u7, u8]) (st' := [.int (-1 : Int32)]) 1 rfl).trans ?_
          exact t_rI rfl
      · refine (t_p (pc' := 98) (ls' := [some (.ref 166), some (.int (v1 + (1 : Int32))), some (.int v2), some (.int v3), some (.long v4), none, some (.int v6), u7, u8]) (st' := [.int (255 : Int32), .int v3]) 2 rfl).trans ?_
        refine cgd (t_ieq rfl) (fun h12 => ?_) (fun h12 => ?_)
        · refine (t_p (pc' := 106) (ls' := [some (.ref 166), some (.int (v1 + (1 : Int32))), some (.int v2), some (.int v3), some (.long v4), none, some (.int v6), u7, u8]) (st' := [.ref 166, .int v2]) 2 rfl).trans ?_
          refine (t_gI rfl rfl).trans ?_
          refine cg (t_ilt rfl) ?_ ?_
          · refine (t_p (pc' := 115) (ls' := [some (.ref 166), some (.int (v1 + (1 : Int32))), some (.int v2), some (.int v3), some (.long v4), none, some (.int v6), u7, u8]) (st' := [.ref 166]) 1 rfl).trans ?_
            refine (t_gR rfl rfl).trans ?_
            refine (t_p (pc' := 119) (ls' := [some (.ref 166), some (.int (v1 + (1 : Int32))), some (.int v2), some (.int v3), some (.long v4), none, some (.int v6), u7, u8]) (st' := [.int v2, .ref 171]) 1 rfl).trans ?_
            refine t_an (t_lI rfl rfl) (fun h14 => ?_)
            refine (t_p (pc' := 129) (ls' := [some (.ref 166), some (.int (v1 + (1 : Int32))), some (.int (v2 + (1 : Int32))), some (.int v3), some (.long v4), none, some (.int (I 171 (Int32.toNatClampNeg v2))), u7, u8]) (st' := [.int (255 : Int32), .int v3]) 4 rfl).trans ?_
            refine cgT (t_ine rfl) h12 ?_
            refine (t_p (pc' := 140) (ls' := [some (.ref 166), some (.int (v1 + (1 : Int32))), some (.int (v2 + (1 : Int32))), some (.int v3), some (.long v4), none, some (.int (I 171 (Int32.toNatClampNeg v2))), u7, u8]) (st' := [.ref 166, .int ((v2 + (1 : Int32)) + ((8 : Int32) * (I 171 (Int32.toNatClampNeg v2))))]) 6 rfl).trans ?_
            refine (t_gI rfl rfl).trans ?_
            refine cg (t_ile rfl) ?_ ?_
            · refine (t_p (pc' := 147) (ls' := [some (.ref 166), some (.int (v1 + (1 : Int32))), some (.int (v2 + (1 : Int32))), some (.int v3), some (.long v4), none, some (.int (I 171 (Int32.toNatClampNeg v2))), u7, u8]) (st' := [.int (-1 : Int32)]) 1 rfl).trans ?_
              exact t_rI rfl
            · exact t_p (pc' := 151) (ls' := [some (.ref 166), some (.int (v1 + (1 : Int32))), some (.int (v2 + (1 : Int32))), some (.int v3), some (.long v4), none, some (.int (I 171 (Int32.toNatClampNeg v2))), some (.int (0 : Int32)), u8]) (st' := []) 2 rfl
          · refine (t_p (pc' := 113) (ls' := [some (.ref 166), some (.int (v1 + (1 : Int32))), some (.int v2), some (.int v3), some (.long v4), none, some (.int v6), u7, u8]) (st' := [.int (-1 : Int32)]) 1 rfl).trans ?_
            exact t_rI rfl
        · exact t_p (pc' := 4) (ls' := [some (.ref 166), some (.int (v1 + (1 : Int32))), some (.int v2), some (.int v3), some (.long v4), none, some (.int v6), u7, u8]) (st' := []) 1 rfl
    · refine (ex_q).trans ?_
      refine (t_p (pc' := 91) (ls' := [some (.ref 166), some (.int (v1 + (1 : Int32))), some (.int v2), some (.int v3), some (.long v4), none, some (.int v6), u7, u8]) (st' := [.int v3]) 2 rfl).trans ?_
      refine cg (t_feq rfl) ?_ ?_
      · refine (t_p (pc' := 106) (ls' := [some (.ref 166), some (.int (v1 + (1 : Int32))), some (.int v2), some (.int v3), some (.long v4), none, some (.int v6), u7, u8]) (st' := [.ref 166, .int v2]) 2 rfl).trans ?_
        refine (t_gI rfl rfl).trans ?_
        refine cg (t_ilt rfl) ?_ ?_
        · refine (t_p (pc' := 115) (ls' := [some (.ref 166), some (.int (v1 + (1 : Int32))), some (.int v2), some (.int v3), some (.long v4), none, some (.int v6), u7, u8]) (st' := [.ref 166]) 1 rfl).trans ?_
          refine (t_gR rfl rfl).trans ?_
          refine (t_p (pc' := 119) (ls' := [some (.ref 166), some (.int (v1 + (1 : Int32))), some (.int v2), some (.int v3), some (.long v4), none, some (.int v6), u7, u8]) (st' := [.int v2, .ref 171]) 1 rfl).trans ?_
          refine t_an (t_lI rfl rfl) (fun h18 => ?_)
          refine (t_p (pc' := 129) (ls' := [some (.ref 166), some (.int (v1 + (1 : Int32))), some (.int (v2 + (1 : Int32))), some (.int v3), some (.long v4), none, some (.int (I 171 (Int32.toNatClampNeg v2))), u7, u8]) (st' := [.int (255 : Int32), .int v3]) 4 rfl).trans ?_
          refine cg (t_ine rfl) ?_ ?_
          · refine (t_p (pc' := 140) (ls' := [some (.ref 166), some (.int (v1 + (1 : Int32))), some (.int (v2 + (1 : Int32))), some (.int v3), some (.long v4), none, some (.int (I 171 (Int32.toNatClampNeg v2))), u7, u8]) (st' := [.ref 166, .int ((v2 + (1 : Int32)) + ((8 : Int32) * (I 171 (Int32.toNatClampNeg v2))))]) 6 rfl).trans ?_
            refine (t_gI rfl rfl).trans ?_
            refine cg (t_ile rfl) ?_ ?_
            · refine (t_p (pc' := 147) (ls' := [some (.ref 166), some (.int (v1 + (1 : Int32))), some (.int (v2 + (1 : Int32))), some (.int v3), some (.long v4), none, some (.int (I 171 (Int32.toNatClampNeg v2))), u7, u8]) (st' := [.int (-1 : Int32)]) 1 rfl).trans ?_
              exact t_rI rfl
            · exact t_p (pc' := 151) (ls' := [some (.ref 166), some (.int (v1 + (1 : Int32))), some (.int (v2 + (1 : Int32))), some (.int v3), some (.long v4), none, some (.int (I 171 (Int32.toNatClampNeg v2))), some (.int (0 : Int32)), u8]) (st' := []) 2 rfl
          · exact t_p (pc' := 151) (ls' := [some (.ref 166), some (.int (v1 + (1 : Int32))), some (.int (v2 + (1 : Int32))), some (.int v3), some (.long v4), none, some (.int (I 171 (Int32.toNatClampNeg v2))), some (.int (0 : Int32)), u8]) (st' := []) 2 rfl
        · refine (t_p (pc' := 113) (ls' := [some (.ref 166), some (.int (v1 + (1 : Int32))), some (.int v2), some (.int v3), some (.long v4), none, some (.int v6), u7, u8]) (st' := [.int (-1 : Int32)]) 1 rfl).trans ?_
          exact t_rI rfl
      · refine (t_p (pc' := 98) (ls' := [some (.ref 166), some (.int (v1 + (1 : Int32))), some (.int v2), some (.int v3), some (.long v4), none, some (.int v6), u7, u8]) (st' := [.int (255 : Int32), .int v3]) 2 rfl).trans ?_
        refine cgd (t_ieq rfl) (fun h21 => ?_) (fun h21 => ?_)
        · refine (t_p (pc' := 106) (ls' := [some (.ref 166), some (.int (v1 + (1 : Int32))), some (.int v2), some (.int v3), some (.long v4), none, some (.int v6), u7, u8]) (st' := [.ref 166, .int v2]) 2 rfl).trans ?_
          refine (t_gI rfl rfl).trans ?_
          refine cg (t_ilt rfl) ?_ ?_
          · refine (t_p (pc' := 115) (ls' := [some (.ref 166), some (.int (v1 + (1 : Int32))), some (.int v2), some (.int v3), some (.long v4), none, some (.int v6), u7, u8]) (st' := [.ref 166]) 1 rfl).trans ?_
            refine (t_gR rfl rfl).trans ?_
            refine (t_p (pc' := 119) (ls' := [some (.ref 166), some (.int (v1 + (1 : Int32))), some (.int v2), some (.int v3), some (.long v4), none, some (.int v6), u7, u8]) (st' := [.int v2, .ref 171]) 1 rfl).trans ?_
            refine t_an (t_lI rfl rfl) (fun h23 => ?_)
            refine (t_p (pc' := 129) (ls' := [some (.ref 166), some (.int (v1 + (1 : Int32))), some (.int (v2 + (1 : Int32))), some (.int v3), some (.long v4), none, some (.int (I 171 (Int32.toNatClampNeg v2))), u7, u8]) (st' := [.int (255 : Int32), .int v3]) 4 rfl).trans ?_
            refine cgT (t_ine rfl) h21 ?_
            refine (t_p (pc' := 140) (ls' := [some (.ref 166), some (.int (v1 + (1 : Int32))), some (.int (v2 + (1 : Int32))), some (.int v3), some (.long v4), none, some (.int (I 171 (Int32.toNatClampNeg v2))), u7, u8]) (st' := [.ref 166, .int ((v2 + (1 : Int32)) + ((8 : Int32) * (I 171 (Int32.toNatClampNeg v2))))]) 6 rfl).trans ?_
            refine (t_gI rfl rfl).trans ?_
            refine cg (t_ile rfl) ?_ ?_
            · refine (t_p (pc' := 147) (ls' := [some (.ref 166), some (.int (v1 + (1 : Int32))), some (.int (v2 + (1 : Int32))), some (.int v3), some (.long v4), none, some (.int (I 171 (Int32.toNatClampNeg v2))), u7, u8]) (st' := [.int (-1 : Int32)]) 1 rfl).trans ?_
              exact t_rI rfl
            · exact t_p (pc' := 151) (ls' := [some (.ref 166), some (.int (v1 + (1 : Int32))), some (.int (v2 + (1 : Int32))), some (.int v3), some (.long v4), none, some (.int (I 171 (Int32.toNatClampNeg v2))), some (.int (0 : Int32)), u8]) (st' := []) 2 rfl
          · refine (t_p (pc' := 113) (ls' := [some (.ref 166), some (.int (v1 + (1 : Int32))), some (.int v2), some (.int v3), some (.long v4), none, some (.int v6), u7, u8]) (st' := [.int (-1 : Int32)]) 1 rfl).trans ?_
            exact t_rI rfl
        · exact t_p (pc' := 4) (ls' := [some (.ref 166), some (.int (v1 + (1 : Int32))), some (.int v2), some (.int v3), some (.long v4), none, some (.int v6), u7, u8]) (st' := []) 1 rfl
theorem b_M_unpacked_151 {X : pm_X} {d : Nat} {I : st_I} {J : st_J}  {v1 : Int32} {v2 : Int32} {v3 : Int32} {v4 : Int64} {v6 : Int32} {v7 : Int32} {u8 : Option Value} {c k : Nat} (r : pm_R) : Gx X (d + 1) (kc_M_unpacked, []) (151, [some (.ref 166), some (.int v1), some (.int v2), some (.int v3), some (.long v4), none, some (.int v6), some (.int v7), u8], [], st_h I J, c, k) r ↔ (if v7 < v6 then Gx X (d + 1) (kc_M_unpacked, []) (164, [some (.ref 166), some (.int v1), some (.int v2), some (.int v3), some (.long (0 : Int64)), none, some (.int v6), some (.int v7), some (.int (0 : Int32))], [], st_h I J, c, k) r else (if v3 = (255 : Int32) then Gx X (d + 1) (kc_M_unpacked, []) (4, [some (.ref 166), some (.int v1), some (.int (v2 + ((8 : Int32) * v6))), some (.int v3), some (.long v4), none, some (.int v6), some (.int v7), u8], [], st_h I J, c, k) r else Gx X (d + 1) (kc_M_unpacked, []) (4, [some (.ref 166), some (.int v1), some (.int v2), some (.int v3), some (.long v4), none, some (.int v6), some (.int v7), u8], [], st_h I J, c, k) r)) := by
  refine (t_p (pc' := 155) (ls' := [some (.ref 166), some (.int v1), some (.int v2), some (.int v3), some (.long v4), none, some (.int v6), some (.int v7), u8]) (st' := [.int v6, .int v7]) 2 rfl).trans ?_
  refine cg (t_ige rfl) ?_ ?_
  · exact t_p (pc' := 164) (ls' := [some (.ref 166), some (.int v1), some (.int v2), some (.int v3), some (.long (0 : Int64)), none, some (.int v6), some (.int v7), some (.int (0 : Int32))]) (st' := []) 4 rfl
  · refine (t_p (pc' := 229) (ls' := [some (.ref 166), some (.int v1), some (.int v2), some (.int v3), some (.long v4), none, some (.int v6), some (.int v7), u8]) (st' := [.int (255 : Int32), .int v3]) 2 rfl).trans ?_
    refine cg (t_ine rfl) ?_ ?_
    · exact t_p (pc' := 4) (ls' := [some (.ref 166), some (.int v1), some (.int (v2 + ((8 : Int32) * v6))), some (.int v3), some (.long v4), none, some (.int v6), some (.int v7), u8]) (st' := []) 7 rfl
    · exact t_p (pc' := 4) (ls' := [some (.ref 166), some (.int v1), some (.int v2), some (.int v3), some (.long v4), none, some (.int v6), some (.int v7), u8]) (st' := []) 1 rfl
theorem b_M_unpacked_164 {X : pm_X} {d : Nat} {I : st_I} {J : st_J}  {v1 : Int32} {v2 : Int32} {v3 : Int32} {v4 : Int64} {v6 : Int32} {v7 : Int32} {v8 : Int32} {c k : Nat} (r : pm_R) : Gx X (d + 1) (kc_M_unpacked, []) (164, [some (.ref 166), some (.int v1), some (.int v2), some (.int v3), some (.long v4), none, some (.int v6), some (.int v7), some (.int v8)], [], st_h I J, c, k) r ↔ (if v8 < (8 : Int32) then (if v3 = (255 : Int32) then ((pm_in ((v2 + ((8 : Int32) * v7)) + v8) 1500) = true ∧ Gx X (d + 1) (kc_M_unpacked, []) (164, [some (.ref 166), some (.int v1), some (.int v2), some (.int v3), some (.long (v4 ||| (jl (Int32.toInt64 (I 171 (Int32.toNatClampNeg ((v2 + ((8 : Int32) * v7)) + v8)))) ((8 : Int32) * v8)))), none, some (.int v6), some (.int v7), some (.int (v8 + (1 : Int32)))], [], st_h I J, c, k) r) else (if v1 < (300 : Int32) then ((pm_in v1 300) = true ∧ Gx X (d + 1) (kc_M_unpacked, []) (151, [some (.ref 166), some (.int (v1 + (1 : Int32))), some (.int v2), some (.int v3), some (.long v4), none, some (.int v6), some (.int (v7 + (1 : Int32))), some (.int v8)], [], st_h I (st_y J 169 (Int32.toNatClampNeg v1) v4), c, k) r) else Gx X (d + 1) (kc_M_unpacked, []) (151, [some (.ref 166), some (.int (v1 + (1 : Int32))), some (.int v2), some (.int v3), some (.long v4), none, some (.int v6), some (.int (v7 + (1 : Int32))), some (.int v8)], [], st_h I J, c, k) r)) else (if v1 < (300 : Int32) then ((pm_in v1 300) = true ∧ Gx X (d + 1) (kc_M_unpacked, []) (151, [some (.ref 166), some (.int (v1 + (1 : Int32))), some (.int v2), some (.int v3), some (.long v4), none, some (.int v6), some (.int (v7 + (1 : Int32))), some (.int v8)], [], st_h I (st_y J 169 (Int32.toNatClampNeg v1) v4), c, k) r) else Gx X (d + 1) (kc_M_unpacked, []) (151, [some (.ref 166), some (.int (v1 + (1 : Int32))), some (.int v2), some (.int v3), some (.long v4), none, some (.int v6), some (.int (v7 + (1 : Int32))), some (.int v8)], [], st_h I J, c, k) r)) := by
  refine (t_p (pc' := 168) (ls' := [some (.ref 166), some (.int v1), some (.int v2), some (.int v3), some (.long v4), none, some (.int v6), some (.int v7), some (.int v8)]) (st' := [.int (8 : Int32), .int v8]) 2 rfl).trans ?_
  refine cg (t_ige rfl) ?_ ?_
  · refine (t_p (pc' := 175) (ls' := [some (.ref 166), some (.int v1), some (.int v2), some (.int v3), some (.long v4), none, some (.int v6), some (.int v7), some (.int v8)]) (st' := [.int (255 : Int32), .int v3]) 2 rfl).trans ?_
    refine cg (t_ine rfl) ?_ ?_
    · refine (t_p (pc' := 181) (ls' := [some (.ref 166), some (.int v1), some (.int v2), some (.int v3), some (.long v4), none, some (.int v6), some (.int v7), some (.int v8)]) (st' := [.ref 166, .long v4]) 2 rfl).trans ?_
      refine (t_gR rfl rfl).trans ?_
      refine (t_p (pc' := 194) (ls' := [some (.ref 166), some (.int v1), some (.int v2), some (.int v3), some (.long v4), none, some (.int v6), some (.int v7), some (.int v8)]) (st' := [.int ((v2 + ((8 : Int32) * v7)) + v8), .ref 171, .long v4]) 7 rfl).trans ?_
      refine t_an (t_lI rfl rfl) (fun h7 => ?_)
      exact t_p (pc' := 164) (ls' := [some (.ref 166), some (.int v1), some (.int v2), some (.int v3), some (.long (v4 ||| (jl (Int32.toInt64 (I 171 (Int32.toNatClampNeg ((v2 + ((8 : Int32) * v7)) + v8)))) ((8 : Int32) * v8)))), none, some (.int v6), some (.int v7), some (.int (v8 + (1 : Int32)))]) (st' := []) 9 rfl
    · refine (t_p (pc' := 215) (ls' := [some (.ref 166), some (.int v1), some (.int v2), some (.int v3), some (.long v4), none, some (.int v6), some (.int v7), some (.int v8)]) (st' := [.long v4, .int v1, .ref 166]) 3 rfl).trans ?_
      refine (t_cW rfl rfl rfl rfl (fun q => ev_M_grown (d := d)  q)).trans ?_
      refine cg (ex_i) ?_ ?_
      · refine t_an (ex_a) (fun h9 => ?_)
        refine (ex_q).trans ?_
        exact t_p (pc' := 151) (ls' := [some (.ref 166), some (.int (v1 + (1 : Int32))), some (.int v2), some (.int v3), some (.long v4), none, some (.int v6), some (.int (v7 + (1 : Int32))), some (.int v8)]) (st' := []) 3 rfl
      · refine (ex_q).trans ?_
        exact t_p (pc' := 151) (ls' := [some (.ref 166), some (.int (v1 + (1 : Int32))), some (.int v2), some (.int v3), some (.long v4), none, some (.int v6), some (.int (v7 + (1 : Int32))), some (.int v8)]) (st' := []) 3 rfl
  · refine (t_p (pc' := 215) (ls' := [some (.ref 166), some (.int v1), some (.int v2), some (.int v3), some (.long v4), none, some (.int v6), some (.int v7), some (.int v8)]) (st' := [.long v4, .int v1, .ref 166]) 3 rfl).trans ?_
    refine (t_cW rfl rfl rfl rfl (fun q => ev_M_grown (d := d)  q)).trans ?_
    refine cg (ex_i) ?_ ?_
    · refine t_an (ex_a) (fun h11 => ?_)
      refine (ex_q).trans ?_
      exact t_p (pc' := 151) (ls' := [some (.ref 166), some (.int (v1 + (1 : Int32))), some (.int v2), some (.int v3), some (.long v4), none, some (.int v6), some (.int (v7 + (1 : Int32))), some (.int v8)]) (st' := []) 3 rfl
    · refine (ex_q).trans ?_
      exact t_p (pc' := 151) (ls' := [some (.ref 166), some (.int (v1 + (1 : Int32))), some (.int v2), some (.int v3), some (.long v4), none, some (.int v6), some (.int (v7 + (1 : Int32))), some (.int v8)]) (st' := []) 3 rfl
theorem e_M_writesList {X : pm_X} {d : Nat} {I : st_I} {J : st_J} {p1 : Int32} {p2 : Int32} (r : pm_R) : Ex X (d + 3) 236 [.ref 166, .int p1, .int p2] (st_h I J) r ↔ ((pm_in p1 64) = true ∧ (if (64 : Int64) < ((Int32.toInt64 p2) + (if (I 180 16) = (7 : Int32) then ((Int32.toInt64 (I 179 16)) + (1 : Int64)) else (if (I 180 16) = (6 : Int32) then (Int32.toInt64 (I 179 16)) else ((((Int32.toInt64 (I 179 16)) * (Int32.toInt64 (if (I 180 16) = (0 : Int32) then (0 : Int32) else (if (5 : Int32) < (I 180 16) then (0 : Int32) else (if (I 180 16) = (1 : Int32) then (1 : Int32) else (il (4 : Int32) ((I 180 16) - (1 : Int32)))))))) + (63 : Int64)) / (64 : Int64))))) then (if (I 166 10) = (0 : Int32) then r = (.inl (some (.int p2)), st_h (st_w I 166 10 (2 : Int32)) (st_y J 168 (Int32.toNatClampNeg p1) ((((1 : Int64) ||| (jl (Int32.toInt64 (I 180 16)) (32 : Int32))) ||| (jl (Int32.toInt64 (I 179 16)) (35 : Int32))) ||| (jl ((Int32.toInt64 ((p2 - p1) - (1 : Int32))) &&& (1073741823 : Int64)) (2 : Int32)))), 0, 0) else r = (.inl (some (.int p2)), st_h I (st_y J 168 (Int32.toNatClampNeg p1) ((((1 : Int64) ||| (jl (Int32.toInt64 (I 180 16)) (32 : Int32))) ||| (jl (Int32.toInt64 (I 179 16)) (35 : Int32))) ||| (jl ((Int32.toInt64 ((p2 - p1) - (1 : Int32))) &&& (1073741823 : Int64)) (2 : Int32)))), 0, 0)) else (if (I 166 10) = (0 : Int32) then (if (I 180 16) = (6 : Int32) then Gx X (d + 2) (kc_M_writesList, []) (135, [some (.ref 166), some (.int p1), some (.int p2), some (.int (I 175 16)), some (.int ((I 176 16) / (64 : Int32))), some (.int (I 180 16)), some (.int (I 179 16)), some (.long (if (I 180 16) = (7 : Int32) then ((Int32.toInt64 (I 179 16)) + (1 : Int64)) else (if (I 180 16) = (6 : Int32) then (Int32.toInt64 (I 179 16)) else ((((Int32.toInt64 (I 179 16)) * (Int32.toInt64 (if (I 180 16) = (0 : Int32) then (0 : Int32) else (if (5 : Int32) < (I 180 16) then (0 : Int32) else (if (I 180 16) = (1 : Int32) then (1 : Int32) else (il (4 : Int32) ((I 180 16) - (1 : Int32)))))))) + (63 : Int64)) / (64 : Int64))))), none, some (.int (Int64.toInt32 (if (I 180 16) = (7 : Int32) then ((Int32.toInt64 (I 179 16)) + (1 : Int64)) else (if (I 180 16) = (6 : Int32) then (Int32.toInt64 (I 179 16)) else ((((Int32.toInt64 (I 179 16)) * (Int32.toInt64 (if (I 180 16) = (0 : Int32) then (0 : Int32) else (if (5 : Int32) < (I 180 16) then (0 : Int32) else (if (I 180 16) = (1 : Int32) then (1 : Int32) else (il (4 : Int32) ((I 180 16) - (1 : Int32)))))))) + (63 : Int64)) / (64 : Int64)))))), some (.int (irm ((I 179 16) * (if (I 180 16) = (0 : Int32) then (0 : Int32) else (if (5 : Int32) < (I 180 16) then (0 : Int32) else (if (I 180 16) = (1 : Int32) then (1 : Int32) else (il (4 : Int32) ((I 180 16) - (1 : Int32))))))) (64 : Int32))), some (.int ((Int64.toInt32 (if (I 180 16) = (7 : Int32) then ((Int32.toInt64 (I 179 16)) + (1 : Int64)) else (if (I 180 16) = (6 : Int32) then (Int32.toInt64 (I 179 16)) else ((((Int32.toInt64 (I 179 16)) * (Int32.toInt64 (if (I 180 16) = (0 : Int32) then (0 : Int32) else (if (5 : Int32) < (I 180 16) then (0 : Int32) else (if (I 180 16) = (1 : Int32) then (1 : Int32) else (il (4 : Int32) ((I 180 16) - (1 : Int32)))))))) + (63 : Int64)) / (64 : Int64))))) - (1 : Int32)))], [], st_h I (st_y J 168 (Int32.toNatClampNeg p1) ((((1 : Int64) ||| (jl (Int32.toInt64 (I 180 16)) (32 : Int32))) ||| (jl (Int32.toInt64 (I 179 16)) (35 : Int32))) ||| (jl ((Int32.toInt64 ((p2 - p1) - (1 : Int32))) &&& (1073741823 : Int64)) (2 : Int32)))), 0, 0) r else Gx X (d + 2) (kc_M_writesList, []) (173, [some (.ref 166), some (.int p1), some (.int p2), some (.int (I 175 16)), some (.int ((I 176 16) / (64 : Int32))), some (.int (I 180 16)), some (.int (I 179 16)), some (.long (if (I 180 16) = (7 : Int32) then ((Int32.toInt64 (I 179 16)) + (1 : Int64)) else (if (I 180 16) = (6 : Int32) then (Int32.toInt64 (I 179 16)) else ((((Int32.toInt64 (I 179 16)) * (Int32.toInt64 (if (I 180 16) = (0 : Int32) then (0 : Int32) else (if (5 : Int32) < (I 180 16) then (0 : Int32) else (if (I 180 16) = (1 : Int32) then (1 : Int32) else (il (4 : Int32) ((I 180 16) - (1 : Int32)))))))) + (63 : Int64)) / (64 : Int64))))), none, some (.int (Int64.toInt32 (if (I 180 16) = (7 : Int32) then ((Int32.toInt64 (I 179 16)) + (1 : Int64)) else (if (I 180 16) = (6 : Int32) then (Int32.toInt64 (I 179 16)) else ((((Int32.toInt64 (I 179 16)) * (Int32.toInt64 (if (I 180 16) = (0 : Int32) then (0 : Int32) else (if (5 : Int32) < (I 180 16) then (0 : Int32) else (if (I 180 16) = (1 : Int32) then (1 : Int32) else (il (4 : Int32) ((I 180 16) - (1 : Int32)))))))) + (63 : Int64)) / (64 : Int64)))))), some (.int (irm ((I 179 16) * (if (I 180 16) = (0 : Int32) then (0 : Int32) else (if (5 : Int32) < (I 180 16) then (0 : Int32) else (if (I 180 16) = (1 : Int32) then (1 : Int32) else (il (4 : Int32) ((I 180 16) - (1 : Int32))))))) (64 : Int32))), some (.int (0 : Int32))], [], st_h I (st_y J 168 (Int32.toNatClampNeg p1) ((((1 : Int64) ||| (jl (Int32.toInt64 (I 180 16)) (32 : Int32))) ||| (jl (Int32.toInt64 (I 179 16)) (35 : Int32))) ||| (jl ((Int32.toInt64 ((p2 - p1) - (1 : Int32))) &&& (1073741823 : Int64)) (2 : Int32)))), 0, 0) r) else r = (.inl (some (.int p2)), st_h I (st_y J 168 (Int32.toNatClampNeg p1) ((((1 : Int64) ||| (jl (Int32.toInt64 (I 180 16)) (32 : Int32))) ||| (jl (Int32.toInt64 (I 179 16)) (35 : Int32))) ||| (jl ((Int32.toInt64 ((p2 - p1) - (1 : Int32))) &&& (1073741823 : Int64)) (2 : Int32)))), 0, 0)))) := by
  refine (Ex_iff (M := (kc_M_writesList, [])) (n := 12) rfl rfl).trans ?_
  refine (t_p (pc' := 1) (ls' := [some (.ref 166), some (.int p1), some (.int p2), none, none, none, none, none, none, none, none, none]) (st' := [.ref 166]) 1 rfl).trans ?_
  refine (t_gR rfl rfl).trans ?_
  refine (t_p (pc' := 6) (ls' := [some (.ref 166), some (.int p1), some (.int p2), none, none, none, none, none, none, none, none, none]) (st' := [.int (16 : Int32), .ref 175]) 1 rfl).trans ?_
  refine ((t_lI rfl rfl).trans (and_t (rfl : (pm_in (16 : Int32) 17) = true))).trans ?_
  refine (t_p (pc' := 9) (ls' := [some (.ref 166), some (.int p1), some (.int p2), some (.int (I 175 16)), none, none, none, none, none, none, none, none]) (st' := [.ref 166]) 2 rfl).trans ?_
  refine (t_gR rfl rfl).trans ?_
  refine (t_p (pc' := 14) (ls' := [some (.ref 166), some (.int p1), some (.int p2), some (.int (I 175 16)), none, none, none, none, none, none, none, none]) (st' := [.int (16 : Int32), .ref 176]) 1 rfl).trans ?_
  refine ((t_lI rfl rfl).trans (and_t (rfl : (pm_in (16 : Int32) 17) = true))).trans ?_
  refine (t_p (pc' := 21) (ls' := [some (.ref 166), some (.int p1), some (.int p2), some (.int (I 175 16)), some (.int ((I 176 16) / (64 : Int32))), none, none, none, none, none, none, none]) (st' := [.ref 166]) 4 rfl).trans ?_
  refine (t_gR rfl rfl).trans ?_
  refine (t_p (pc' := 26) (ls' := [some (.ref 166), some (.int p1), some (.int p2), some (.int (I 175 16)), some (.int ((I 176 16) / (64 : Int32))), none, none, none, none, none, none, none]) (st' := [.int (16 : Int32), .ref 180]) 1 rfl).trans ?_
  refine ((t_lI rfl rfl).trans (and_t (rfl : (pm_in (16 : Int32) 17) = true))).trans ?_
  refine (t_p (pc' := 30) (ls' := [some (.ref 166), some (.int p1), some (.int p2), some (.int (I 175 16)), some (.int ((I 176 16) / (64 : Int32))), some (.int (I 180 16)), none, none, none, none, none, none]) (st' := [.ref 166]) 2 rfl).trans ?_
  refine (t_gR rfl rfl).trans ?_
  refine (t_p (pc' := 35) (ls' := [some (.ref 166), some (.int p1), some (.int p2), some (.int (I 175 16)), some (.int ((I 176 16) / (64 : Int32))), some (.int (I 180 16)), none, none, none, none, none, none]) (st' := [.int (16 : Int32), .ref 179]) 1 rfl).trans ?_
  refine ((t_lI rfl rfl).trans (and_t (rfl : (pm_in (16 : Int32) 17) = true))).trans ?_
  refine (t_p (pc' := 43) (ls' := [some (.ref 166), some (.int p1), some (.int p2), some (.int (I 175 16)), some (.int ((I 176 16) / (64 : Int32))), some (.int (I 180 16)), some (.int (I 179 16)), none, none, none, none, none]) (st' := [.long (Int32.toInt64 (I 179 16)), .int (I 180 16)]) 4 rfl).trans ?_
  refine (t_cQ rfl rfl rfl (fun q => ev_M_wordsOf (d := d)  q)).trans ?_
  refine (ex_q).trans ?_
  refine (t_p (pc' := 49) (ls' := [some (.ref 166), some (.int p1), some (.int p2), some (.int (I 175 16)), some (.int ((I 176 16) / (64 : Int32))), some (.int (I 180 16)), some (.int (I 179 16)), some (.long (if (I 180 16) = (7 : Int32) then ((Int32.toInt64 (I 179 16)) + (1 : Int64)) else (if (I 180 16) = (6 : Int32) then (Int32.toInt64 (I 179 16)) else ((((Int32.toInt64 (I 179 16)) * (Int32.toInt64 (if (I 180 16) = (0 : Int32) then (0 : Int32) else (if (5 : Int32) < (I 180 16) then (0 : Int32) else (if (I 180 16) = (1 : Int32) then (1 : Int32) else (il (4 : Int32) ((I 180 16) - (1 : Int32)))))))) + (63 : Int64)) / (64 : Int64))))), none, none, none, none]) (st' := [.ref 166]) 2 rfl).trans ?_
  refine (t_gR rfl rfl).trans ?_
  refine (t_p (pc' := 73) (ls' := [some (.ref 166), some (.int p1), some (.int p2), some (.int (I 175 16)), some (.int ((I 176 16) / (64 : Int32))), some (.int (I 180 16)), some (.int (I 179 16)), some (.long (if (I 180 16) = (7 : Int32) then ((Int32.toInt64 (I 179 16)) + (1 : Int64)) else (if (I 180 16) = (6 : Int32) then (Int32.toInt64 (I 179 16)) else ((((Int32.toInt64 (I 179 16)) * (Int32.toInt64 (if (I 180 16) = (0 : Int32) then (0 : Int32) else (if (5 : Int32) < (I 180 16) then (0 : Int32) else (if (I 180 16) = (1 : Int32) then (1 : Int32) else (il (4 : Int32) ((I 180 16) - (1 : Int32)))))))) + (63 : Int64)) / (64 : Int64))))), none, none, none, none]) (st' := [.int ((p2 - p1) - (1 : Int32)), .long (((1 : Int64) ||| (jl (Int32.toInt64 (I 180 16)) (32 : Int32))) ||| (jl (Int32.toInt64 (I 179 16)) (35 : Int32))), .int p1, .ref 168]) 17 rfl).trans ?_
  refine (t_cQ rfl rfl rfl (fun q => ev_M_near (d := d + 1)  q)).trans ?_
  refine (ex_q).trans ?_
  refine t_an (t_sJ rfl rfl) (fun h1 => ?_)
  refine (t_p (pc' := 87) (ls' := [some (.ref 166), some (.int p1), some (.int p2), some (.int (I 175 16)), some (.int ((I 176 16) / (64 : Int32))), some (.int (I 180 16)), some (.int (I 179 16)), some (.long (if (I 180 16) = (7 : Int32) then ((Int32.toInt64 (I 179 16)) + (1 : Int64)) else (if (I 180 16) = (6 : Int32) then (Int32.toInt64 (I 179 16)) else ((((Int32.toInt64 (I 179 16)) * (Int32.toInt64 (if (I 180 16) = (0 : Int32) then (0 : Int32) else (if (5 : Int32) < (I 180 16) then (0 : Int32) else (if (I 180 16) = (1 : Int32) then (1 : Int32) else (il (4 : Int32) ((I 180 16) - (1 : Int32)))))))) + (63 : Int64)) / (64 : Int64))))), none, none, none, none]) (st' := [.int (lg_cmp ((Int32.toInt64 p2) + (if (I 180 16) = (7 : Int32) then ((Int32.toInt64 (I 179 16)) + (1 : Int64)) else (if (I 180 16) = (6 : Int32) then (Int32.toInt64 (I 179 16)) else ((((Int32.toInt64 (I 179 16)) * (Int32.toInt64 (if (I 180 16) = (0 : Int32) then (0 : Int32) else (if (5 : Int32) < (I 180 16) then (0 : Int32) else (if (I 180 16) = (1 : Int32) then (1 : Int32) else (il (4 : Int32) ((I 180 16) - (1 : Int32)))))))) + (63 : Int64)) / (64 : Int64))))) (64 : Int64)), .ref 166]) 7 rfl).trans ?_
  refine (mgI (t_Lle rfl) bj_10 (t_p (pc' := 95) (ls' := [some (.ref 166), some (.int p1), some (.int p2), some (.int (I 175 16)), some (.int ((I 176 16) / (64 : Int32))), some (.int (I 180 16)), some (.int (I 179 16)), some (.long (if (I 180 16) = (7 : Int32) then ((Int32.toInt64 (I 179 16)) + (1 : Int64)) else (if (I 180 16) = (6 : Int32) then (Int32.toInt64 (I 179 16)) else ((((Int32.toInt64 (I 179 16)) * (Int32.toInt64 (if (I 180 16) = (0 : Int32) then (0 : Int32) else (if (5 : Int32) < (I 180 16) then (0 : Int32) else (if (I 180 16) = (1 : Int32) then (1 : Int32) else (il (4 : Int32) ((I 180 16) - (1 : Int32)))))))) + (63 : Int64)) / (64 : Int64))))), none, none, none, none]) (st' := [.int (1 : Int32), .ref 166]) 2 rfl) (t_p (pc' := 95) (ls' := [some (.ref 166), some (.int p1), some (.int p2), some (.int (I 175 16)), some (.int ((I 176 16) / (64 : Int32))), some (.int (I 180 16)), some (.int (I 179 16)), some (.long (if (I 180 16) = (7 : Int32) then ((Int32.toInt64 (I 179 16)) + (1 : Int64)) else (if (I 180 16) = (6 : Int32) then (Int32.toInt64 (I 179 16)) else ((((Int32.toInt64 (I 179 16)) * (Int32.toInt64 (if (I 180 16) = (0 : Int32) then (0 : Int32) else (if (5 : Int32) < (I 180 16) then (0 : Int32) else (if (I 180 16) = (1 : Int32) then (1 : Int32) else (il (4 : Int32) ((I 180 16) - (1 : Int32)))))))) + (63 : Int64)) / (64 : Int64))))), none, none, none, none]) (st' := [.int (0 : Int32), .ref 166]) 1 rfl)).trans ?_
  refine (t_p (pc' := 96) (ls' := [some (.ref 166), some (.int p1), some (.int p2), some (.int (I 175 16)), some (.int ((I 176 16) / (64 : Int32))), some (.int (I 180 16)), some (.int (I 179 16)), some (.long (if (I 180 16) = (7 : Int32) then ((Int32.toInt64 (I 179 16)) + (1 : Int64)) else (if (I 180 16) = (6 : Int32) then (Int32.toInt64 (I 179 16)) else ((((Int32.toInt64 (I 179 16)) * (Int32.toInt64 (if (I 180 16) = (0 : Int32) then (0 : Int32) else (if (5 : Int32) < (I 180 16) then (0 : Int32) else (if (I 180 16) = (1 : Int32) then (1 : Int32) else (il (4 : Int32) ((I 180 16) - (1 : Int32)))))))) + (63 : Int64)) / (64 : Int64))))), none, none, none, none]) (st' := [.int (2 : Int32), .int (bz ((64 : Int64) < ((Int32.toInt64 p2) + (if (I 180 16) = (7 : Int32) then ((Int32.toInt64 (I 179 16)) + (1 : Int64)) else (if (I 180 16) = (6 : Int32) then (Int32.toInt64 (I 179 16)) else ((((Int32.toInt64 (I 179 16)) * (Int32.toInt64 (if (I 180 16) = (0 : Int32) then (0 : Int32) else (if (5 : Int32) < (I 180 16) then (0 : Int32) else (if (I 180 16) = (1 : Int32) then (1 : Int32) else (il (4 : Int32) ((I 180 16) - (1 : Int32)))))))) + (63 : Int64)) / (64 : Int64))))))), .ref 166]) 1 rfl).trans ?_
  refine (t_cW rfl rfl rfl rfl (fun q => ev_M_fails (d := d + 1)  q)).trans ?_
  refine cg (cgB (ex_i)) ?_ ?_
  · refine cg (ex_i) ?_ ?_
    · refine (ex_q).trans ?_
      refine cgT (t_beq rfl) (show ¬ ((2 : Int32) = (0 : Int32)) by decide) ?_
      refine (t_p (pc' := 103) (ls' := [some (.ref 166), some (.int p1), some (.int p2), some (.int (I 175 16)), some (.int ((I 176 16) / (64 : Int32))), some (.int (I 180 16)), some (.int (I 179 16)), some (.long (if (I 180 16) = (7 : Int32) then ((Int32.toInt64 (I 179 16)) + (1 : Int64)) else (if (I 180 16) = (6 : Int32) then (Int32.toInt64 (I 179 16)) else ((((Int32.toInt64 (I 179 16)) * (Int32.toInt64 (if (I 180 16) = (0 : Int32) then (0 : Int32) else (if (5 : Int32) < (I 180 16) then (0 : Int32) else (if (I 180 16) = (1 : Int32) then (1 : Int32) else (il (4 : Int32) ((I 180 16) - (1 : Int32)))))))) + (63 : Int64)) / (64 : Int64))))), none, none, none, none]) (st' := [.int p2]) 1 rfl).trans ?_
      exact t_rI rfl
    · refine (ex_q).trans ?_
      refine cgF (t_feq rfl) (show ¬ ((1 : Int32) = (0 : Int32)) by decide) ?_
      refine (t_p (pc' := 103) (ls' := [some (.ref 166), some (.int p1), some (.int p2), some (.int (I 175 16)), some (.int ((I 176 16) / (64 : Int32))), some (.int (I 180 16)), some (.int (I 179 16)), some (.long (if (I 180 16) = (7 : Int32) then ((Int32.toInt64 (I 179 16)) + (1 : Int64)) else (if (I 180 16) = (6 : Int32) then (Int32.toInt64 (I 179 16)) else ((((Int32.toInt64 (I 179 16)) * (Int32.toInt64 (if (I 180 16) = (0 : Int32) then (0 : Int32) else (if (5 : Int32) < (I 180 16) then (0 : Int32) else (if (I 180 16) = (1 : Int32) then (1 : Int32) else (il (4 : Int32) ((I 180 16) - (1 : Int32)))))))) + (63 : Int64)) / (64 : Int64))))), none, none, none, none]) (st' := [.int p2]) 1 rfl).trans ?_
      exact t_rI rfl
  · refine (ex_q).trans ?_
    refine cg (cgN (t_beq rfl)) ?_ ?_
    · refine (t_p (pc' := 113) (ls' := [some (.ref 166), some (.int p1), some (.int p2), some (.int (I 175 16)), some (.int ((I 176 16) / (64 : Int32))), some (.int (I 180 16)), some (.int (I 179 16)), some (.long (if (I 180 16) = (7 : Int32) then ((Int32.toInt64 (I 179 16)) + (1 : Int64)) else (if (I 180 16) = (6 : Int32) then (Int32.toInt64 (I 179 16)) else ((((Int32.toInt64 (I 179 16)) * (Int32.toInt64 (if (I 180 16) = (0 : Int32) then (0 : Int32) else (if (5 : Int32) < (I 180 16) then (0 : Int32) else (if (I 180 16) = (1 : Int32) then (1 : Int32) else (il (4 : Int32) ((I 180 16) - (1 : Int32)))))))) + (63 : Int64)) / (64 : Int64))))), none, some (.int (Int64.toInt32 (if (I 180 16) = (7 : Int32) then ((Int32.toInt64 (I 179 16)) + (1 : Int64)) else (if (I 180 16) = (6 : Int32) then (Int32.toInt64 (I 179 16)) else ((((Int32.toInt64 (I 179 16)) * (Int32.toInt64 (if (I 180 16) = (0 : Int32) then (0 : Int32) else (if (5 : Int32) < (I 180 16) then (0 : Int32) else (if (I 180 16) = (1 : Int32) then (1 : Int32) else (il (4 : Int32) ((I 180 16) - (1 : Int32)))))))) + (63 : Int64)) / (64 : Int64)))))), none, none]) (st' := [.int (I 180 16), .int (I 179 16)]) 5 rfl).trans ?_
      refine (t_cQ rfl rfl rfl (fun q => ev_M_bitsOf (d := d + 1)  q)).trans ?_
      refine (ex_q).trans ?_
      refine (t_p (pc' := 126) (ls' := [some (.ref 166), some (.int p1), some (.int p2), some (.int (I 175 16)), some (.int ((I 176 16) / (64 : Int32))), some (.int (I 180 16)), some (.int (I 179 16)), some (.long (if (I 180 16) = (7 : Int32) then ((Int32.toInt64 (I 179 16)) + (1 : Int64)) else (if (I 180 16) = (6 : Int32) then (Int32.toInt64 (I 179 16)) else ((((Int32.toInt64 (I 179 16)) * (Int32.toInt64 (if (I 180 16) = (0 : Int32) then (0 : Int32) else (if (5 : Int32) < (I 180 16) then (0 : Int32) else (if (I 180 16) = (1 : Int32) then (1 : Int32) else (il (4 : Int32) ((I 180 16) - (1 : Int32)))))))) + (63 : Int64)) / (64 : Int64))))), none, some (.int (Int64.toInt32 (if (I 180 16) = (7 : Int32) then ((Int32.toInt64 (I 179 16)) + (1 : Int64)) else (if (I 180 16) = (6 : Int32) then (Int32.toInt64 (I 179 16)) else ((((Int32.toInt64 (I 179 16)) * (Int32.toInt64 (if (I 180 16) = (0 : Int32) then (0 : Int32) else (if (5 : Int32) < (I 180 16) then (0 : Int32) else (if (I 180 16) = (1 : Int32) then (1 : Int32) else (il (4 : Int32) ((I 180 16) - (1 : Int32)))))))) + (63 : Int64)) / (64 : Int64)))))), some (.int (irm ((I 179 16) * (if (I 180 16) = (0 : Int32) then (0 : Int32) else (if (5 : Int32) < (I 180 16) then (0 : Int32) else (if (I 180 16) = (1 : Int32) then (1 : Int32) else (il (4 : Int32) ((I 180 16) - (1 : Int32))))))) (64 : Int32))), none]) (st' := [.int (6 : Int32), .int (I 180 16)]) 6 rfl).trans ?_
      refine cg (t_ine rfl) ?_ ?_
      · exact t_p (pc' := 135) (ls' := [some (.ref 166), some (.int p1), some (.int p2), some (.int (I 175 16)), some (.int ((I 176 16) / (64 : Int32))), some (.int (I 180 16)), some (.int (I 179 16)), some (.long (if (I 180 16) = (7 : Int32) then ((Int32.toInt64 (I 179 16)) + (1 : Int64)) else (if (I 180 16) = (6 : Int32) then (Int32.toInt64 (I 179 16)) else ((((Int32.toInt64 (I 179 16)) * (Int32.toInt64 (if (I 180 16) = (0 : Int32) then (0 : Int32) else (if (5 : Int32) < (I 180 16) then (0 : Int32) else (if (I 180 16) = (1 : Int32) then (1 : Int32) else (il (4 : Int32) ((I 180 16) - (1 : Int32)))))))) + (63 : Int64)) / (64 : Int64))))), none, some (.int (Int64.toInt32 (if (I 180 16) = (7 : Int32) then ((Int32.toInt64 (I 179 16)) + (1 : Int64)) else (if (I 180 16) = (6 : Int32) then (Int32.toInt64 (I 179 16)) else ((((Int32.toInt64 (I 179 16)) * (Int32.toInt64 (if (I 180 16) = (0 : Int32) then (0 : Int32) else (if (5 : Int32) < (I 180 16) then (0 : Int32) else (if (I 180 16) = (1 : Int32) then (1 : Int32) else (il (4 : Int32) ((I 180 16) - (1 : Int32)))))))) + (63 : Int64)) / (64 : Int64)))))), some (.int (irm ((I 179 16) * (if (I 180 16) = (0 : Int32) then (0 : Int32) else (if (5 : Int32) < (I 180 16) then (0 : Int32) else (if (I 180 16) = (1 : Int32) then (1 : Int32) else (il (4 : Int32) ((I 180 16) - (1 : Int32))))))) (64 : Int32))), some (.int ((Int64.toInt32 (if (I 180 16) = (7 : Int32) then ((Int32.toInt64 (I 179 16)) + (1 : Int64)) else (if (I 180 16) = (6 : Int32) then (Int32.toInt64 (I 179 16)) else ((((Int32.toInt64 (I 179 16)) * (Int32.toInt64 (if (I 180 16) = (0 : Int32) then (0 : Int32) else (if (5 : Int32) < (I 180 16) then (0 : Int32) else (if (I 180 16) = (1 : Int32) then (1 : Int32) else (il (4 : Int32) ((I 180 16) - (1 : Int32)))))))) + (63 : Int64)) / (64 : Int64))))) - (1 : Int32)))]) (st' := []) 4 rfl
      · exact t_p (pc' := 173) (ls' := [some (.ref 166), some (.int p1), some (.int p2), some (.int (I 175 16)), some (.int ((I 176 16) / (64 : Int32))), some (.int (I 180 16)), some (.int (I 179 16)), some (.long (if (I 180 16) = (7 : Int32) then ((Int32.toInt64 (I 179 16)) + (1 : Int64)) else (if (I 180 16) = (6 : Int32) then (Int32.toInt64 (I 179 16)) else ((((Int32.toInt64 (I 179 16)) * (Int32.toInt64 (if (I 180 16) = (0 : Int32) then (0 : Int32) else (if (5 : Int32) < (I 180 16) then (0 : Int32) else (if (I 180 16) = (1 : Int32) then (1 : Int32) else (il (4 : Int32) ((I 180 16) - (1 : Int32)))))))) + (63 : Int64)) / (64 : Int64))))), none, some (.int (Int64.toInt32 (if (I 180 16) = (7 : Int32) then ((Int32.toInt64 (I 179 16)) + (1 : Int64)) else (if (I 180 16) = (6 : Int32) then (Int32.toInt64 (I 179 16)) else ((((Int32.toInt64 (I 179 16)) * (Int32.toInt64 (if (I 180 16) = (0 : Int32) then (0 : Int32) else (if (5 : Int32) < (I 180 16) then (0 : Int32) else (if (I 180 16) = (1 : Int32) then (1 : Int32) else (il (4 : Int32) ((I 180 16) - (1 : Int32)))))))) + (63 : Int64)) / (64 : Int64)))))), some (.int (irm ((I 179 16) * (if (I 180 16) = (0 : Int32) then (0 : Int32) else (if (5 : Int32) < (I 180 16) then (0 : Int32) else (if (I 180 16) = (1 : Int32) then (1 : Int32) else (il (4 : Int32) ((I 180 16) - (1 : Int32))))))) (64 : Int32))), some (.int (0 : Int32))]) (st' := []) 2 rfl
    · refine (t_p (pc' := 103) (ls' := [some (.ref 166), some (.int p1), some (.int p2), some (.int (I 175 16)), some (.int ((I 176 16) / (64 : Int32))), some (.int (I 180 16)), some (.int (I 179 16)), some (.long (if (I 180 16) = (7 : Int32) then ((Int32.toInt64 (I 179 16)) + (1 : Int64)) else (if (I 180 16) = (6 : Int32) then (Int32.toInt64 (I 179 16)) else ((((Int32.toInt64 (I 179 16)) * (Int32.toInt64 (if (I 180 16) = (0 : Int32) then (0 : Int32) else (if (5 : Int32) < (I 180 16) then (0 : Int32) else (if (I 180 16) = (1 : Int32) then (1 : Int32) else (il (4 : Int32) ((I 180 16) - (1 : Int32)))))))) + (63 : Int64)) / (64 : Int64))))), none, none, none, none]) (st' := [.int p2]) 1 rfl).trans ?_
      exact t_rI rfl
theorem b_M_writesList_135 {X : pm_X} {d : Nat} {I : st_I} {J : st_J} {p1 : Int32} {p2 : Int32} {v3 : Int32} {v4 : Int32} {v5 : Int32} {v6 : Int32} {v7 : Int64} {v9 : Int32} {v10 : Int32} {v11 : Int32} {c k : Nat} (r : pm_R) : Gx X (d + 2) (kc_M_writesList, []) (135, [some (.ref 166), some (.int p1), some (.int p2), some (.int v3), some (.int v4), some (.int v5), some (.int v6), some (.long v7), none, some (.int v9), some (.int v10), some (.int v11)], [], st_h I J, c, k) r ↔ (if v11 < (0 : Int32) then r = (.inl (some (.int (p2 + v9))), st_h I J, c, k) else ((pm_in (I 166 26) 80) = true ∧ Gx X (d + 2) (kc_M_writesList, []) (135, [some (.ref 166), some (.int p1), some (.int p2), some (.int v3), some (.int v4), some (.int v5), some (.int v6), some (.long v7), none, some (.int v9), some (.int v10), some (.int (v11 + (-1 : Int32)))], [], st_h (st_w (st_w (st_w (st_w (st_w I 183 (Int32.toNatClampNeg (I 166 26)) v3) 184 (Int32.toNatClampNeg (I 166 26)) (v4 + v11)) 185 (Int32.toNatClampNeg (I 166 26)) (p2 + v11)) 186 (Int32.toNatClampNeg (I 166 26)) (I 174 16)) 166 26 ((I 166 26) + (1 : Int32))) J, c, k) r)) := by
  refine (t_p (pc' := 137) (ls' := [some (.ref 166), some (.int p1), some (.int p2), some (.int v3), some (.int v4), some (.int v5), some (.int v6), some (.long v7), none, some (.int v9), some (.int v10), some (.int v11)]) (st' := [.int v11]) 1 rfl).trans ?_
  refine cg (t_flt rfl) ?_ ?_
  · refine (t_p (pc' := 251) (ls' := [some (.ref 166), some (.int p1), some (.int p2), some (.int v3), some (.int v4), some (.int v5), some (.int v6), some (.long v7), none, some (.int v9), some (.int v10), some (.int v11)]) (st' := [.int (p2 + v9)]) 4 rfl).trans ?_
    exact t_rI rfl
  · refine (t_p (pc' := 152) (ls' := [some (.ref 166), some (.int p1), some (.int p2), some (.int v3), some (.int v4), some (.int v5), some (.int v6), some (.long v7), none, some (.int v9), some (.int v10), some (.int v11)]) (st' := [.ref 166, .int (p2 + v11), .int (v4 + v11), .int v3, .ref 166]) 9 rfl).trans ?_
    refine (t_gR rfl rfl).trans ?_
    refine (t_p (pc' := 157) (ls' := [some (.ref 166), some (.int p1), some (.int p2), some (.int v3), some (.int v4), some (.int v5), some (.int v6), some (.long v7), none, some (.int v9), some (.int v10), some (.int v11)]) (st' := [.int (16 : Int32), .ref 174, .int (p2 + v11), .int (v4 + v11), .int v3, .ref 166]) 1 rfl).trans ?_
    refine ((t_lI rfl rfl).trans (and_t (rfl : (pm_in (16 : Int32) 17) = true))).trans ?_
    refine (t_cW rfl rfl rfl rfl (fun q => ev_M_push (d := d + 1)  q)).trans ?_
    refine t_an (ex_a) (fun h3 => ?_)
    refine (ex_q).trans ?_
    exact t_p (pc' := 135) (ls' := [some (.ref 166), some (.int p1), some (.int p2), some (.int v3), some (.int v4), some (.int v5), some (.int v6), some (.long v7), none, some (.int v9), some (.int v10), some (.int (v11 + (-1 : Int32)))]) (st' := []) 2 rfl
theorem b_M_writesList_173 {X : pm_X} {d : Nat} {I : st_I} {J : st_J} {p1 : Int32} {p2 : Int32} {v3 : Int32} {v4 : Int32} {v5 : Int32} {v6 : Int32} {v7 : Int64} {v9 : Int32} {v10 : Int32} {v11 : Int32} {c k : Nat} (r : pm_R) : Gx X (d + 2) (kc_M_writesList, []) (173, [some (.ref 166), some (.int p1), some (.int p2), some (.int v3), some (.int v4), some (.int v5), some (.int v6), some (.long v7), none, some (.int v9), some (.int v10), some (.int v11)], [], st_h I J, c, k) r ↔ (if v11 < v9 then (if v11 = (v9 - (1 : Int32)) then (if (0 : Int32) < v10 then ((pm_in ((((64 : Int32) * v3) + v4) + v11) 256) = true ∧ ((pm_in (p2 + v11) 64) = true ∧ Gx X (d + 2) (kc_M_writesList, []) (173, [some (.ref 166), some (.int p1), some (.int p2), some (.int v3), some (.int v4), some (.int v5), some (.int v6), some (.long v7), none, some (.int v9), some (.int v10), some (.int (v11 + (1 : Int32)))], [], st_h I (st_y J 168 (Int32.toNatClampNeg (p2 + v11)) (if v10 = (64 : Int32) then (J 167 (Int32.toNatClampNeg ((((64 : Int32) * v3) + v4) + v11))) else ((J 167 (Int32.toNatClampNeg ((((64 : Int32) * v3) + v4) + v11))) &&& ((jl (1 : Int64) v10) - (1 : Int64))))), c, k) r)) else ((pm_in ((((64 : Int32) * v3) + v4) + v11) 256) = true ∧ ((pm_in (p2 + v11) 64) = true ∧ Gx X (d + 2) (kc_M_writesList, []) (173, [some (.ref 166), some (.int p1), some (.int p2), some (.int v3), some (.int v4), some (.int v5), some (.int v6), some (.long v7), none, some (.int v9), some (.int v10), some (.int (v11 + (1 : Int32)))], [], st_h I (st_y J 168 (Int32.toNatClampNeg (p2 + v11)) (J 167 (Int32.toNatClampNeg ((((64 : Int32) * v3) + v4) + v11)))), c, k) r))) else ((pm_in ((((64 : Int32) * v3) + v4) + v11) 256) = true ∧ ((pm_in (p2 + v11) 64) = true ∧ Gx X (d + 2) (kc_M_writesList, []) (173, [some (.ref 166), some (.int p1), some (.int p2), some (.int v3), some (.int v4), some (.int v5), some (.int v6), some (.long v7), none, some (.int v9), some (.int v10), some (.int (v11 + (1 : Int32)))], [], st_h I (st_y J 168 (Int32.toNatClampNeg (p2 + v11)) (J 167 (Int32.toNatClampNeg ((((64 : Int32) * v3) + v4) + v11)))), c, k) r))) else r = (.inl (some (.int (p2 + v9))), st_h I J, c, k)) := by
  refine (t_p (pc' := 177) (ls' := [some (.ref 166), some (.int p1), some (.int p2), some (.int v3), some (.int v4), some (.int v5), some (.int v6), some (.long v7), none, some (.int v9), some (.int v10), some (.int v11)]) (st' := [.int v9, .int v11]) 2 rfl).trans ?_
  refine cg (t_ige rfl) ?_ ?_
  · refine (t_p (pc' := 181) (ls' := [some (.ref 166), some (.int p1), some (.int p2), some (.int v3), some (.int v4), some (.int v5), some (.int v6), some (.long v7), none, some (.int v9), some (.int v10), some (.int v11)]) (st' := [.ref 166]) 1 rfl).trans ?_
    refine (t_gR rfl rfl).trans ?_
    refine (t_p (pc' := 194) (ls' := [some (.ref 166), some (.int p1), some (.int p2), some (.int v3), some (.int v4), some (.int v5), some (.int v6), some (.long v7), none, some (.int v9), some (.int v10), some (.int v11)]) (st' := [.int (v9 - (1 : Int32)), .int v11, .int (p2 + v11), .ref 168]) 7 rfl).trans ?_
    refine cg (t_ine rfl) ?_ ?_
    · refine (t_p (pc' := 199) (ls' := [some (.ref 166), some (.int p1), some (.int p2), some (.int v3), some (.int v4), some (.int v5), some (.int v6), some (.long v7), none, some (.int v9), some (.int v10), some (.int v11)]) (st' := [.int v10, .int (p2 + v11), .ref 168]) 1 rfl).trans ?_
      refine cg (t_fle rfl) ?_ ?_
      · refine (t_p (pc' := 203) (ls' := [some (.ref 166), some (.int p1), some (.int p2), some (.int v3), some (.int v4), some (.int v5), some (.int v6), some (.long v7), none, some (.int v9), some (.int v10), some (.int v11)]) (st' := [.ref 166, .int (p2 + v11), .ref 168]) 1 rfl).trans ?_
        refine (t_gR rfl rfl).trans ?_
        refine (t_p (pc' := 216) (ls' := [some (.ref 166), some (.int p1), some (.int p2), some (.int v3), some (.int v4), some (.int v5), some (.int v6), some (.long v7), none, some (.int v9), some (.int v10), some (.int v11)]) (st' := [.int ((((64 : Int32) * v3) + v4) + v11), .ref 167, .int (p2 + v11), .ref 168]) 7 rfl).trans ?_
        refine t_an (t_lJ rfl rfl) (fun h28 => ?_)
        refine (t_p (pc' := 219) (ls' := [some (.ref 166), some (.int p1), some (.int p2), some (.int v3), some (.int v4), some (.int v5), some (.int v6), some (.long v7), none, some (.int v9), some (.int v10), some (.int v11)]) (st' := [.int v10, .long (J 167 (Int32.toNatClampNeg ((((64 : Int32) * v3) + v4) + v11))), .int (p2 + v11), .ref 168]) 1 rfl).trans ?_
        refine (t_cQ rfl rfl rfl (fun q => ev_M_cut (d := d + 1)  q)).trans ?_
        refine (ex_q).trans ?_
        refine (t_p (pc' := 240) (ls' := [some (.ref 166), some (.int p1), some (.int p2), some (.int v3), some (.int v4), some (.int v5), some (.int v6), some (.long v7), none, some (.int v9), some (.int v10), some (.int v11)]) (st' := [.long (if v10 = (64 : Int32) then (J 167 (Int32.toNatClampNeg ((((64 : Int32) * v3) + v4) + v11))) else ((J 167 (Int32.toNatClampNeg ((((64 : Int32) * v3) + v4) + v11))) &&& ((jl (1 : Int64) v10) - (1 : Int64)))), .int (p2 + v11), .ref 168]) 1 rfl).trans ?_
        refine t_an (t_sJ rfl rfl) (fun h29 => ?_)
        exact t_p (pc' := 173) (ls' := [some (.ref 166), some (.int p1), some (.int p2), some (.int v3), some (.int v4), some (.int v5), some (.int v6), some (.long v7), none, some (.int v9), some (.int v10), some (.int (v11 + (1 : Int32)))]) (st' := []) 2 rfl
      · refine (t_p (pc' := 226) (ls' := [some (.ref 166), some (.int p1), some (.int p2), some (.int v3), some (.int v4), some (.int v5), some (.int v6), some (.long v7), none, some (.int v9), some (.int v10), some (.int v11)]) (st' := [.ref 166, .int (p2 + v11), .ref 168]) 1 rfl).trans ?_
        refine (t_gR rfl rfl).trans ?_
        refine (t_p (pc' := 239) (ls' := [some (.ref 166), some (.int p1), some (.int p2), some (.int v3), some (.int v4), some (.int v5), some (.int v6), some (.long v7), none, some (.int v9), some (.int v10), some (.int v11)]) (st' := [.int ((((64 : Int32) * v3) + v4) + v11), .ref 167, .int (p2 + v11), .ref 168]) 7 rfl).trans ?_
        refine t_an (t_lJ rfl rfl) (fun h30 => ?_)
        refine t_an (t_sJ rfl rfl) (fun h31 => ?_)
        exact t_p (pc' := 173) (ls' := [some (.ref 166), some (.int p1), some (.int p2), some (.int v3), some (.int v4), some (.int v5), some (.int v6), some (.long v7), none, some (.int v9), some (.int v10), some (.int (v11 + (1 : Int32)))]) (st' := []) 2 rfl
    · refine (t_p (pc' := 226) (ls' := [some (.ref 166), some (.int p1), some (.int p2), some (.int v3), some (.int v4), some (.int v5), some (.int v6), some (.long v7), none, some (.int v9), some (.int v10), some (.int v11)]) (st' := [.ref 166, .int (p2 + v11), .ref 168]) 1 rfl).trans ?_
      refine (t_gR rfl rfl).trans ?_
      refine (t_p (pc' := 239) (ls' := [some (.ref 166), some (.int p1), some (.int p2), some (.int v3), some (.int v4), some (.int v5), some (.int v6), some (.long v7), none, some (.int v9), some (.int v10), some (.int v11)]) (st' := [.int ((((64 : Int32) * v3) + v4) + v11), .ref 167, .int (p2 + v11), .ref 168]) 7 rfl).trans ?_
      refine t_an (t_lJ rfl rfl) (fun h32 => ?_)
      refine t_an (t_sJ rfl rfl) (fun h33 => ?_)
      exact t_p (pc' := 173) (ls' := [some (.ref 166), some (.int p1), some (.int p2), some (.int v3), some (.int v4), some (.int v5), some (.int v6), some (.long v7), none, some (.int v9), some (.int v10), some (.int (v11 + (1 : Int32)))]) (st' := []) 2 rfl
  · refine (t_p (pc' := 251) (ls' := [some (.ref 166), some (.int p1), some (.int p2), some (.int v3), some (.int v4), some (.int v5), some (.int v6), some (.long v7), none, some (.int v9), some (.int v10), some (.int v11)]) (st' := [.int (p2 + v9)]) 3 rfl).trans ?_
    exact t_rI rfl
theorem e_D_cursorsToNothing {X : pm_X} {d : Nat} {I : st_I} {J : st_J}  (r : pm_R) : Ex X (d + 3) 16 [.ref 0] (st_h I J) r ↔ Gx X (d + 2) (kc_D_cursorsToNothing, []) (2, [some (.ref 0), some (.int (0 : Int32))], [], st_h I J, 0, 0) r := by
  refine (Ex_iff (M := (kc_D_cursorsToNothing, [])) (n := 2) rfl rfl).trans ?_
  exact t_p (pc' := 2) (ls' := [some (.ref 0), some (.int (0 : Int32))]) (st' := []) 2 rfl
theorem b_D_cursorsToNothing_2 {X : pm_X} {d : Nat} {I : st_I} {J : st_J}  {v1 : Int32} {c k : Nat} (r : pm_R) : Gx X (d + 2) (kc_D_cursorsToNothing, []) (2, [some (.ref 0), some (.int v1)], [], st_h I J, c, k) r ↔ (if v1 < (16 : Int32) then ((pm_in v1 16) = true ∧ Gx X (d + 2) (kc_D_cursorsToNothing, []) (2, [some (.ref 0), some (.int (v1 + (1 : Int32)))], [], st_h (st_w (st_w (st_w (st_w (st_w (st_w (st_w (st_w (st_w I (150 + (Int32.toNatClampNeg v1)) 0 (0 : Int32)) (150 + (Int32.toNatClampNeg v1)) 2 (0 : Int32)) (150 + (Int32.toNatClampNeg v1)) 3 (0 : Int32)) (150 + (Int32.toNatClampNeg v1)) 1 (0 : Int32)) (150 + (Int32.toNatClampNeg v1)) 4 (0 : Int32)) (150 + (Int32.toNatClampNeg v1)) 5 (0 : Int32)) (150 + (Int32.toNatClampNeg v1)) 6 (0 : Int32)) (150 + (Int32.toNatClampNeg v1)) 7 (0 : Int32)) (150 + (Int32.toNatClampNeg v1)) 8 (0 : Int32)) J, c, k) r) else r = (.inl none, st_h I J, c, k)) := by
  refine (t_p (pc' := 5) (ls' := [some (.ref 0), some (.int v1)]) (st' := [.int (16 : Int32), .int v1]) 2 rfl).trans ?_
  refine cg (t_ige rfl) ?_ ?_
  · refine (t_p (pc' := 9) (ls' := [some (.ref 0), some (.int v1)]) (st' := [.ref 0]) 1 rfl).trans ?_
    refine (t_gR rfl rfl).trans ?_
    refine (t_p (pc' := 13) (ls' := [some (.ref 0), some (.int v1)]) (st' := [.int v1, .ref 145]) 1 rfl).trans ?_
    refine t_an (t_lR1 rfl rfl) (fun h3 => ?_)
    refine (t_cW rfl rfl rfl (clS (siS1 h3)) (fun q => ev_Sp_toNothing (d := d) (siS1 h3) q)).trans ?_
    refine (ex_q).trans ?_
    exact t_p (pc' := 2) (ls' := [some (.ref 0), some (.int (v1 + (1 : Int32)))]) (st' := []) 2 rfl
  · exact t_rV rfl
