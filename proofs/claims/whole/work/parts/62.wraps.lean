theorem iv_L_segment {X : pm_X} {d : Nat} {I : st_I} {J : st_J} {p1 : Int32} {p2 : Int32} {p3 : Int32} {p4 : Int32} {p5 : Int32} (r : pm_R) : (if (p1 < (1 : Int32)) ∨ ((4 : Int32) < p1) then r = (.inl (some (.int (1 : Int32))), st_h I J, 1, 6) else (if (¬ ((¬ (p2 < (0 : Int32))) ∧ (¬ ((64 : Int32) < p2)))) ∨ (((1 : Int32) < p1) ∧ (¬ ((¬ (p3 < (0 : Int32))) ∧ (¬ ((64 : Int32) < p3))))) then r = (.inl (some (.int (1 : Int32))), st_h I J, 1, 6) else (if (((2 : Int32) < p1) ∧ ((¬ ((¬ (p4 < (0 : Int32))) ∧ (¬ ((64 : Int32) < p4)))) ∨ (((3 : Int32) < p1) ∧ (¬ ((¬ (p5 < (0 : Int32))) ∧ (¬ ((64 : Int32) < p5))))))) ∨ ((¬ ((2 : Int32) < p1)) ∧ (((3 : Int32) < p1) ∧ (¬ ((¬ (p5 < (0 : Int32))) ∧ (¬ ((64 : Int32) < p5)))))) then r = (.inl (some (.int (1 : Int32))), st_h I J, 1, 6) else r = (.inl (some (.int (0 : Int32))), st_h (st_cz (st_w (st_w (st_w (st_w (st_w (st_w (st_w (st_w (st_w (st_w I 7 0 (0 : Int32)) 7 1 (0 : Int32)) 7 2 (0 : Int32)) 7 3 (0 : Int32)) 1 2 p1) 1 3 (0 : Int32)) 7 0 p2) 7 1 (if (1 : Int32) < p1 then p3 else (0 : Int32))) 7 2 (if (2 : Int32) < p1 then p4 else (0 : Int32))) 7 3 (if (3 : Int32) < p1 then p5 else (0 : Int32))) 16) (st_fl (st_fl (st_fl (st_fl J 3 64 (0 : Int64)) 4 64 (0 : Int64)) 5 64 (0 : Int64)) 6 64 (0 : Int64)), 0, 0)))) → Ex X (d + 5) 10 [.ref 0, .int p1, .int p2, .int p3, .int p4, .int p5] (st_h I J) r := by
  refine ic (Ex_iff (M := (kc_L_segment, [(0, 11, 16, 1, 6)])) (n := 7) rfl rfl) ?_
  refine ic (t_p (pc' := 8) (ls' := [some (.ref 0), some (.int p1), some (.int p2), some (.int p3), some (.int p4), some (.int p5), none]) (st' := [.int p5, .int p4, .int p3, .int p2, .int p1, .ref 0]) 6 rfl) ?_
  refine ip (i_cW rfl rfl rfl rfl (fun q => iv_D_segment (d := d)  q)) ?_
  refine i_cg (ex_i) ?_ ?_
  · refine ic (ex_h rfl) ?_
    refine ic (t_p (pc' := 17) (ls' := [some (.ref 0), some (.int p1), some (.int p2), some (.int p3), some (.int p4), some (.int p5), none]) (st' := [.int (1 : Int32)]) 1 rfl) ?_
    exact ic (t_rI rfl) id
  · refine i_cg (ex_i) ?_ ?_
    · refine ic (ex_h rfl) ?_
      refine ic (t_p (pc' := 17) (ls' := [some (.ref 0), some (.int p1), some (.int p2), some (.int p3), some (.int p4), some (.int p5), none]) (st' := [.int (1 : Int32)]) 1 rfl) ?_
      exact ic (t_rI rfl) id
    · refine i_cg (ex_i) ?_ ?_
      · refine ic (ex_h rfl) ?_
        refine ic (t_p (pc' := 17) (ls' := [some (.ref 0), some (.int p1), some (.int p2), some (.int p3), some (.int p4), some (.int p5), none]) (st' := [.int (1 : Int32)]) 1 rfl) ?_
        exact ic (t_rI rfl) id
      · refine ic (ex_q) ?_
        refine ic (t_p (pc' := 19) (ls' := [some (.ref 0), some (.int p1), some (.int p2), some (.int p3), some (.int p4), some (.int p5), none]) (st' := [.int (0 : Int32)]) 2 rfl) ?_
        exact ic (t_rI rfl) id
theorem iv_L_word {X : pm_X} {d : Nat} {I : st_I} {J : st_J} {p1 : Int32} {p2 : Int32} {p3 : Int64} (r : pm_R) : (((¬ ((Int32.toInt64 p1) < (0 : Int64))) → (((Int32.toInt64 p1) < (Int32.toInt64 (I 1 2))) → ((¬ (p2 < (0 : Int32))) → (pm_in (Int64.toInt32 (Int32.toInt64 p1)) 4) = true))) ∧ (if (¬ ((Int32.toInt64 p1) < (0 : Int64))) ∧ (((Int32.toInt64 p1) < (Int32.toInt64 (I 1 2))) ∧ ((¬ (p2 < (0 : Int32))) ∧ (p2 < (I 7 (Int32.toNatClampNeg (Int64.toInt32 (Int32.toInt64 p1))))))) then ((pm_in p1 4) = true ∧ ((pm_in p2 64) = true ∧ r = (.inl (some (.int (0 : Int32))), st_h (st_w I 1 3 (0 : Int32)) (st_y (st_y J (3 + (Int32.toNatClampNeg p1)) (Int32.toNatClampNeg p2) p3) 187 0 (J (3 + (Int32.toNatClampNeg p1)) (Int32.toNatClampNeg p2))), 0, 0))) else r = (.inl (some (.int (1 : Int32))), st_h I J, 1, 6))) → Ex X (d + 3) 19 [.ref 0, .int p1, .int p2, .long p3, .ref 187] (st_h I J) r := by
  refine ic (Ex_iff (M := (kc_L_word, [(0, 11, 16, 1, 6)])) (n := 7) rfl rfl) ?_
  refine ic (t_p (pc' := 7) (ls' := [some (.ref 0), some (.int p1), some (.int p2), some (.long p3), none, some (.ref 187), none]) (st' := [.long p3, .int p2, .int p1, .ref 0, .int (0 : Int32), .ref 187]) 6 rfl) ?_
  refine ic (t_cW rfl rfl rfl rfl (fun q => ev_D_word (d := d)  q)) ?_
  refine i_an (ex_a) (fun h1 => ?_)
  refine i_cg (ex_i) ?_ ?_
  · refine i_an (ex_a) (fun h3 => ?_)
    refine i_an (ex_a) (fun h4 => ?_)
    refine ic (ex_q) ?_
    refine ic ((t_sJ rfl rfl).trans (and_t (rfl : (pm_in (0 : Int32) 1) = true))) ?_
    refine ic (t_p (pc' := 19) (ls' := [some (.ref 0), some (.int p1), some (.int p2), some (.long p3), none, some (.ref 187), none]) (st' := [.int (0 : Int32)]) 2 rfl) ?_
    exact ic (t_rI rfl) id
  · refine ic (ex_h rfl) ?_
    refine ic (t_p (pc' := 17) (ls' := [some (.ref 0), some (.int p1), some (.int p2), some (.long p3), none, some (.ref 187), none]) (st' := [.int (1 : Int32)]) 1 rfl) ?_
    exact ic (t_rI rfl) id
theorem iv_L_at {X : pm_X} {d : Nat} {I : st_I} {J : st_J} {p1 : Int32} {p2 : Int32} (r : pm_R) : (((¬ ((Int32.toInt64 p1) < (0 : Int64))) → (((Int32.toInt64 p1) < (Int32.toInt64 (I 1 2))) → ((¬ (p2 < (0 : Int32))) → (pm_in (Int64.toInt32 (Int32.toInt64 p1)) 4) = true))) ∧ (if (¬ ((Int32.toInt64 p1) < (0 : Int64))) ∧ (((Int32.toInt64 p1) < (Int32.toInt64 (I 1 2))) ∧ ((¬ (p2 < (0 : Int32))) ∧ (p2 < (I 7 (Int32.toNatClampNeg (Int64.toInt32 (Int32.toInt64 p1))))))) then ((pm_in p1 4) = true ∧ ((pm_in p2 64) = true ∧ r = (.inl (some (.int (0 : Int32))), st_h I (st_y J 187 0 (J (3 + (Int32.toNatClampNeg p1)) (Int32.toNatClampNeg p2))), 0, 0))) else r = (.inl (some (.int (1 : Int32))), st_h I J, 1, 6))) → Ex X (d + 3) 22 [.ref 0, .int p1, .int p2, .ref 187] (st_h I J) r := by
  refine ic (Ex_iff (M := (kc_L_at, [(0, 9, 14, 1, 4)])) (n := 5) rfl rfl) ?_
  refine ic (t_p (pc' := 5) (ls' := [some (.ref 0), some (.int p1), some (.int p2), some (.ref 187), none]) (st' := [.int p2, .int p1, .ref 0, .int (0 : Int32), .ref 187]) 5 rfl) ?_
  refine ic (t_cW rfl rfl rfl rfl (fun q => ev_D_at (d := d)  q)) ?_
  refine i_an (ex_a) (fun h1 => ?_)
  refine i_cg (ex_i) ?_ ?_
  · refine i_an (ex_a) (fun h3 => ?_)
    refine i_an (ex_a) (fun h4 => ?_)
    refine ic (ex_q) ?_
    refine ic ((t_sJ rfl rfl).trans (and_t (rfl : (pm_in (0 : Int32) 1) = true))) ?_
    refine ic (t_p (pc' := 17) (ls' := [some (.ref 0), some (.int p1), some (.int p2), some (.ref 187), none]) (st' := [.int (0 : Int32)]) 2 rfl) ?_
    exact ic (t_rI rfl) id
  · refine ic (ex_h rfl) ?_
    refine ic (t_p (pc' := 15) (ls' := [some (.ref 0), some (.int p1), some (.int p2), some (.ref 187), none]) (st' := [.int (1 : Int32)]) 1 rfl) ?_
    exact ic (t_rI rfl) id
theorem iv_L_allow {X : pm_X} {d : Nat} {I : st_I} {J : st_J} {p1 : Int32} (r : pm_R) : (if (p1 < (0 : Int32)) ∨ ((100000 : Int32) < p1) then r = (.inl (some (.int (1 : Int32))), st_h I J, 1, 6) else r = (.inl (some (.int (0 : Int32))), st_h (st_w I 8 0 p1) (st_y J 187 0 (Int32.toInt64 (I 8 0))), 0, 0)) → Ex X (d + 3) 24 [.ref 0, .int p1, .ref 187] (st_h I J) r := by
  refine ic (Ex_iff (M := (kc_L_allow, [(0, 9, 13, 1, 3)])) (n := 4) rfl rfl) ?_
  refine ic (t_p (pc' := 4) (ls' := [some (.ref 0), some (.int p1), some (.ref 187), none]) (st' := [.int p1, .ref 0, .int (0 : Int32), .ref 187]) 4 rfl) ?_
  refine ic (t_cW rfl rfl rfl rfl (fun q => ev_D_allow (d := d)  q)) ?_
  refine i_cg (ex_i) ?_ ?_
  · refine ic (ex_h rfl) ?_
    refine ic (t_p (pc' := 14) (ls' := [some (.ref 0), some (.int p1), some (.ref 187), none]) (st' := [.int (1 : Int32)]) 1 rfl) ?_
    exact ic (t_rI rfl) id
  · refine ic (ex_q) ?_
    refine ic (t_p (pc' := 8) (ls' := [some (.ref 0), some (.int p1), some (.ref 187), none]) (st' := [.long (Int32.toInt64 (I 8 0)), .int (0 : Int32), .ref 187]) 1 rfl) ?_
    refine ic ((t_sJ rfl rfl).trans (and_t (rfl : (pm_in (0 : Int32) 1) = true))) ?_
    refine ic (t_p (pc' := 16) (ls' := [some (.ref 0), some (.int p1), some (.ref 187), none]) (st' := [.int (0 : Int32)]) 2 rfl) ?_
    exact ic (t_rI rfl) id
theorem iv_L_root {X : pm_X} (hX : X 1 = (8, eb)) {d : Nat} {I : st_I} {J : st_J} {p1 : Int32} {p2 : Int32} (r : pm_R) : (if (¬ ((¬ (p1 < (0 : Int32))) ∧ (p1 < (16 : Int32)))) ∨ ((p2 < (0 : Int32)) ∨ ((64 : Int32) < p2)) then r = (.inl (some (.int (1 : Int32))), st_h I J, 1, 6) else (((¬ ((0 : Int64) < (0 : Int64))) → (((0 : Int64) < (Int32.toInt64 (I 1 2))) → ((¬ ((0 : Int32) < (0 : Int32))) → (pm_in (Int64.toInt32 (0 : Int64)) 4) = true))) ∧ (if (¬ ((0 : Int64) < (0 : Int64))) ∧ (((0 : Int64) < (Int32.toInt64 (I 1 2))) ∧ ((¬ ((0 : Int32) < (0 : Int32))) ∧ ((0 : Int32) < (I 7 (Int32.toNatClampNeg (Int64.toInt32 (0 : Int64))))))) then ((pm_in p1 16) = true ∧ ((wfm I) ∧ ((dpk p2) ∧ (om (ldo I J (0 : Int32) (0 : Int32) p2) (fun x1 => r = (.inl (some (.int (0 : Int32))), st_h (st_sq (st_w (st_w (st_w I 8 1 (lss I J (0 : Int32) (0 : Int32)).1) 8 2 (lss I J (0 : Int32) (0 : Int32)).2.1) 8 0 (Int32.ofNat ((Int32.toNatClampNeg (I 8 0)) - x1.2))) (150 + (Int32.toNatClampNeg p1)) (spv x1.1)) (st_y (st_y J 8 3 (lss I J (0 : Int32) (0 : Int32)).2.2) 187 0 (Int32.toInt64 ((st_sq (st_w (st_w (st_w I 8 1 (lss I J (0 : Int32) (0 : Int32)).1) 8 2 (lss I J (0 : Int32) (0 : Int32)).2.1) 8 0 (Int32.ofNat ((Int32.toNatClampNeg (I 8 0)) - x1.2))) (150 + (Int32.toNatClampNeg p1)) (spv x1.1)) (150 + (Int32.toNatClampNeg p1)) 0))), 0, 0)) (r = (.inl (some (.int (2 : Int32))), st_h (st_w (st_w I 8 1 (lss I J (0 : Int32) (0 : Int32)).1) 8 2 (lss I J (0 : Int32) (0 : Int32)).2.1) (st_y J 8 3 (lss I J (0 : Int32) (0 : Int32)).2.2), 1, 6)))))) else r = (.inl (some (.int (2 : Int32))), st_h I J, 1, 6)))) → Ex X (d + 6) 26 [.ref 0, .int p1, .int p2, .ref 187] (st_h I J) r := by
  refine ic (Ex_iff (M := (kc_L_root, [(0, 10, 15, 1, 4), (0, 10, 19, 2, 4)])) (n := 5) rfl rfl) ?_
  refine ic (t_p (pc' := 5) (ls' := [some (.ref 0), some (.int p1), some (.int p2), some (.ref 187), none]) (st' := [.int p2, .int p1, .ref 0, .int (0 : Int32), .ref 187]) 5 rfl) ?_
  refine ip (i_cW rfl rfl rfl rfl (fun q => iv_D_root hX (d := d)  q)) ?_
  refine i_cg (ex_i) ?_ ?_
  · refine ic (ex_h rfl) ?_
    refine ic (t_p (pc' := 16) (ls' := [some (.ref 0), some (.int p1), some (.int p2), some (.ref 187), none]) (st' := [.int (1 : Int32)]) 1 rfl) ?_
    exact ic (t_rI rfl) id
  · refine i_an (ex_a) (fun h2 => ?_)
    refine i_cg (ex_i) ?_ ?_
    · refine i_an (ex_a) (fun h4 => ?_)
      refine i_an (ex_a) (fun h5 => ?_)
      refine i_an (ex_a) (fun h6 => ?_)
      refine i_cgo ex_o (fun x1 => ?_) ?_
      · refine ic (ex_q) ?_
        refine ic (t_p (pc' := 9) (ls' := [some (.ref 0), some (.int p1), some (.int p2), some (.ref 187), none]) (st' := [.long (Int32.toInt64 ((st_sq (st_w (st_w (st_w I 8 1 (lss I J (0 : Int32) (0 : Int32)).1) 8 2 (lss I J (0 : Int32) (0 : Int32)).2.1) 8 0 (Int32.ofNat ((Int32.toNatClampNeg (I 8 0)) - x1.2))) (150 + (Int32.toNatClampNeg p1)) (spv x1.1)) (150 + (Int32.toNatClampNeg p1)) 0)), .int (0 : Int32), .ref 187]) 1 rfl) ?_
        refine ic ((t_sJ rfl rfl).trans (and_t (rfl : (pm_in (0 : Int32) 1) = true))) ?_
        refine ic (t_p (pc' := 22) (ls' := [some (.ref 0), some (.int p1), some (.int p2), some (.ref 187), none]) (st' := [.int (0 : Int32)]) 2 rfl) ?_
        exact ic (t_rI rfl) id
      · refine ic (ex_h rfl) ?_
        refine ic (t_p (pc' := 20) (ls' := [some (.ref 0), some (.int p1), some (.int p2), some (.ref 187), none]) (st' := [.int (2 : Int32)]) 1 rfl) ?_
        exact ic (t_rI rfl) id
    · refine ic (ex_h rfl) ?_
      refine ic (t_p (pc' := 20) (ls' := [some (.ref 0), some (.int p1), some (.int p2), some (.ref 187), none]) (st' := [.int (2 : Int32)]) 1 rfl) ?_
      exact ic (t_rI rfl) id
set_option maxRecDepth 20000 in
theorem iv_L_follow {X : pm_X} (hX : X 1 = (8, eb)) {d : Nat} {I : st_I} {J : st_J} {p1 : Int32} {p2 : Int32} {p3 : Int32} (r : pm_R) : (if (¬ ((¬ (p1 < (0 : Int32))) ∧ (p1 < (16 : Int32)))) ∨ ((¬ ((¬ (p2 < (0 : Int32))) ∧ (p2 < (16 : Int32)))) ∨ (p3 < (0 : Int32))) then r = (.inl (some (.int (1 : Int32))), st_h I J, 1, 6) else ((pm_in p2 16) = true ∧ (if (((I (150 + (Int32.toNatClampNeg p2)) 0) = (2 : Int32)) ∧ ((I (150 + (Int32.toNatClampNeg p2)) 8) = (6 : Int32))) ∧ (¬ (p3 < (I (150 + (Int32.toNatClampNeg p2)) 7))) then r = (.inl (some (.int (1 : Int32))), st_h I J, 1, 6) else (if ((I (150 + (Int32.toNatClampNeg p2)) 0) = (2 : Int32)) ∧ (¬ (((I (150 + (Int32.toNatClampNeg p2)) 0) = (2 : Int32)) ∧ ((I (150 + (Int32.toNatClampNeg p2)) 8) = (6 : Int32)))) then r = (.inl (some (.int (2 : Int32))), st_h I J, 1, 6) else (if p3 < (if (I (150 + (Int32.toNatClampNeg p2)) 0) = (2 : Int32) then (I (150 + (Int32.toNatClampNeg p2)) 7) else (I (150 + (Int32.toNatClampNeg p2)) 6)) then ((pm_in p1 16) = true ∧ ((wfm I) ∧ ((pm_in (I (150 + (Int32.toNatClampNeg p2)) 2) 4) = true ∧ ((pm_in (((I (150 + (Int32.toNatClampNeg p2)) 3) + ((I (150 + (Int32.toNatClampNeg p2)) 5) / (64 : Int32))) + p3) 64) = true ∧ ((dpk (I (150 + (Int32.toNatClampNeg p2)) 1)) ∧ (om (ldo I J (I (150 + (Int32.toNatClampNeg p2)) 2) (((I (150 + (Int32.toNatClampNeg p2)) 3) + ((I (150 + (Int32.toNatClampNeg p2)) 5) / (64 : Int32))) + p3) (I (150 + (Int32.toNatClampNeg p2)) 1)) (fun x1 => r = (.inl (some (.int (0 : Int32))), st_h (st_sq (st_w (st_w (st_w I 8 1 (lss I J (I (150 + (Int32.toNatClampNeg p2)) 2) (((I (150 + (Int32.toNatClampNeg p2)) 3) + ((I (150 + (Int32.toNatClampNeg p2)) 5) / (64 : Int32))) + p3)).1) 8 2 (lss I J (I (150 + (Int32.toNatClampNeg p2)) 2) (((I (150 + (Int32.toNatClampNeg p2)) 3) + ((I (150 + (Int32.toNatClampNeg p2)) 5) / (64 : Int32))) + p3)).2.1) 8 0 (Int32.ofNat ((Int32.toNatClampNeg (I 8 0)) - x1.2))) (150 + (Int32.toNatClampNeg p1)) (spv x1.1)) (st_y (st_y J 8 3 (lss I J (I (150 + (Int32.toNatClampNeg p2)) 2) (((I (150 + (Int32.toNatClampNeg p2)) 3) + ((I (150 + (Int32.toNatClampNeg p2)) 5) / (64 : Int32))) + p3)).2.2) 187 0 (Int32.toInt64 ((st_sq (st_w (st_w (st_w I 8 1 (lss I J (I (150 + (Int32.toNatClampNeg p2)) 2) (((I (150 + (Int32.toNatClampNeg p2)) 3) + ((I (150 + (Int32.toNatClampNeg p2)) 5) / (64 : Int32))) + p3)).1) 8 2 (lss I J (I (150 + (Int32.toNatClampNeg p2)) 2) (((I (150 + (Int32.toNatClampNeg p2)) 3) + ((I (150 + (Int32.toNatClampNeg p2)) 5) / (64 : Int32))) + p3)).2.1) 8 0 (Int32.ofNat ((Int32.toNatClampNeg (I 8 0)) - x1.2))) (150 + (Int32.toNatClampNeg p1)) (spv x1.1)) (150 + (Int32.toNatClampNeg p1)) 0))), 0, 0)) (r = (.inl (some (.int (3 : Int32))), st_h (st_w (st_w I 8 1 (lss I J (I (150 + (Int32.toNatClampNeg p2)) 2) (((I (150 + (Int32.toNatClampNeg p2)) 3) + ((I (150 + (Int32.toNatClampNeg p2)) 5) / (64 : Int32))) + p3)).1) 8 2 (lss I J (I (150 + (Int32.toNatClampNeg p2)) 2) (((I (150 + (Int32.toNatClampNeg p2)) 3) + ((I (150 + (Int32.toNatClampNeg p2)) 5) / (64 : Int32))) + p3)).2.1) (st_y J 8 3 (lss I J (I (150 + (Int32.toNatClampNeg p2)) 2) (((I (150 + (Int32.toNatClampNeg p2)) 3) + ((I (150 + (Int32.toNatClampNeg p2)) 5) / (64 : Int32))) + p3)).2.2), 1, 6)))))))) else ((pm_in p1 16) = true ∧ r = (.inl (some (.int (0 : Int32))), st_h (st_w (st_w (st_w (st_w (st_w (st_w (st_w (st_w (st_w I (150 + (Int32.toNatClampNeg p1)) 0 (0 : Int32)) (150 + (Int32.toNatClampNeg p1)) 2 (0 : Int32)) (150 + (Int32.toNatClampNeg p1)) 3 (0 : Int32)) (150 + (Int32.toNatClampNeg p1)) 1 (0 : Int32)) (150 + (Int32.toNatClampNeg p1)) 4 (0 : Int32)) (150 + (Int32.toNatClampNeg p1)) 5 (0 : Int32)) (150 + (Int32.toNatClampNeg p1)) 6 (0 : Int32)) (150 + (Int32.toNatClampNeg p1)) 7 (0 : Int32)) (150 + (Int32.toNatClampNeg p1)) 8 (0 : Int32)) (st_y J 187 0 (Int32.toInt64 ((st_w (st_w (st_w (st_w (st_w (st_w (st_w (st_w (st_w I (150 + (Int32.toNatClampNeg p1)) 0 (0 : Int32)) (150 + (Int32.toNatClampNeg p1)) 2 (0 : Int32)) (150 + (Int32.toNatClampNeg p1)) 3 (0 : Int32)) (150 + (Int32.toNatClampNeg p1)) 1 (0 : Int32)) (150 + (Int32.toNatClampNeg p1)) 4 (0 : Int32)) (150 + (Int32.toNatClampNeg p1)) 5 (0 : Int32)) (150 + (Int32.toNatClampNeg p1)) 6 (0 : Int32)) (150 + (Int32.toNatClampNeg p1)) 7 (0 : Int32)) (150 + (Int32.toNatClampNeg p1)) 8 (0 : Int32)) (150 + (Int32.toNatClampNeg p1)) 0))), 0, 0))))))) → Ex X (d + 6) 53 [.ref 0, .int p1, .int p2, .int p3, .ref 187] (st_h I J) r := by
  refine ic (Ex_iff (M := (kc_L_follow, [(0, 12, 17, 1, 5), (0, 12, 21, 4, 5), (0, 12, 25, 2, 5)])) (n := 6) rfl rfl) ?_
  refine ic (t_p (pc' := 7) (ls' := [some (.ref 0), some (.int p1), some (.int p2), some (.int p3), some (.ref 187), none]) (st' := [.int p3, .int p2, .int p1, .ref 0, .int (0 : Int32), .ref 187]) 6 rfl) ?_
  refine ip (i_cW rfl rfl rfl rfl (fun q => iv_D_follow hX (d := d)  q)) ?_
  refine i_cg (ex_i) ?_ ?_
  · refine ic (ex_h rfl) ?_
    refine ic (t_p (pc' := 18) (ls' := [some (.ref 0), some (.int p1), some (.int p2), some (.int p3), some (.ref 187), none]) (st' := [.int (1 : Int32)]) 1 rfl) ?_
    exact ic (t_rI rfl) id
  · refine i_an (ex_a) (fun h2 => ?_)
    refine i_cg (ex_i) ?_ ?_
    · refine ic (ex_h rfl) ?_
      refine ic (t_p (pc' := 18) (ls' := [some (.ref 0), some (.int p1), some (.int p2), some (.int p3), some (.ref 187), none]) (st' := [.int (1 : Int32)]) 1 rfl) ?_
      exact ic (t_rI rfl) id
    · refine i_cg (ex_i) ?_ ?_
      · refine ic (ex_h rfl) ?_
        refine ic (t_p (pc' := 22) (ls' := [some (.ref 0), some (.int p1), some (.int p2), some (.int p3), some (.ref 187), none]) (st' := [.int (2 : Int32)]) 1 rfl) ?_
        exact ic (t_rI rfl) id
      · refine i_cg (ex_i) ?_ ?_
        · refine i_an (ex_a) (fun h6 => ?_)
          refine i_an (ex_a) (fun h7 => ?_)
          refine i_an (ex_a) (fun h8 => ?_)
          refine i_an (ex_a) (fun h9 => ?_)
          refine i_an (ex_a) (fun h10 => ?_)
          refine i_cgo ex_o (fun x1 => ?_) ?_
          · refine ic (ex_q) ?_
            refine ic (t_p (pc' := 11) (ls' := [some (.ref 0), some (.int p1), some (.int p2), some (.int p3), some (.ref 187), none]) (st' := [.long (Int32.toInt64 ((st_sq (st_w (st_w (st_w I 8 1 (lss I J (I (150 + (Int32.toNatClampNeg p2)) 2) (((I (150 + (Int32.toNatClampNeg p2)) 3) + ((I (150 + (Int32.toNatClampNeg p2)) 5) / (64 : Int32))) + p3)).1) 8 2 (lss I J (I (150 + (Int32.toNatClampNeg p2)) 2) (((I (150 + (Int32.toNatClampNeg p2)) 3) + ((I (150 + (Int32.toNatClampNeg p2)) 5) / (64 : Int32))) + p3)).2.1) 8 0 (Int32.ofNat ((Int32.toNatClampNeg (I 8 0)) - x1.2))) (150 + (Int32.toNatClampNeg p1)) (spv x1.1)) (150 + (Int32.toNatClampNeg p1)) 0)), .int (0 : Int32), .ref 187]) 1 rfl) ?_
            refine ic ((t_sJ rfl rfl).trans (and_t (rfl : (pm_in (0 : Int32) 1) = true))) ?_
            refine ic (t_p (pc' := 28) (ls' := [some (.ref 0), some (.int p1), some (.int p2), some (.int p3), some (.ref 187), none]) (st' := [.int (0 : Int32)]) 2 rfl) ?_
            exact ic (t_rI rfl) id
          · refine ic (ex_h rfl) ?_
            refine ic (t_p (pc' := 26) (ls' := [some (.ref 0), some (.int p1), some (.int p2), some (.int p3), some (.ref 187), none]) (st' := [.int (3 : Int32)]) 1 rfl) ?_
            exact ic (t_rI rfl) id
        · refine i_an (ex_a) (fun h11 => ?_)
          refine ic (ex_q) ?_
          refine ic (t_p (pc' := 11) (ls' := [some (.ref 0), some (.int p1), some (.int p2), some (.int p3), some (.ref 187), none]) (st' := [.long (Int32.toInt64 ((st_w (st_w (st_w (st_w (st_w (st_w (st_w (st_w (st_w I (150 + (Int32.toNatClampNeg p1)) 0 (0 : Int32)) (150 + (Int32.toNatClampNeg p1)) 2 (0 : Int32)) (150 + (Int32.toNatClampNeg p1)) 3 (0 : Int32)) (150 + (Int32.toNatClampNeg p1)) 1 (0 : Int32)) (150 + (Int32.toNatClampNeg p1)) 4 (0 : Int32)) (150 + (Int32.toNatClampNeg p1)) 5 (0 : Int32)) (150 + (Int32.toNatClampNeg p1)) 6 (0 : Int32)) (150 + (Int32.toNatClampNeg p1)) 7 (0 : Int32)) (150 + (Int32.toNatClampNeg p1)) 8 (0 : Int32)) (150 + (Int32.toNatClampNeg p1)) 0)), .int (0 : Int32), .ref 187]) 1 rfl) ?_
          refine ic ((t_sJ rfl rfl).trans (and_t (rfl : (pm_in (0 : Int32) 1) = true))) ?_
          refine ic (t_p (pc' := 28) (ls' := [some (.ref 0), some (.int p1), some (.int p2), some (.int p3), some (.ref 187), none]) (st' := [.int (0 : Int32)]) 2 rfl) ?_
          exact ic (t_rI rfl) id
set_option maxRecDepth 20000 in
theorem iv_L_element {X : pm_X} {d : Nat} {I : st_I} {J : st_J} {p1 : Int32} {p2 : Int32} {p3 : Int32} (r : pm_R) : (if (¬ ((¬ (p1 < (0 : Int32))) ∧ (p1 < (16 : Int32)))) ∨ (¬ ((¬ (p2 < (0 : Int32))) ∧ (p2 < (16 : Int32)))) then r = (.inl (some (.int (1 : Int32))), st_h I J, 1, 6) else ((pm_in p2 16) = true ∧ (if (I (150 + (Int32.toNatClampNeg p2)) 0) = (2 : Int32) then (if (p3 < (0 : Int32)) ∨ (¬ (p3 < (I (150 + (Int32.toNatClampNeg p2)) 7))) then r = (.inl (some (.int (1 : Int32))), st_h I J, 1, 6) else (if (I (150 + (Int32.toNatClampNeg p2)) 8) = (1 : Int32) then r = (.inl (some (.int (3 : Int32))), st_h I J, 1, 6) else ((pm_in p1 16) = true ∧ r = (.inl (some (.int (0 : Int32))), st_h (st_w (st_w (st_w (st_w (st_w (st_w (st_w (st_w (st_w (st_w (st_w (st_w I (150 + (Int32.toNatClampNeg p1)) 0 (1 : Int32)) (150 + (Int32.toNatClampNeg p1)) 2 (I (150 + (Int32.toNatClampNeg p2)) 2)) (150 + (Int32.toNatClampNeg p1)) 3 ((((if (I (150 + (Int32.toNatClampNeg p2)) 8) = (7 : Int32) then ((I (150 + (Int32.toNatClampNeg p2)) 3) + (1 : Int32)) else (I (150 + (Int32.toNatClampNeg p2)) 3)) * (64 : Int32)) + (p3 * ((I (150 + (Int32.toNatClampNeg p2)) 5) + ((I (150 + (Int32.toNatClampNeg p2)) 6) * (64 : Int32))))) / (64 : Int32))) (150 + (Int32.toNatClampNeg p1)) 1 (I (150 + (Int32.toNatClampNeg p2)) 1)) (150 + (Int32.toNatClampNeg p1)) 4 (0 : Int32)) (150 + (Int32.toNatClampNeg p1)) 5 (0 : Int32)) (150 + (Int32.toNatClampNeg p1)) 6 (0 : Int32)) (150 + (Int32.toNatClampNeg p1)) 7 (0 : Int32)) (150 + (Int32.toNatClampNeg p1)) 8 (0 : Int32)) (150 + (Int32.toNatClampNeg p1)) 5 (I (150 + (Int32.toNatClampNeg p2)) 5)) (150 + (Int32.toNatClampNeg p1)) 6 (I (150 + (Int32.toNatClampNeg p2)) 6)) (150 + (Int32.toNatClampNeg p1)) 4 (irm (((if (I (150 + (Int32.toNatClampNeg p2)) 8) = (7 : Int32) then ((I (150 + (Int32.toNatClampNeg p2)) 3) + (1 : Int32)) else (I (150 + (Int32.toNatClampNeg p2)) 3)) * (64 : Int32)) + (p3 * ((I (150 + (Int32.toNatClampNeg p2)) 5) + ((I (150 + (Int32.toNatClampNeg p2)) 6) * (64 : Int32))))) (64 : Int32))) (st_y J 187 0 (Int32.toInt64 (1 : Int32))), 0, 0)))) else r = (.inl (some (.int (2 : Int32))), st_h I J, 1, 6)))) → Ex X (d + 5) 60 [.ref 0, .int p1, .int p2, .int p3, .ref 187] (st_h I J) r := by
  refine ic (Ex_iff (M := (kc_L_element, [(0, 12, 17, 1, 5), (0, 12, 21, 4, 5), (0, 12, 25, 2, 5)])) (n := 6) rfl rfl) ?_
  refine ic (t_p (pc' := 7) (ls' := [some (.ref 0), some (.int p1), some (.int p2), some (.int p3), some (.ref 187), none]) (st' := [.int p3, .int p2, .int p1, .ref 0, .int (0 : Int32), .ref 187]) 6 rfl) ?_
  refine ic (t_cW rfl rfl rfl rfl (fun q => ev_D_element (d := d)  q)) ?_
  refine i_cg (ex_i) ?_ ?_
  · refine ic (ex_h rfl) ?_
    refine ic (t_p (pc' := 18) (ls' := [some (.ref 0), some (.int p1), some (.int p2), some (.int p3), some (.ref 187), none]) (st' := [.int (1 : Int32)]) 1 rfl) ?_
    exact ic (t_rI rfl) id
  · refine i_an (ex_a) (fun h2 => ?_)
    refine i_cg (ex_i) ?_ ?_
    · refine i_cg (ex_i) ?_ ?_
      · refine ic (ex_h rfl) ?_
        refine ic (t_p (pc' := 18) (ls' := [some (.ref 0), some (.int p1), some (.int p2), some (.int p3), some (.ref 187), none]) (st' := [.int (1 : Int32)]) 1 rfl) ?_
        exact ic (t_rI rfl) id
      · refine i_cg (ex_i) ?_ ?_
        · refine ic (ex_h rfl) ?_
          refine ic (t_p (pc' := 26) (ls' := [some (.ref 0), some (.int p1), some (.int p2), some (.int p3), some (.ref 187), none]) (st' := [.int (3 : Int32)]) 1 rfl) ?_
          exact ic (t_rI rfl) id
        · refine i_an (ex_a) (fun h6 => ?_)
          refine ic (ex_q) ?_
          refine ic (t_p (pc' := 11) (ls' := [some (.ref 0), some (.int p1), some (.int p2), some (.int p3), some (.ref 187), none]) (st' := [.long (Int32.toInt64 (1 : Int32)), .int (0 : Int32), .ref 187]) 1 rfl) ?_
          refine ic ((t_sJ rfl rfl).trans (and_t (rfl : (pm_in (0 : Int32) 1) = true))) ?_
          refine ic (t_p (pc' := 28) (ls' := [some (.ref 0), some (.int p1), some (.int p2), some (.int p3), some (.ref 187), none]) (st' := [.int (0 : Int32)]) 2 rfl) ?_
          exact ic (t_rI rfl) id
    · refine ic (ex_h rfl) ?_
      refine ic (t_p (pc' := 22) (ls' := [some (.ref 0), some (.int p1), some (.int p2), some (.int p3), some (.ref 187), none]) (st' := [.int (2 : Int32)]) 1 rfl) ?_
      exact ic (t_rI rfl) id
set_option maxRecDepth 20000 in
theorem iv_L_number {X : pm_X} {d : Nat} {I : st_I} {J : st_J} {p1 : Int32} {p2 : Int32} {p3 : Int32} {p4 : Int64} (r : pm_R) : (if (¬ ((¬ (p1 < (0 : Int32))) ∧ (p1 < (16 : Int32)))) ∨ ((¬ ((p2 = (1 : Int32)) ∨ ((p2 = (8 : Int32)) ∨ ((p2 = (16 : Int32)) ∨ ((p2 = (32 : Int32)) ∨ (p2 = (64 : Int32))))))) ∨ (p3 < (0 : Int32))) then r = (.inl (some (.int (1 : Int32))), st_h I J, 1, 6) else ((pm_in p1 16) = true ∧ (if (I (150 + (Int32.toNatClampNeg p1)) 0) = (2 : Int32) then r = (.inl (some (.int (2 : Int32))), st_h I J, 1, 6) else (if (((I (150 + (Int32.toNatClampNeg p1)) 0) = (2 : Int32)) ∧ (p3 < (I (150 + (Int32.toNatClampNeg p1)) 7))) ∨ ((¬ ((I (150 + (Int32.toNatClampNeg p1)) 0) = (2 : Int32))) ∧ (¬ ((Int32.toInt64 (I (150 + (Int32.toNatClampNeg p1)) 5)) < (((Int32.toInt64 p3) + (1 : Int64)) * (Int32.toInt64 p2))))) then ((pm_in (I (150 + (Int32.toNatClampNeg p1)) 2) 4) = true ∧ ((pm_in (((((I (150 + (Int32.toNatClampNeg p1)) 3) * (64 : Int32)) + (I (150 + (Int32.toNatClampNeg p1)) 4)) + (p3 * p2)) / (64 : Int32)) 64) = true ∧ r = (.inl (some (.int (0 : Int32))), st_h I (st_y J 187 0 (if p2 = (1 : Int32) then (((ju (J (3 + (Int32.toNatClampNeg (I (150 + (Int32.toNatClampNeg p1)) 2))) (Int32.toNatClampNeg (((((I (150 + (Int32.toNatClampNeg p1)) 3) * (64 : Int32)) + (I (150 + (Int32.toNatClampNeg p1)) 4)) + (p3 * p2)) / (64 : Int32)))) (irm ((((I (150 + (Int32.toNatClampNeg p1)) 3) * (64 : Int32)) + (I (150 + (Int32.toNatClampNeg p1)) 4)) + (p3 * p2)) (64 : Int32))) &&& (if p2 < (64 : Int32) then ((jl (1 : Int64) p2) - (1 : Int64)) else (-1 : Int64))) ^^^ (p4 &&& (if p2 < (64 : Int32) then ((jl (1 : Int64) p2) - (1 : Int64)) else (-1 : Int64)))) else (jr (jl (((ju (J (3 + (Int32.toNatClampNeg (I (150 + (Int32.toNatClampNeg p1)) 2))) (Int32.toNatClampNeg (((((I (150 + (Int32.toNatClampNeg p1)) 3) * (64 : Int32)) + (I (150 + (Int32.toNatClampNeg p1)) 4)) + (p3 * p2)) / (64 : Int32)))) (irm ((((I (150 + (Int32.toNatClampNeg p1)) 3) * (64 : Int32)) + (I (150 + (Int32.toNatClampNeg p1)) 4)) + (p3 * p2)) (64 : Int32))) &&& (if p2 < (64 : Int32) then ((jl (1 : Int64) p2) - (1 : Int64)) else (-1 : Int64))) ^^^ (p4 &&& (if p2 < (64 : Int32) then ((jl (1 : Int64) p2) - (1 : Int64)) else (-1 : Int64)))) ((64 : Int32) - p2)) ((64 : Int32) - p2)))), 0, 0))) else r = (.inl (some (.int (0 : Int32))), st_h I (st_y J 187 0 (if p2 = (1 : Int32) then ((0 : Int64) ^^^ (p4 &&& (if p2 < (64 : Int32) then ((jl (1 : Int64) p2) - (1 : Int64)) else (-1 : Int64)))) else (jr (jl ((0 : Int64) ^^^ (p4 &&& (if p2 < (64 : Int32) then ((jl (1 : Int64) p2) - (1 : Int64)) else (-1 : Int64)))) ((64 : Int32) - p2)) ((64 : Int32) - p2)))), 0, 0))))) → Ex X (d + 5) 64 [.ref 0, .int p1, .int p2, .int p3, .long p4, .ref 187] (st_h I J) r := by
  refine ic (Ex_iff (M := (kc_L_number, [(0, 13, 18, 1, 7), (0, 13, 22, 4, 7)])) (n := 8) rfl rfl) ?_
  refine ic (t_p (pc' := 9) (ls' := [some (.ref 0), some (.int p1), some (.int p2), some (.int p3), some (.long p4), none, some (.ref 187), none]) (st' := [.long p4, .int p3, .int p2, .int p1, .ref 0, .int (0 : Int32), .ref 187]) 7 rfl) ?_
  refine ic (t_cW rfl rfl rfl rfl (fun q => ev_D_number (d := d)  q)) ?_
  refine i_cg (ex_i) ?_ ?_
  · refine ic (ex_h rfl) ?_
    refine ic (t_p (pc' := 19) (ls' := [some (.ref 0), some (.int p1), some (.int p2), some (.int p3), some (.long p4), none, some (.ref 187), none]) (st' := [.int (1 : Int32)]) 1 rfl) ?_
    exact ic (t_rI rfl) id
  · refine i_an (ex_a) (fun h2 => ?_)
    refine i_cg (ex_i) ?_ ?_
    · refine ic (ex_h rfl) ?_
      refine ic (t_p (pc' := 23) (ls' := [some (.ref 0), some (.int p1), some (.int p2), some (.int p3), some (.long p4), none, some (.ref 187), none]) (st' := [.int (2 : Int32)]) 1 rfl) ?_
      exact ic (t_rI rfl) id
    · refine i_cg (ex_i) ?_ ?_
      · refine i_an (ex_a) (fun h5 => ?_)
        refine i_an (ex_a) (fun h6 => ?_)
        refine ic (ex_q) ?_
        refine ic ((t_sJ rfl rfl).trans (and_t (rfl : (pm_in (0 : Int32) 1) = true))) ?_
        refine ic (t_p (pc' := 25) (ls' := [some (.ref 0), some (.int p1), some (.int p2), some (.int p3), some (.long p4), none, some (.ref 187), none]) (st' := [.int (0 : Int32)]) 2 rfl) ?_
        exact ic (t_rI rfl) id
      · refine ic (ex_q) ?_
        refine ic ((t_sJ rfl rfl).trans (and_t (rfl : (pm_in (0 : Int32) 1) = true))) ?_
        refine ic (t_p (pc' := 25) (ls' := [some (.ref 0), some (.int p1), some (.int p2), some (.int p3), some (.long p4), none, some (.ref 187), none]) (st' := [.int (0 : Int32)]) 2 rfl) ?_
        exact ic (t_rI rfl) id
set_option maxRecDepth 20000 in
theorem iv_L_item {X : pm_X} (hX : X 1 = (8, eb)) {d : Nat} {I : st_I} {J : st_J} {p1 : Int32} {p2 : Int32} (r : pm_R) : (if (¬ (p1 < (0 : Int32))) ∧ (p1 < (16 : Int32)) then ((pm_in p1 16) = true ∧ (if (¬ ((I (150 + (Int32.toNatClampNeg p1)) 0) = (2 : Int32))) ∨ ((5 : Int32) < (I (150 + (Int32.toNatClampNeg p1)) 8)) then r = (.inl (some (.int (2 : Int32))), st_h I J, 1, 6) else (if (p2 < (0 : Int32)) ∨ (¬ (p2 < (I (150 + (Int32.toNatClampNeg p1)) 7))) then r = (.inl (some (.int (1 : Int32))), st_h I J, 1, 6) else (if (I (150 + (Int32.toNatClampNeg p1)) 8) = (0 : Int32) then r = (.inl (some (.int (0 : Int32))), st_h I (st_y J 187 0 (0 : Int64)), 0, 0) else ((pm_in (I (150 + (Int32.toNatClampNeg p1)) 8) 8) = true ∧ ((pm_in (I (150 + (Int32.toNatClampNeg p1)) 2) 4) = true ∧ ((pm_in (((((I (150 + (Int32.toNatClampNeg p1)) 3) * (64 : Int32)) + (I (150 + (Int32.toNatClampNeg p1)) 4)) + (p2 * (eb (Int32.toNatClampNeg (I (150 + (Int32.toNatClampNeg p1)) 8))))) / (64 : Int32)) 64) = true ∧ r = (.inl (some (.int (0 : Int32))), st_h I (st_y J 187 0 (if (eb (Int32.toNatClampNeg (I (150 + (Int32.toNatClampNeg p1)) 8))) = (1 : Int32) then ((ju (J (3 + (Int32.toNatClampNeg (I (150 + (Int32.toNatClampNeg p1)) 2))) (Int32.toNatClampNeg (((((I (150 + (Int32.toNatClampNeg p1)) 3) * (64 : Int32)) + (I (150 + (Int32.toNatClampNeg p1)) 4)) + (p2 * (eb (Int32.toNatClampNeg (I (150 + (Int32.toNatClampNeg p1)) 8))))) / (64 : Int32)))) (irm ((((I (150 + (Int32.toNatClampNeg p1)) 3) * (64 : Int32)) + (I (150 + (Int32.toNatClampNeg p1)) 4)) + (p2 * (eb (Int32.toNatClampNeg (I (150 + (Int32.toNatClampNeg p1)) 8))))) (64 : Int32))) &&& (if (eb (Int32.toNatClampNeg (I (150 + (Int32.toNatClampNeg p1)) 8))) < (64 : Int32) then ((jl (1 : Int64) (eb (Int32.toNatClampNeg (I (150 + (Int32.toNatClampNeg p1)) 8)))) - (1 : Int64)) else (-1 : Int64))) else (jr (jl ((ju (J (3 + (Int32.toNatClampNeg (I (150 + (Int32.toNatClampNeg p1)) 2))) (Int32.toNatClampNeg (((((I (150 + (Int32.toNatClampNeg p1)) 3) * (64 : Int32)) + (I (150 + (Int32.toNatClampNeg p1)) 4)) + (p2 * (eb (Int32.toNatClampNeg (I (150 + (Int32.toNatClampNeg p1)) 8))))) / (64 : Int32)))) (irm ((((I (150 + (Int32.toNatClampNeg p1)) 3) * (64 : Int32)) + (I (150 + (Int32.toNatClampNeg p1)) 4)) + (p2 * (eb (Int32.toNatClampNeg (I (150 + (Int32.toNatClampNeg p1)) 8))))) (64 : Int32))) &&& (if (eb (Int32.toNatClampNeg (I (150 + (Int32.toNatClampNeg p1)) 8))) < (64 : Int32) then ((jl (1 : Int64) (eb (Int32.toNatClampNeg (I (150 + (Int32.toNatClampNeg p1)) 8)))) - (1 : Int64)) else (-1 : Int64))) ((64 : Int32) - (eb (Int32.toNatClampNeg (I (150 + (Int32.toNatClampNeg p1)) 8))))) ((64 : Int32) - (eb (Int32.toNatClampNeg (I (150 + (Int32.toNatClampNeg p1)) 8))))))), 0, 0)))))))) else r = (.inl (some (.int (1 : Int32))), st_h I J, 1, 6)) → Ex X (d + 4) 85 [.ref 0, .int p1, .int p2, .ref 187] (st_h I J) r := by
  refine ic (Ex_iff (M := (kc_L_item, [(0, 9, 14, 1, 4), (0, 9, 18, 4, 4)])) (n := 5) rfl rfl) ?_
  refine ic (t_p (pc' := 5) (ls' := [some (.ref 0), some (.int p1), some (.int p2), some (.ref 187), none]) (st' := [.int p2, .int p1, .ref 0, .int (0 : Int32), .ref 187]) 5 rfl) ?_
  refine ic (t_cW rfl rfl rfl rfl (fun q => ev_D_item hX (d := d)  q)) ?_
  refine i_cg (ex_i) ?_ ?_
  · refine i_an (ex_a) (fun h2 => ?_)
    refine i_cg (ex_i) ?_ ?_
    · refine ic (ex_h rfl) ?_
      refine ic (t_p (pc' := 19) (ls' := [some (.ref 0), some (.int p1), some (.int p2), some (.ref 187), none]) (st' := [.int (2 : Int32)]) 1 rfl) ?_
      exact ic (t_rI rfl) id
    · refine i_cg (ex_i) ?_ ?_
      · refine ic (ex_h rfl) ?_
        refine ic (t_p (pc' := 15) (ls' := [some (.ref 0), some (.int p1), some (.int p2), some (.ref 187), none]) (st' := [.int (1 : Int32)]) 1 rfl) ?_
        exact ic (t_rI rfl) id
      · refine i_cg (ex_i) ?_ ?_
        · refine ic (ex_q) ?_
          refine ic ((t_sJ rfl rfl).trans (and_t (rfl : (pm_in (0 : Int32) 1) = true))) ?_
          refine ic (t_p (pc' := 21) (ls' := [some (.ref 0), some (.int p1), some (.int p2), some (.ref 187), none]) (st' := [.int (0 : Int32)]) 2 rfl) ?_
          exact ic (t_rI rfl) id
        · refine i_an (ex_a) (fun h6 => ?_)
          refine i_an (ex_a) (fun h7 => ?_)
          refine i_an (ex_a) (fun h8 => ?_)
          refine ic (ex_q) ?_
          refine ic ((t_sJ rfl rfl).trans (and_t (rfl : (pm_in (0 : Int32) 1) = true))) ?_
          refine ic (t_p (pc' := 21) (ls' := [some (.ref 0), some (.int p1), some (.int p2), some (.ref 187), none]) (st' := [.int (0 : Int32)]) 2 rfl) ?_
          exact ic (t_rI rfl) id
  · refine ic (ex_h rfl) ?_
    refine ic (t_p (pc' := 15) (ls' := [some (.ref 0), some (.int p1), some (.int p2), some (.ref 187), none]) (st' := [.int (1 : Int32)]) 1 rfl) ?_
    exact ic (t_rI rfl) id
set_option maxRecDepth 20000 in
theorem iv_L_look {X : pm_X} {d : Nat} {I : st_I} {J : st_J} {p1 : Int32} {p2 : Int32} (r : pm_R) : (if (¬ (p1 < (0 : Int32))) ∧ (p1 < (16 : Int32)) then ((pm_in p1 16) = true ∧ (if p2 = (0 : Int32) then r = (.inl (some (.int (0 : Int32))), st_h I (st_y J 187 0 (Int32.toInt64 (I (150 + (Int32.toNatClampNeg p1)) 0))), 0, 0) else (if p2 = (1 : Int32) then r = (.inl (some (.int (0 : Int32))), st_h I (st_y J 187 0 (Int32.toInt64 (I (150 + (Int32.toNatClampNeg p1)) 1))), 0, 0) else (if p2 = (2 : Int32) then r = (.inl (some (.int (0 : Int32))), st_h I (st_y J 187 0 (Int32.toInt64 (I (150 + (Int32.toNatClampNeg p1)) 2))), 0, 0) else (if p2 = (3 : Int32) then r = (.inl (some (.int (0 : Int32))), st_h I (st_y J 187 0 (Int32.toInt64 (I (150 + (Int32.toNatClampNeg p1)) 3))), 0, 0) else (if p2 = (4 : Int32) then r = (.inl (some (.int (0 : Int32))), st_h I (st_y J 187 0 (Int32.toInt64 (if (I (150 + (Int32.toNatClampNeg p1)) 0) = (1 : Int32) then (I (150 + (Int32.toNatClampNeg p1)) 5) else (0 : Int32)))), 0, 0) else (if p2 = (5 : Int32) then r = (.inl (some (.int (0 : Int32))), st_h I (st_y J 187 0 (Int32.toInt64 (if (I (150 + (Int32.toNatClampNeg p1)) 0) = (1 : Int32) then (I (150 + (Int32.toNatClampNeg p1)) 6) else (0 : Int32)))), 0, 0) else (if p2 = (6 : Int32) then r = (.inl (some (.int (0 : Int32))), st_h I (st_y J 187 0 (Int32.toInt64 (I (150 + (Int32.toNatClampNeg p1)) 7))), 0, 0) else (if p2 = (7 : Int32) then r = (.inl (some (.int (0 : Int32))), st_h I (st_y J 187 0 (Int32.toInt64 (I (150 + (Int32.toNatClampNeg p1)) 8))), 0, 0) else r = (.inl (some (.int (1 : Int32))), st_h I J, 1, 6)))))))))) else r = (.inl (some (.int (1 : Int32))), st_h I J, 1, 6)) → Ex X (d + 3) 87 [.ref 0, .int p1, .int p2, .ref 187] (st_h I J) r := by
  refine ic (Ex_iff (M := (kc_L_look, [(0, 10, 15, 1, 4)])) (n := 5) rfl rfl) ?_
  refine ic (t_p (pc' := 5) (ls' := [some (.ref 0), some (.int p1), some (.int p2), some (.ref 187), none]) (st' := [.int p2, .int p1, .ref 0, .int (0 : Int32), .ref 187]) 5 rfl) ?_
  refine ic (t_cW rfl rfl rfl rfl (fun q => ev_D_look (d := d)  q)) ?_
  refine i_cg (ex_i) ?_ ?_
  · refine i_an (ex_a) (fun h2 => ?_)
    refine i_cg (ex_i) ?_ ?_
    · refine ic (ex_q) ?_
      refine ic (t_p (pc' := 9) (ls' := [some (.ref 0), some (.int p1), some (.int p2), some (.ref 187), none]) (st' := [.long (Int32.toInt64 (I (150 + (Int32.toNatClampNeg p1)) 0)), .int (0 : Int32), .ref 187]) 1 rfl) ?_
      refine ic ((t_sJ rfl rfl).trans (and_t (rfl : (pm_in (0 : Int32) 1) = true))) ?_
      refine ic (t_p (pc' := 18) (ls' := [some (.ref 0), some (.int p1), some (.int p2), some (.ref 187), none]) (st' := [.int (0 : Int32)]) 2 rfl) ?_
      exact ic (t_rI rfl) id
    · refine i_cg (ex_i) ?_ ?_
      · refine ic (ex_q) ?_
        refine ic (t_p (pc' := 9) (ls' := [some (.ref 0), some (.int p1), some (.int p2), some (.ref 187), none]) (st' := [.long (Int32.toInt64 (I (150 + (Int32.toNatClampNeg p1)) 1)), .int (0 : Int32), .ref 187]) 1 rfl) ?_
        refine ic ((t_sJ rfl rfl).trans (and_t (rfl : (pm_in (0 : Int32) 1) = true))) ?_
        refine ic (t_p (pc' := 18) (ls' := [some (.ref 0), some (.int p1), some (.int p2), some (.ref 187), none]) (st' := [.int (0 : Int32)]) 2 rfl) ?_
        exact ic (t_rI rfl) id
      · refine i_cg (ex_i) ?_ ?_
        · refine ic (ex_q) ?_
          refine ic (t_p (pc' := 9) (ls' := [some (.ref 0), some (.int p1), some (.int p2), some (.ref 187), none]) (st' := [.long (Int32.toInt64 (I (150 + (Int32.toNatClampNeg p1)) 2)), .int (0 : Int32), .ref 187]) 1 rfl) ?_
          refine ic ((t_sJ rfl rfl).trans (and_t (rfl : (pm_in (0 : Int32) 1) = true))) ?_
          refine ic (t_p (pc' := 18) (ls' := [some (.ref 0), some (.int p1), some (.int p2), some (.ref 187), none]) (st' := [.int (0 : Int32)]) 2 rfl) ?_
          exact ic (t_rI rfl) id
        · refine i_cg (ex_i) ?_ ?_
          · refine ic (ex_q) ?_
            refine ic (t_p (pc' := 9) (ls' := [some (.ref 0), some (.int p1), some (.int p2), some (.ref 187), none]) (st' := [.long (Int32.toInt64 (I (150 + (Int32.toNatClampNeg p1)) 3)), .int (0 : Int32), .ref 187]) 1 rfl) ?_
            refine ic ((t_sJ rfl rfl).trans (and_t (rfl : (pm_in (0 : Int32) 1) = true))) ?_
            refine ic (t_p (pc' := 18) (ls' := [some (.ref 0), some (.int p1), some (.int p2), some (.ref 187), none]) (st' := [.int (0 : Int32)]) 2 rfl) ?_
            exact ic (t_rI rfl) id
          · refine i_cg (ex_i) ?_ ?_
            · refine ic (ex_q) ?_
              refine ic (t_p (pc' := 9) (ls' := [some (.ref 0), some (.int p1), some (.int p2), some (.ref 187), none]) (st' := [.long (Int32.toInt64 (if (I (150 + (Int32.toNatClampNeg p1)) 0) = (1 : Int32) then (I (150 + (Int32.toNatClampNeg p1)) 5) else (0 : Int32))), .int (0 : Int32), .ref 187]) 1 rfl) ?_
              refine ic ((t_sJ rfl rfl).trans (and_t (rfl : (pm_in (0 : Int32) 1) = true))) ?_
              refine ic (t_p (pc' := 18) (ls' := [some (.ref 0), some (.int p1), some (.int p2), some (.ref 187), none]) (st' := [.int (0 : Int32)]) 2 rfl) ?_
              exact ic (t_rI rfl) id
            · refine i_cg (ex_i) ?_ ?_
              · refine ic (ex_q) ?_
                refine ic (t_p (pc' := 9) (ls' := [some (.ref 0), some (.int p1), some (.int p2), some (.ref 187), none]) (st' := [.long (Int32.toInt64 (if (I (150 + (Int32.toNatClampNeg p1)) 0) = (1 : Int32) then (I (150 + (Int32.toNatClampNeg p1)) 6) else (0 : Int32))), .int (0 : Int32), .ref 187]) 1 rfl) ?_
                refine ic ((t_sJ rfl rfl).trans (and_t (rfl : (pm_in (0 : Int32) 1) = true))) ?_
                refine ic (t_p (pc' := 18) (ls' := [some (.ref 0), some (.int p1), some (.int p2), some (.ref 187), none]) (st' := [.int (0 : Int32)]) 2 rfl) ?_
                exact ic (t_rI rfl) id
              · refine i_cg (ex_i) ?_ ?_
                · refine ic (ex_q) ?_
                  refine ic (t_p (pc' := 9) (ls' := [some (.ref 0), some (.int p1), some (.int p2), some (.ref 187), none]) (st' := [.long (Int32.toInt64 (I (150 + (Int32.toNatClampNeg p1)) 7)), .int (0 : Int32), .ref 187]) 1 rfl) ?_
                  refine ic ((t_sJ rfl rfl).trans (and_t (rfl : (pm_in (0 : Int32) 1) = true))) ?_
                  refine ic (t_p (pc' := 18) (ls' := [some (.ref 0), some (.int p1), some (.int p2), some (.ref 187), none]) (st' := [.int (0 : Int32)]) 2 rfl) ?_
                  exact ic (t_rI rfl) id
                · refine i_cg (ex_i) ?_ ?_
                  · refine ic (ex_q) ?_
                    refine ic (t_p (pc' := 9) (ls' := [some (.ref 0), some (.int p1), some (.int p2), some (.ref 187), none]) (st' := [.long (Int32.toInt64 (I (150 + (Int32.toNatClampNeg p1)) 8)), .int (0 : Int32), .ref 187]) 1 rfl) ?_
                    refine ic ((t_sJ rfl rfl).trans (and_t (rfl : (pm_in (0 : Int32) 1) = true))) ?_
                    refine ic (t_p (pc' := 18) (ls' := [some (.ref 0), some (.int p1), some (.int p2), some (.ref 187), none]) (st' := [.int (0 : Int32)]) 2 rfl) ?_
                    exact ic (t_rI rfl) id
                  · refine ic (ex_h rfl) ?_
                    refine ic (t_p (pc' := 16) (ls' := [some (.ref 0), some (.int p1), some (.int p2), some (.ref 187), none]) (st' := [.int (1 : Int32)]) 1 rfl) ?_
                    exact ic (t_rI rfl) id
  · refine ic (ex_h rfl) ?_
    refine ic (t_p (pc' := 16) (ls' := [some (.ref 0), some (.int p1), some (.int p2), some (.ref 187), none]) (st' := [.int (1 : Int32)]) 1 rfl) ?_
    exact ic (t_rI rfl) id
theorem iv_L_begin {X : pm_X} {d : Nat} {I : st_I} {J : st_J} {p1 : Int32} (r : pm_R) : (if (p1 < (1 : Int32)) ∨ ((64 : Int32) < p1) then r = (.inl (some (.int (1 : Int32))), st_h I J, 1, 6) else r = (.inl (some (.int (0 : Int32))), st_h (st_cz (st_w (st_w (st_w (st_w (st_w (st_w (st_w (st_w I 7 0 (0 : Int32)) 7 1 (0 : Int32)) 7 2 (0 : Int32)) 7 3 (0 : Int32)) 1 2 (1 : Int32)) 1 3 (0 : Int32)) 7 0 (1 : Int32)) 1 3 p1) 16) (st_fl (st_fl (st_fl (st_fl J 3 64 (0 : Int64)) 4 64 (0 : Int64)) 5 64 (0 : Int64)) 6 64 (0 : Int64)), 0, 0)) → Ex X (d + 5) 89 [.ref 0, .int p1] (st_h I J) r := by
  refine ic (Ex_iff (M := (kc_L_begin, [(0, 5, 9, 1, 2)])) (n := 3) rfl rfl) ?_
  refine ic (t_p (pc' := 2) (ls' := [some (.ref 0), some (.int p1), none]) (st' := [.int p1, .ref 0]) 2 rfl) ?_
  refine ip (i_cW rfl rfl rfl rfl (fun q => iv_D_begin (d := d)  q)) ?_
  refine i_cg (ex_i) ?_ ?_
  · refine ic (ex_h rfl) ?_
    refine ic (t_p (pc' := 10) (ls' := [some (.ref 0), some (.int p1), none]) (st' := [.int (1 : Int32)]) 1 rfl) ?_
    exact ic (t_rI rfl) id
  · refine ic (ex_q) ?_
    refine ic (t_p (pc' := 12) (ls' := [some (.ref 0), some (.int p1), none]) (st' := [.int (0 : Int32)]) 2 rfl) ?_
    exact ic (t_rI rfl) id
set_option maxRecDepth 20000 in
theorem iv_L_put {X : pm_X} (hX : X 1 = (8, eb)) {d : Nat} {I : st_I} {J : st_J} {p1 : Int32} {p2 : Int32} {p3 : Int32} {p4 : Int64} (r : pm_R) : (if (¬ ((¬ (p1 < (0 : Int32))) ∧ (p1 < (16 : Int32)))) ∨ ((¬ ((p2 = (1 : Int32)) ∨ ((p2 = (8 : Int32)) ∨ ((p2 = (16 : Int32)) ∨ ((p2 = (32 : Int32)) ∨ (p2 = (64 : Int32))))))) ∨ ((p3 < (0 : Int32)) ∨ (¬ ((0 : Int32) < (I 1 3))))) then r = (.inl (some (.int (1 : Int32))), st_h I J, 1, 6) else ((pm_in p1 16) = true ∧ (if (I (150 + (Int32.toNatClampNeg p1)) 0) = (1 : Int32) then (if (((I (150 + (Int32.toNatClampNeg p1)) 0) = (2 : Int32)) ∧ (p3 < (I (150 + (Int32.toNatClampNeg p1)) 7))) ∨ ((¬ ((I (150 + (Int32.toNatClampNeg p1)) 0) = (2 : Int32))) ∧ (¬ ((Int32.toInt64 (I (150 + (Int32.toNatClampNeg p1)) 5)) < (((Int32.toInt64 p3) + (1 : Int64)) * (Int32.toInt64 p2))))) then ((pm_in (I (150 + (Int32.toNatClampNeg p1)) 2) 4) = true ∧ ((pm_in (((((I (150 + (Int32.toNatClampNeg p1)) 3) * (64 : Int32)) + (I (150 + (Int32.toNatClampNeg p1)) 4)) + (p3 * p2)) / (64 : Int32)) 64) = true ∧ r = (.inl (some (.int (0 : Int32))), st_h I (st_y J (3 + (Int32.toNatClampNeg (I (150 + (Int32.toNatClampNeg p1)) 2))) (Int32.toNatClampNeg (((((I (150 + (Int32.toNatClampNeg p1)) 3) * (64 : Int32)) + (I (150 + (Int32.toNatClampNeg p1)) 4)) + (p3 * p2)) / (64 : Int32))) (((J (3 + (Int32.toNatClampNeg (I (150 + (Int32.toNatClampNeg p1)) 2))) (Int32.toNatClampNeg (((((I (150 + (Int32.toNatClampNeg p1)) 3) * (64 : Int32)) + (I (150 + (Int32.toNatClampNeg p1)) 4)) + (p3 * p2)) / (64 : Int32)))) &&& ((jl (if p2 < (64 : Int32) then ((jl (1 : Int64) p2) - (1 : Int64)) else (-1 : Int64)) (irm ((((I (150 + (Int32.toNatClampNeg p1)) 3) * (64 : Int32)) + (I (150 + (Int32.toNatClampNeg p1)) 4)) + (p3 * p2)) (64 : Int32))) ^^^ (-1 : Int64))) ||| ((jl p4 (irm ((((I (150 + (Int32.toNatClampNeg p1)) 3) * (64 : Int32)) + (I (150 + (Int32.toNatClampNeg p1)) 4)) + (p3 * p2)) (64 : Int32))) &&& (jl (if p2 < (64 : Int32) then ((jl (1 : Int64) p2) - (1 : Int64)) else (-1 : Int64)) (irm ((((I (150 + (Int32.toNatClampNeg p1)) 3) * (64 : Int32)) + (I (150 + (Int32.toNatClampNeg p1)) 4)) + (p3 * p2)) (64 : Int32)))))), 0, 0))) else r = (.inl (some (.int (1 : Int32))), st_h I J, 1, 6)) else ((((I (150 + (Int32.toNatClampNeg p1)) 0) = (2 : Int32)) → ((¬ ((I (150 + (Int32.toNatClampNeg p1)) 8) < (1 : Int32))) → ((¬ ((5 : Int32) < (I (150 + (Int32.toNatClampNeg p1)) 8))) → (pm_in (I (150 + (Int32.toNatClampNeg p1)) 8) 8) = true))) ∧ (if ((I (150 + (Int32.toNatClampNeg p1)) 0) = (2 : Int32)) ∧ ((¬ ((I (150 + (Int32.toNatClampNeg p1)) 8) < (1 : Int32))) ∧ ((¬ ((5 : Int32) < (I (150 + (Int32.toNatClampNeg p1)) 8))) ∧ ((eb (Int32.toNatClampNeg (I (150 + (Int32.toNatClampNeg p1)) 8))) = p2))) then (if (((I (150 + (Int32.toNatClampNeg p1)) 0) = (2 : Int32)) ∧ (p3 < (I (150 + (Int32.toNatClampNeg p1)) 7))) ∨ ((¬ ((I (150 + (Int32.toNatClampNeg p1)) 0) = (2 : Int32))) ∧ (¬ ((Int32.toInt64 (I (150 + (Int32.toNatClampNeg p1)) 5)) < (((Int32.toInt64 p3) + (1 : Int64)) * (Int32.toInt64 p2))))) then ((pm_in (I (150 + (Int32.toNatClampNeg p1)) 2) 4) = true ∧ ((pm_in (((((I (150 + (Int32.toNatClampNeg p1)) 3) * (64 : Int32)) + (I (150 + (Int32.toNatClampNeg p1)) 4)) + (p3 * p2)) / (64 : Int32)) 64) = true ∧ r = (.inl (some (.int (0 : Int32))), st_h I (st_y J (3 + (Int32.toNatClampNeg (I (150 + (Int32.toNatClampNeg p1)) 2))) (Int32.toNatClampNeg (((((I (150 + (Int32.toNatClampNeg p1)) 3) * (64 : Int32)) + (I (150 + (Int32.toNatClampNeg p1)) 4)) + (p3 * p2)) / (64 : Int32))) (((J (3 + (Int32.toNatClampNeg (I (150 + (Int32.toNatClampNeg p1)) 2))) (Int32.toNatClampNeg (((((I (150 + (Int32.toNatClampNeg p1)) 3) * (64 : Int32)) + (I (150 + (Int32.toNatClampNeg p1)) 4)) + (p3 * p2)) / (64 : Int32)))) &&& ((jl (if p2 < (64 : Int32) then ((jl (1 : Int64) p2) - (1 : Int64)) else (-1 : Int64)) (irm ((((I (150 + (Int32.toNatClampNeg p1)) 3) * (64 : Int32)) + (I (150 + (Int32.toNatClampNeg p1)) 4)) + (p3 * p2)) (64 : Int32))) ^^^ (-1 : Int64))) ||| ((jl p4 (irm ((((I (150 + (Int32.toNatClampNeg p1)) 3) * (64 : Int32)) + (I (150 + (Int32.toNatClampNeg p1)) 4)) + (p3 * p2)) (64 : Int32))) &&& (jl (if p2 < (64 : Int32) then ((jl (1 : Int64) p2) - (1 : Int64)) else (-1 : Int64)) (irm ((((I (150 + (Int32.toNatClampNeg p1)) 3) * (64 : Int32)) + (I (150 + (Int32.toNatClampNeg p1)) 4)) + (p3 * p2)) (64 : Int32)))))), 0, 0))) else r = (.inl (some (.int (1 : Int32))), st_h I J, 1, 6)) else r = (.inl (some (.int (2 : Int32))), st_h I J, 1, 6)))))) → Ex X (d + 4) 114 [.ref 0, .int p1, .int p2, .int p3, .long p4] (st_h I J) r := by
  refine ic (Ex_iff (M := (kc_L_put, [(0, 9, 14, 1, 6), (0, 9, 18, 4, 6)])) (n := 7) rfl rfl) ?_
  refine ic (t_p (pc' := 6) (ls' := [some (.ref 0), some (.int p1), some (.int p2), some (.int p3), some (.long p4), none, none]) (st' := [.long p4, .int p3, .int p2, .int p1, .ref 0]) 5 rfl) ?_
  refine ic (t_cW rfl rfl rfl rfl (fun q => ev_D_put hX (d := d)  q)) ?_
  refine i_cg (ex_i) ?_ ?_
  · refine ic (ex_h rfl) ?_
    refine ic (t_p (pc' := 15) (ls' := [some (.ref 0), some (.int p1), some (.int p2), some (.int p3), some (.long p4), none, none]) (st' := [.int (1 : Int32)]) 1 rfl) ?_
    exact ic (t_rI rfl) id
  · refine i_an (ex_a) (fun h2 => ?_)
    refine i_cg (ex_i) ?_ ?_
    · refine i_cg (ex_i) ?_ ?_
      · refine i_an (ex_a) (fun h5 => ?_)
        refine i_an (ex_a) (fun h6 => ?_)
        refine ic (ex_q) ?_
        refine ic (t_p (pc' := 21) (ls' := [some (.ref 0), some (.int p1), some (.int p2), some (.int p3), some (.long p4), none, none]) (st' := [.int (0 : Int32)]) 2 rfl) ?_
        exact ic (t_rI rfl) id
      · refine ic (ex_h rfl) ?_
        refine ic (t_p (pc' := 15) (ls' := [some (.ref 0), some (.int p1), some (.int p2), some (.int p3), some (.long p4), none, none]) (st' := [.int (1 : Int32)]) 1 rfl) ?_
        exact ic (t_rI rfl) id
    · refine i_an (ex_a) (fun h7 => ?_)
      refine i_cg (ex_i) ?_ ?_
      · refine i_cg (ex_i) ?_ ?_
        · refine i_an (ex_a) (fun h10 => ?_)
          refine i_an (ex_a) (fun h11 => ?_)
          refine ic (ex_q) ?_
          refine ic (t_p (pc' := 21) (ls' := [some (.ref 0), some (.int p1), some (.int p2), some (.int p3), some (.long p4), none, none]) (st' := [.int (0 : Int32)]) 2 rfl) ?_
          exact ic (t_rI rfl) id
        · refine ic (ex_h rfl) ?_
          refine ic (t_p (pc' := 15) (ls' := [some (.ref 0), some (.int p1), some (.int p2), some (.int p3), some (.long p4), none, none]) (st' := [.int (1 : Int32)]) 1 rfl) ?_
          exact ic (t_rI rfl) id
      · refine ic (ex_h rfl) ?_
        refine ic (t_p (pc' := 19) (ls' := [some (.ref 0), some (.int p1), some (.int p2), some (.int p3), some (.long p4), none, none]) (st' := [.int (2 : Int32)]) 1 rfl) ?_
        exact ic (t_rI rfl) id
theorem iv_L_octet {X : pm_X} {d : Nat} {I : st_I} {J : st_J} {p1 : Int32} (r : pm_R) : (if (p1 < (0 : Int32)) ∨ (¬ (p1 < (I (st_o (I 0 6)) 1))) then r = (.inl (some (.int (1 : Int32))), st_h I J, 1, 6) else ((pm_in p1 1500) = true ∧ r = (.inl (some (.int (0 : Int32))), st_h I (st_y J 187 0 (Int32.toInt64 ((I ((st_o (I 0 6)) + 1) (Int32.toNatClampNeg p1)) &&& (255 : Int32)))), 0, 0))) → Ex X (d + 3) 137 [.ref 0, .int p1, .ref 187] (st_h I J) r := by
  refine ic (Ex_iff (M := (kc_L_octet, [(0, 9, 13, 1, 3)])) (n := 4) rfl rfl) ?_
  refine ic (t_p (pc' := 4) (ls' := [some (.ref 0), some (.int p1), some (.ref 187), none]) (st' := [.int p1, .ref 0, .int (0 : Int32), .ref 187]) 4 rfl) ?_
  refine ic (t_cW rfl rfl rfl rfl (fun q => ev_D_octet (d := d)  q)) ?_
  refine i_cg (ex_i) ?_ ?_
  · refine ic (ex_h rfl) ?_
    refine ic (t_p (pc' := 14) (ls' := [some (.ref 0), some (.int p1), some (.ref 187), none]) (st' := [.int (1 : Int32)]) 1 rfl) ?_
    exact ic (t_rI rfl) id
  · refine i_an (ex_a) (fun h2 => ?_)
    refine ic (ex_q) ?_
    refine ic (t_p (pc' := 8) (ls' := [some (.ref 0), some (.int p1), some (.ref 187), none]) (st' := [.long (Int32.toInt64 ((I ((st_o (I 0 6)) + 1) (Int32.toNatClampNeg p1)) &&& (255 : Int32))), .int (0 : Int32), .ref 187]) 1 rfl) ?_
    refine ic ((t_sJ rfl rfl).trans (and_t (rfl : (pm_in (0 : Int32) 1) = true))) ?_
    refine ic (t_p (pc' := 16) (ls' := [some (.ref 0), some (.int p1), some (.ref 187), none]) (st' := [.int (0 : Int32)]) 2 rfl) ?_
    exact ic (t_rI rfl) id
theorem iv_L_count {X : pm_X} {d : Nat} {I : st_I} {J : st_J} {p1 : Int32} (r : pm_R) : (if p1 = (0 : Int32) then r = (.inl (some (.int (0 : Int32))), st_h I (st_y J 187 0 (Int32.toInt64 (I 1 2))), 0, 0) else (if p1 = (1 : Int32) then r = (.inl (some (.int (0 : Int32))), st_h I (st_y J 187 0 (Int32.toInt64 (I (st_o (I 0 6)) 1))), 0, 0) else (if p1 = (2 : Int32) then r = (.inl (some (.int (0 : Int32))), st_h I (st_y J 187 0 (Int32.toInt64 (I 8 0))), 0, 0) else (if p1 = (3 : Int32) then r = (.inl (some (.int (0 : Int32))), st_h I (st_y J 187 0 (Int32.toInt64 (bz ((0 : Int32) < (I 1 3))))), 0, 0) else (if p1 = (4 : Int32) then ((pm_in (p1 - (4 : Int32)) 4) = true ∧ r = (.inl (some (.int (0 : Int32))), st_h I (st_y J 187 0 (Int32.toInt64 (I 7 (Int32.toNatClampNeg (p1 - (4 : Int32)))))), 0, 0)) else (if p1 = (5 : Int32) then ((pm_in (p1 - (4 : Int32)) 4) = true ∧ r = (.inl (some (.int (0 : Int32))), st_h I (st_y J 187 0 (Int32.toInt64 (I 7 (Int32.toNatClampNeg (p1 - (4 : Int32)))))), 0, 0)) else (if p1 = (6 : Int32) then ((pm_in (p1 - (4 : Int32)) 4) = true ∧ r = (.inl (some (.int (0 : Int32))), st_h I (st_y J 187 0 (Int32.toInt64 (I 7 (Int32.toNatClampNeg (p1 - (4 : Int32)))))), 0, 0)) else (if p1 = (7 : Int32) then ((pm_in (p1 - (4 : Int32)) 4) = true ∧ r = (.inl (some (.int (0 : Int32))), st_h I (st_y J 187 0 (Int32.toInt64 (I 7 (Int32.toNatClampNeg (p1 - (4 : Int32)))))), 0, 0)) else (if p1 = (8 : Int32) then r = (.inl (some (.int (0 : Int32))), st_h I (st_y J 187 0 (Int32.toInt64 (I 1 3))), 0, 0) else r = (.inl (some (.int (1 : Int32))), st_h I J, 1, 6)))))))))) → Ex X (d + 3) 166 [.ref 0, .int p1, .ref 187] (st_h I J) r := by
  refine ic (Ex_iff (M := (kc_L_count, [(0, 9, 13, 1, 3)])) (n := 4) rfl rfl) ?_
  refine ic (t_p (pc' := 4) (ls' := [some (.ref 0), some (.int p1), some (.ref 187), none]) (st' := [.int p1, .ref 0, .int (0 : Int32), .ref 187]) 4 rfl) ?_
  refine ic (t_cW rfl rfl rfl rfl (fun q => ev_D_count (d := d)  q)) ?_
  refine i_cg (ex_i) ?_ ?_
  · refine ic (ex_q) ?_
    refine ic (t_p (pc' := 8) (ls' := [some (.ref 0), some (.int p1), some (.ref 187), none]) (st' := [.long (Int32.toInt64 (I 1 2)), .int (0 : Int32), .ref 187]) 1 rfl) ?_
    refine ic ((t_sJ rfl rfl).trans (and_t (rfl : (pm_in (0 : Int32) 1) = true))) ?_
    refine ic (t_p (pc' := 16) (ls' := [some (.ref 0), some (.int p1), some (.ref 187), none]) (st' := [.int (0 : Int32)]) 2 rfl) ?_
    exact ic (t_rI rfl) id
  · refine i_cg (ex_i) ?_ ?_
    · refine ic (ex_q) ?_
      refine ic (t_p (pc' := 8) (ls' := [some (.ref 0), some (.int p1), some (.ref 187), none]) (st' := [.long (Int32.toInt64 (I (st_o (I 0 6)) 1)), .int (0 : Int32), .ref 187]) 1 rfl) ?_
      refine ic ((t_sJ rfl rfl).trans (and_t (rfl : (pm_in (0 : Int32) 1) = true))) ?_
      refine ic (t_p (pc' := 16) (ls' := [some (.ref 0), some (.int p1), some (.ref 187), none]) (st' := [.int (0 : Int32)]) 2 rfl) ?_
      exact ic (t_rI rfl) id
    · refine i_cg (ex_i) ?_ ?_
      · refine ic (ex_q) ?_
        refine ic (t_p (pc' := 8) (ls' := [some (.ref 0), some (.int p1), some (.ref 187), none]) (st' := [.long (Int32.toInt64 (I 8 0)), .int (0 : Int32), .ref 187]) 1 rfl) ?_
        refine ic ((t_sJ rfl rfl).trans (and_t (rfl : (pm_in (0 : Int32) 1) = true))) ?_
        refine ic (t_p (pc' := 16) (ls' := [some (.ref 0), some (.int p1), some (.ref 187), none]) (st' := [.int (0 : Int32)]) 2 rfl) ?_
        exact ic (t_rI rfl) id
      · refine i_cg (ex_i) ?_ ?_
        · refine ic (ex_q) ?_
          refine ic (t_p (pc' := 8) (ls' := [some (.ref 0), some (.int p1), some (.ref 187), none]) (st' := [.long (Int32.toInt64 (bz ((0 : Int32) < (I 1 3)))), .int (0 : Int32), .ref 187]) 1 rfl) ?_
          refine ic ((t_sJ rfl rfl).trans (and_t (rfl : (pm_in (0 : Int32) 1) = true))) ?_
          refine ic (t_p (pc' := 16) (ls' := [some (.ref 0), some (.int p1), some (.ref 187), none]) (st' := [.int (0 : Int32)]) 2 rfl) ?_
          exact ic (t_rI rfl) id
        · refine i_cg (ex_i) ?_ ?_
          · refine i_an (ex_a) (fun h6 => ?_)
            refine ic (ex_q) ?_
            refine ic (t_p (pc' := 8) (ls' := [some (.ref 0), some (.int p1), some (.ref 187), none]) (st' := [.long (Int32.toInt64 (I 7 (Int32.toNatClampNeg (p1 - (4 : Int32))))), .int (0 : Int32), .ref 187]) 1 rfl) ?_
            refine ic ((t_sJ rfl rfl).trans (and_t (rfl : (pm_in (0 : Int32) 1) = true))) ?_
            refine ic (t_p (pc' := 16) (ls' := [some (.ref 0), some (.int p1), some (.ref 187), none]) (st' := [.int (0 : Int32)]) 2 rfl) ?_
            exact ic (t_rI rfl) id
          · refine i_cg (ex_i) ?_ ?_
            · refine i_an (ex_a) (fun h8 => ?_)
              refine ic (ex_q) ?_
              refine ic (t_p (pc' := 8) (ls' := [some (.ref 0), some (.int p1), some (.ref 187), none]) (st' := [.long (Int32.toInt64 (I 7 (Int32.toNatClampNeg (p1 - (4 : Int32))))), .int (0 : Int32), .ref 187]) 1 rfl) ?_
              refine ic ((t_sJ rfl rfl).trans (and_t (rfl : (pm_in (0 : Int32) 1) = true))) ?_
              refine ic (t_p (pc' := 16) (ls' := [some (.ref 0), some (.int p1), some (.ref 187), none]) (st' := [.int (0 : Int32)]) 2 rfl) ?_
              exact ic (t_rI rfl) id
            · refine i_cg (ex_i) ?_ ?_
              · refine i_an (ex_a) (fun h10 => ?_)
                refine ic (ex_q) ?_
                refine ic (t_p (pc' := 8) (ls' := [some (.ref 0), some (.int p1), some (.ref 187), none]) (st' := [.long (Int32.toInt64 (I 7 (Int32.toNatClampNeg (p1 - (4 : Int32))))), .int (0 : Int32), .ref 187]) 1 rfl) ?_
                refine ic ((t_sJ rfl rfl).trans (and_t (rfl : (pm_in (0 : Int32) 1) = true))) ?_
                refine ic (t_p (pc' := 16) (ls' := [some (.ref 0), some (.int p1), some (.ref 187), none]) (st' := [.int (0 : Int32)]) 2 rfl) ?_
                exact ic (t_rI rfl) id
              · refine i_cg (ex_i) ?_ ?_
                · refine i_an (ex_a) (fun h12 => ?_)
                  refine ic (ex_q) ?_
                  refine ic (t_p (pc' := 8) (ls' := [some (.ref 0), some (.int p1), some (.ref 187), none]) (st' := [.long (Int32.toInt64 (I 7 (Int32.toNatClampNeg (p1 - (4 : Int32))))), .int (0 : Int32), .ref 187]) 1 rfl) ?_
                  refine ic ((t_sJ rfl rfl).trans (and_t (rfl : (pm_in (0 : Int32) 1) = true))) ?_
                  refine ic (t_p (pc' := 16) (ls' := [some (.ref 0), some (.int p1), some (.ref 187), none]) (st' := [.int (0 : Int32)]) 2 rfl) ?_
                  exact ic (t_rI rfl) id
                · refine i_cg (ex_i) ?_ ?_
                  · refine ic (ex_q) ?_
                    refine ic (t_p (pc' := 8) (ls' := [some (.ref 0), some (.int p1), some (.ref 187), none]) (st' := [.long (Int32.toInt64 (I 1 3)), .int (0 : Int32), .ref 187]) 1 rfl) ?_
                    refine ic ((t_sJ rfl rfl).trans (and_t (rfl : (pm_in (0 : Int32) 1) = true))) ?_
                    refine ic (t_p (pc' := 16) (ls' := [some (.ref 0), some (.int p1), some (.ref 187), none]) (st' := [.int (0 : Int32)]) 2 rfl) ?_
                    exact ic (t_rI rfl) id
                  · refine ic (ex_h rfl) ?_
                    refine ic (t_p (pc' := 14) (ls' := [some (.ref 0), some (.int p1), some (.ref 187), none]) (st' := [.int (1 : Int32)]) 1 rfl) ?_
                    exact ic (t_rI rfl) id
