set_option maxRecDepth 20000 in
theorem ie_M_canonical {X : pm_X} {d : Nat} {I : st_I} {J : st_J}  (r : pm_R) : (if (I 170 0) = (0 : Int32) then r = (.inl (some (.int (0 : Int32))), st_h (st_w (st_w I 166 10 (0 : Int32)) 166 10 (1 : Int32)) J, 0, 0) else Gx X (d + 4) (kc_M_canonical, []) (31, [some (.ref 166), some (.int (0 : Int32)), none, none], [], st_h (st_w I 166 10 (0 : Int32)) J, 0, 0) r) → Ex X (d + 5) 231 [.ref 166] (st_h I J) r := by
  refine ic (Ex_iff (M := (kc_M_canonical, [])) (n := 4) rfl rfl) ?_
  refine ic (t_p (pc' := 2) (ls' := [some (.ref 166), none, none, none]) (st' := [.int (0 : Int32), .ref 166]) 2 rfl) ?_
  refine ic (t_pI rfl rfl) ?_
  refine ic (t_p (pc' := 7) (ls' := [some (.ref 166), none, none, none]) (st' := [.ref 166, .ref 166]) 2 rfl) ?_
  refine ic (t_gR rfl rfl) ?_
  refine ic (t_p (pc' := 11) (ls' := [some (.ref 166), none, none, none]) (st' := [.int (0 : Int32), .ref 170, .ref 166]) 1 rfl) ?_
  refine ic ((t_lI rfl rfl).trans (and_t (rfl : (pm_in (0 : Int32) 4) = true))) ?_
  refine ic (mgI (t_fne rfl) bj_10 (t_p (pc' := 20) (ls' := [some (.ref 166), none, none, none]) (st' := [.int (1 : Int32), .ref 166]) 2 rfl) (t_p (pc' := 20) (ls' := [some (.ref 166), none, none, none]) (st' := [.int (0 : Int32), .ref 166]) 1 rfl)) ?_
  refine ic (t_p (pc' := 21) (ls' := [some (.ref 166), none, none, none]) (st' := [.int (1 : Int32), .int (bz ((I 170 0) = (0 : Int32))), .ref 166]) 1 rfl) ?_
  refine ic (t_cW rfl rfl rfl rfl (fun q => ev_M_fails (d := d + 3)  q)) ?_
  refine i_cg (cgB (ex_i)) ?_ ?_
  · refine i_cgT (ex_i) (show (0 : Int32) = (0 : Int32) by decide) ?_
    refine ic (ex_q) ?_
    refine i_cgT (t_beq rfl) (show ¬ ((1 : Int32) = (0 : Int32)) by decide) ?_
    refine ic (t_p (pc' := 28) (ls' := [some (.ref 166), none, none, none]) (st' := [.int (0 : Int32)]) 1 rfl) ?_
    exact ic (t_rI rfl) id
  · refine ic (ex_q) ?_
    refine i_cgF (t_beq rfl) (fun z => z (show (0 : Int32) = (0 : Int32) by decide)) ?_
    exact ic (t_p (pc' := 31) (ls' := [some (.ref 166), some (.int (0 : Int32)), none, none]) (st' := []) 2 rfl) id
set_option maxRecDepth 20000 in
theorem ib_M_canonical_31 {X : pm_X} {d : Nat} {I : st_I} {J : st_J}  {v1 : Int32} {u2 : Option Value} {u3 : Option Value} {c k : Nat} (r : pm_R) : (if v1 < (64 : Int32) then ((pm_in v1 64) = true ∧ Gx X (d + 4) (kc_M_canonical, []) (31, [some (.ref 166), some (.int (v1 + (1 : Int32))), u2, u3], [], st_h I (st_y J 168 (Int32.toNatClampNeg v1) (0 : Int64)), c, k) r) else Gx X (d + 4) (kc_M_canonical, []) (66, [some (.ref 166), some (.int (1 : Int32)), u2, u3], [], st_h (st_w (st_w (st_w (st_w (st_w (st_w I 166 26 (0 : Int32)) 183 0 (0 : Int32)) 184 0 (0 : Int32)) 185 0 (0 : Int32)) 186 0 (64 : Int32)) 166 26 ((0 : Int32) + (1 : Int32))) J, c, k) r) → Gx X (d + 4) (kc_M_canonical, []) (31, [some (.ref 166), some (.int v1), u2, u3], [], st_h I J, c, k) r := by
  refine ic (t_p (pc' := 34) (ls' := [some (.ref 166), some (.int v1), u2, u3]) (st' := [.int (64 : Int32), .int v1]) 2 rfl) ?_
  refine i_cg (t_ige rfl) ?_ ?_
  · refine ic (t_p (pc' := 38) (ls' := [some (.ref 166), some (.int v1), u2, u3]) (st' := [.ref 166]) 1 rfl) ?_
    refine ic (t_gR rfl rfl) ?_
    refine ic (t_p (pc' := 43) (ls' := [some (.ref 166), some (.int v1), u2, u3]) (st' := [.long (0 : Int64), .int v1, .ref 168]) 2 rfl) ?_
    refine i_an (t_sJ rfl rfl) (fun h3 => ?_)
    exact ic (t_p (pc' := 31) (ls' := [some (.ref 166), some (.int (v1 + (1 : Int32))), u2, u3]) (st' := []) 2 rfl) id
  · refine ic (t_p (pc' := 54) (ls' := [some (.ref 166), some (.int (1 : Int32)), u2, u3]) (st' := [.int (0 : Int32), .ref 166]) 4 rfl) ?_
    refine ic (t_pI rfl rfl) ?_
    refine ic (t_p (pc' := 63) (ls' := [some (.ref 166), some (.int (1 : Int32)), u2, u3]) (st' := [.int (64 : Int32), .int (0 : Int32), .int (0 : Int32), .int (0 : Int32), .ref 166]) 5 rfl) ?_
    refine ic (t_cW rfl rfl rfl rfl (fun q => ev_M_push (d := d + 3)  q)) ?_
    refine ic (ex_a.trans (and_t (show (pm_in (0 : Int32) 80) = true from rfl))) ?_
    exact ic (ex_q) id
set_option maxRecDepth 20000 in
theorem ib_M_canonical_66 {X : pm_X} {d : Nat} {I : st_I} {J : st_J} {K : st_I} {b : Int32} {K29 : st_I} {b29 : Int32} {L29 : st_J} {K50 : st_I} {b50 : Int32} {L50 : st_J} {K53 : st_I} {b53 : Int32} {L53 : st_J} {v1 : Int32} {u2 : Option Value} {u3 : Option Value} {c k : Nat} (r : pm_R) : (if (0 : Int32) < (I 166 26) then (if (I 166 10) = (0 : Int32) then ((pm_in ((I 166 26) - (1 : Int32)) 80) = true ∧ (Ex X (d + 4) 182 [.ref 166, .int (16 : Int32), .int (I 183 (Int32.toNatClampNeg ((I 166 26) - (1 : Int32)))), .int (I 184 (Int32.toNatClampNeg ((I 166 26) - (1 : Int32)))), .int (I 186 (Int32.toNatClampNeg ((I 166 26) - (1 : Int32))))] (st_h (st_w I 166 26 ((I 166 26) - (1 : Int32))) J) (.inl (some (.int b)), st_h K J, 0, 0) ∧ (if b = (0 : Int32) then (if (K 166 10) = (0 : Int32) then r = (.inl (some (.int (0 : Int32))), st_h (st_w K 166 10 (1 : Int32)) J, c, k) else r = (.inl (some (.int (0 : Int32))), st_h K J, c, k)) else (if (K 166 10) = (0 : Int32) then (if (K 173 16) = (1 : Int32) then (Ex X (d + 4) 233 [.ref 166, .int (I 185 (Int32.toNatClampNeg ((I 166 26) - (1 : Int32)))), .int v1] (st_h K J) (.inl (some (.int b29)), st_h K29 L29, 0, 0) ∧ Gx X (d + 4) (kc_M_canonical, []) (66, [some (.ref 166), some (.int b29), some (.int (I 185 (Int32.toNatClampNeg ((I 166 26) - (1 : Int32))))), some (.int b)], [], st_h K29 L29, c, k) r) else (if (K 173 16) = (2 : Int32) then (if (K 180 16) = (7 : Int32) then (Ex X (d + 4) 235 [.ref 166, .int (I 185 (Int32.toNatClampNeg ((I 166 26) - (1 : Int32)))), .int v1] (st_h K J) (.inl (some (.int b50)), st_h K50 L50, 0, 0) ∧ Gx X (d + 4) (kc_M_canonical, []) (66, [some (.ref 166), some (.int b50), some (.int (I 185 (Int32.toNatClampNeg ((I 166 26) - (1 : Int32))))), some (.int b)], [], st_h K50 L50, c, k) r) else (Ex X (d + 4) 236 [.ref 166, .int (I 185 (Int32.toNatClampNeg ((I 166 26) - (1 : Int32)))), .int v1] (st_h K J) (.inl (some (.int b53)), st_h K53 L53, 0, 0) ∧ Gx X (d + 4) (kc_M_canonical, []) (66, [some (.ref 166), some (.int b53), some (.int (I 185 (Int32.toNatClampNeg ((I 166 26) - (1 : Int32))))), some (.int b)], [], st_h K53 L53, c, k) r)) else Gx X (d + 4) (kc_M_canonical, []) (66, [some (.ref 166), some (.int v1), some (.int (I 185 (Int32.toNatClampNeg ((I 166 26) - (1 : Int32))))), some (.int b)], [], st_h K J, c, k) r)) else r = (.inl (some (.int (0 : Int32))), st_h K J, c, k))))) else r = (.inl (some (.int (0 : Int32))), st_h I J, c, k)) else (if (I 166 10) = (0 : Int32) then Gx X (d + 4) (kc_M_canonical, []) (227, [some (.ref 166), some (.int v1), some (.int (1 : Int32)), u3], [], st_h I J, c, k) r else r = (.inl (some (.int (0 : Int32))), st_h I J, c, k))) → Gx X (d + 4) (kc_M_canonical, []) (66, [some (.ref 166), some (.int v1), u2, u3], [], st_h I J, c, k) r := by
  refine ic (t_p (pc' := 67) (ls' := [some (.ref 166), some (.int v1), u2, u3]) (st' := [.ref 166]) 1 rfl) ?_
  refine ic (t_gI rfl rfl) ?_
  refine i_cg (t_fle rfl) ?_ ?_
  · refine ic (t_p (pc' := 74) (ls' := [some (.ref 166), some (.int v1), u2, u3]) (st' := [.ref 166]) 1 rfl) ?_
    refine ic (t_gI rfl rfl) ?_
    refine i_cgd (t_fne rfl) (fun h2 => ?_) (fun h2 => ?_)
    · refine ic (t_p (pc' := 82) (ls' := [some (.ref 166), some (.int v1), u2, u3]) (st' := [.ref 166, .ref 166]) 2 rfl) ?_
      refine ic (t_gI rfl rfl) ?_
      refine ic (t_p (pc' := 87) (ls' := [some (.ref 166), some (.int v1), u2, u3]) (st' := [.int ((I 166 26) - (1 : Int32)), .ref 166]) 2 rfl) ?_
      refine ic (t_pI rfl rfl) ?_
      refine ic (t_p (pc' := 91) (ls' := [some (.ref 166), some (.int v1), u2, u3]) (st' := [.ref 166]) 1 rfl) ?_
      refine ic (t_gR rfl rfl) ?_
      refine ic (t_p (pc' := 95) (ls' := [some (.ref 166), some (.int v1), u2, u3]) (st' := [.ref 166, .ref 185]) 1 rfl) ?_
      refine ic (t_gI rfl rfl) ?_
      refine i_an (t_lI rfl rfl) (fun h3 => ?_)
      refine ic (t_p (pc' := 104) (ls' := [some (.ref 166), some (.int v1), some (.int (I 185 (Int32.toNatClampNeg ((I 166 26) - (1 : Int32))))), u3]) (st' := [.ref 166, .int (16 : Int32), .ref 166]) 4 rfl) ?_
      refine ic (t_gR rfl rfl) ?_
      refine ic (t_p (pc' := 108) (ls' := [some (.ref 166), some (.int v1), some (.int (I 185 (Int32.toNatClampNeg ((I 166 26) - (1 : Int32))))), u3]) (st' := [.ref 166, .ref 183, .int (16 : Int32), .ref 166]) 1 rfl) ?_
      refine ic (t_gI rfl rfl) ?_
      refine ic ((t_lI rfl rfl).trans (and_t h3)) ?_
      refine ic (t_p (pc' := 113) (ls' := [some (.ref 166), some (.int v1), some (.int (I 185 (Int32.toNatClampNeg ((I 166 26) - (1 : Int32))))), u3]) (st' := [.ref 166, .int (I 183 (Int32.toNatClampNeg ((I 166 26) - (1 : Int32)))), .int (16 : Int32), .ref 166]) 1 rfl) ?_
      refine ic (t_gR rfl rfl) ?_
      refine ic (t_p (pc' := 117) (ls' := [some (.ref 166), some (.int v1), some (.int (I 185 (Int32.toNatClampNeg ((I 166 26) - (1 : Int32))))), u3]) (st' := [.ref 166, .ref 184, .int (I 183 (Int32.toNatClampNeg ((I 166 26) - (1 : Int32)))), .int (16 : Int32), .ref 166]) 1 rfl) ?_
      refine ic (t_gI rfl rfl) ?_
      refine ic ((t_lI rfl rfl).trans (and_t h3)) ?_
      refine ic (t_p (pc' := 122) (ls' := [some (.ref 166), some (.int v1), some (.int (I 185 (Int32.toNatClampNeg ((I 166 26) - (1 : Int32))))), u3]) (st' := [.ref 166, .int (I 184 (Int32.toNatClampNeg ((I 166 26) - (1 : Int32)))), .int (I 183 (Int32.toNatClampNeg ((I 166 26) - (1 : Int32)))), .int (16 : Int32), .ref 166]) 1 rfl) ?_
      refine ic (t_gR rfl rfl) ?_
      refine ic (t_p (pc' := 126) (ls' := [some (.ref 166), some (.int v1), some (.int (I 185 (Int32.toNatClampNeg ((I 166 26) - (1 : Int32))))), u3]) (st' := [.ref 166, .ref 186, .int (I 184 (Int32.toNatClampNeg ((I 166 26) - (1 : Int32)))), .int (I 183 (Int32.toNatClampNeg ((I 166 26) - (1 : Int32)))), .int (16 : Int32), .ref 166]) 1 rfl) ?_
      refine ic (t_gI rfl rfl) ?_
      refine ic ((t_lI rfl rfl).trans (and_t h3)) ?_
      refine i_hW rfl rfl rfl rfl ?_
      refine ic (t_p (pc' := 136) (ls' := [some (.ref 166), some (.int v1), some (.int (I 185 (Int32.toNatClampNeg ((I 166 26) - (1 : Int32))))), some (.int b)]) (st' := [.int b, .ref 166]) 3 rfl) ?_
      refine ic (mgI (t_fne rfl) bj_10 (t_p (pc' := 144) (ls' := [some (.ref 166), some (.int v1), some (.int (I 185 (Int32.toNatClampNeg ((I 166 26) - (1 : Int32))))), some (.int b)]) (st' := [.int (1 : Int32), .ref 166]) 2 rfl) (t_p (pc' := 144) (ls' := [some (.ref 166), some (.int v1), some (.int (I 185 (Int32.toNatClampNeg ((I 166 26) - (1 : Int32))))), some (.int b)]) (st' := [.int (0 : Int32), .ref 166]) 1 rfl)) ?_
      refine ic (t_p (pc' := 145) (ls' := [some (.ref 166), some (.int v1), some (.int (I 185 (Int32.toNatClampNeg ((I 166 26) - (1 : Int32))))), some (.int b)]) (st' := [.int (1 : Int32), .int (bz (b = (0 : Int32))), .ref 166]) 1 rfl) ?_
      refine ic (t_cW rfl rfl rfl rfl (fun q => ev_M_fails (d := d + 3)  q)) ?_
      refine i_cg (cgB (ex_i)) ?_ ?_
      · refine i_cg (ex_i) ?_ ?_
        · refine ic (ex_q) ?_
          refine i_cgT (t_beq rfl) (show ¬ ((1 : Int32) = (0 : Int32)) by decide) ?_
          refine ic (t_p (pc' := 152) (ls' := [some (.ref 166), some (.int v1), some (.int (I 185 (Int32.toNatClampNeg ((I 166 26) - (1 : Int32))))), some (.int b)]) (st' := [.int (0 : Int32)]) 1 rfl) ?_
          exact ic (t_rI rfl) id
        · refine ic (ex_q) ?_
          refine i_cgF (t_feq rfl) (show ¬ ((1 : Int32) = (0 : Int32)) by decide) ?_
          refine ic (t_p (pc' := 152) (ls' := [some (.ref 166), some (.int v1), some (.int (I 185 (Int32.toNatClampNeg ((I 166 26) - (1 : Int32))))), some (.int b)]) (st' := [.int (0 : Int32)]) 1 rfl) ?_
          exact ic (t_rI rfl) id
      · refine ic (ex_q) ?_
        refine i_cg (cgN (t_beq rfl)) ?_ ?_
        · refine ic (t_p (pc' := 154) (ls' := [some (.ref 166), some (.int v1), some (.int (I 185 (Int32.toNatClampNeg ((I 166 26) - (1 : Int32))))), some (.int b)]) (st' := [.ref 166]) 1 rfl) ?_
          refine ic (t_gR rfl rfl) ?_
          refine ic (t_p (pc' := 159) (ls' := [some (.ref 166), some (.int v1), some (.int (I 185 (Int32.toNatClampNeg ((I 166 26) - (1 : Int32))))), some (.int b)]) (st' := [.int (16 : Int32), .ref 173]) 1 rfl) ?_
          refine ic ((t_lI rfl rfl).trans (and_t (rfl : (pm_in (16 : Int32) 17) = true))) ?_
          refine ic (t_p (pc' := 161) (ls' := [some (.ref 166), some (.int v1), some (.int (I 185 (Int32.toNatClampNeg ((I 166 26) - (1 : Int32))))), some (.int b)]) (st' := [.int (1 : Int32), .int (K 173 16)]) 1 rfl) ?_
          refine i_cg (t_ine rfl) ?_ ?_
          · refine ic (t_p (pc' := 167) (ls' := [some (.ref 166), some (.int v1), some (.int (I 185 (Int32.toNatClampNeg ((I 166 26) - (1 : Int32))))), some (.int b)]) (st' := [.int v1, .int (I 185 (Int32.toNatClampNeg ((I 166 26) - (1 : Int32)))), .ref 166]) 3 rfl) ?_
            refine i_hW rfl rfl rfl rfl ?_
            exact ic (t_p (pc' := 66) (ls' := [some (.ref 166), some (.int b29), some (.int (I 185 (Int32.toNatClampNeg ((I 166 26) - (1 : Int32))))), some (.int b)]) (st' := []) 3 rfl) id
          · refine ic (t_p (pc' := 175) (ls' := [some (.ref 166), some (.int v1), some (.int (I 185 (Int32.toNatClampNeg ((I 166 26) - (1 : Int32))))), some (.int b)]) (st' := [.ref 166]) 1 rfl) ?_
            refine ic (t_gR rfl rfl) ?_
            refine ic (t_p (pc' := 180) (ls' := [some (.ref 166), some (.int v1), some (.int (I 185 (Int32.toNatClampNeg ((I 166 26) - (1 : Int32))))), some (.int b)]) (st' := [.int (16 : Int32), .ref 173]) 1 rfl) ?_
            refine ic ((t_lI rfl rfl).trans (and_t (rfl : (pm_in (16 : Int32) 17) = true))) ?_
            refine ic (t_p (pc' := 182) (ls' := [some (.ref 166), some (.int v1), some (.int (I 185 (Int32.toNatClampNeg ((I 166 26) - (1 : Int32))))), some (.int b)]) (st' := [.int (2 : Int32), .int (K 173 16)]) 1 rfl) ?_
            refine i_cg (t_ine rfl) ?_ ?_
            · refine ic (t_p (pc' := 186) (ls' := [some (.ref 166), some (.int v1), some (.int (I 185 (Int32.toNatClampNeg ((I 166 26) - (1 : Int32))))), some (.int b)]) (st' := [.ref 166]) 1 rfl) ?_
              refine ic (t_gR rfl rfl) ?_
              refine ic (t_p (pc' := 191) (ls' := [some (.ref 166), some (.int v1), some (.int (I 185 (Int32.toNatClampNeg ((I 166 26) - (1 : Int32))))), some (.int b)]) (st' := [.int (16 : Int32), .ref 180]) 1 rfl) ?_
              refine ic ((t_lI rfl rfl).trans (and_t (rfl : (pm_in (16 : Int32) 17) = true))) ?_
              refine ic (t_p (pc' := 194) (ls' := [some (.ref 166), some (.int v1), some (.int (I 185 (Int32.toNatClampNeg ((I 166 26) - (1 : Int32))))), some (.int b)]) (st' := [.int (7 : Int32), .int (K 180 16)]) 1 rfl) ?_
              refine i_cg (t_ine rfl) ?_ ?_
              · refine ic (t_p (pc' := 200) (ls' := [some (.ref 166), some (.int v1), some (.int (I 185 (Int32.toNatClampNeg ((I 166 26) - (1 : Int32))))), some (.int b)]) (st' := [.int v1, .int (I 185 (Int32.toNatClampNeg ((I 166 26) - (1 : Int32)))), .ref 166]) 3 rfl) ?_
                refine i_hW rfl rfl rfl rfl ?_
                exact ic (t_p (pc' := 66) (ls' := [some (.ref 166), some (.int b50), some (.int (I 185 (Int32.toNatClampNeg ((I 166 26) - (1 : Int32))))), some (.int b)]) (st' := []) 3 rfl) id
              · refine ic (t_p (pc' := 209) (ls' := [some (.ref 166), some (.int v1), some (.int (I 185 (Int32.toNatClampNeg ((I 166 26) - (1 : Int32))))), some (.int b)]) (st' := [.int v1, .int (I 185 (Int32.toNatClampNeg ((I 166 26) - (1 : Int32)))), .ref 166]) 3 rfl) ?_
                refine i_hW rfl rfl rfl rfl ?_
                exact ic (t_p (pc' := 66) (ls' := [some (.ref 166), some (.int b53), some (.int (I 185 (Int32.toNatClampNeg ((I 166 26) - (1 : Int32))))), some (.int b)]) (st' := []) 2 rfl) id
            · exact ic (t_p (pc' := 66) (ls' := [some (.ref 166), some (.int v1), some (.int (I 185 (Int32.toNatClampNeg ((I 166 26) - (1 : Int32))))), some (.int b)]) (st' := []) 1 rfl) id
        · refine ic (t_p (pc' := 152) (ls' := [some (.ref 166), some (.int v1), some (.int (I 185 (Int32.toNatClampNeg ((I 166 26) - (1 : Int32))))), some (.int b)]) (st' := [.int (0 : Int32)]) 1 rfl) ?_
          exact ic (t_rI rfl) id
    · refine ic (t_p (pc' := 217) (ls' := [some (.ref 166), some (.int v1), u2, u3]) (st' := [.ref 166]) 1 rfl) ?_
      refine ic (t_gI rfl rfl) ?_
      refine i_cgF (t_feq rfl) h2 ?_
      refine ic (t_p (pc' := 224) (ls' := [some (.ref 166), some (.int v1), u2, u3]) (st' := [.int (0 : Int32)]) 1 rfl) ?_
      exact ic (t_rI rfl) id
  · refine ic (t_p (pc' := 217) (ls' := [some (.ref 166), some (.int v1), u2, u3]) (st' := [.ref 166]) 1 rfl) ?_
    refine ic (t_gI rfl rfl) ?_
    refine i_cg (t_feq rfl) ?_ ?_
    · exact ic (t_p (pc' := 227) (ls' := [some (.ref 166), some (.int v1), some (.int (1 : Int32)), u3]) (st' := []) 2 rfl) id
    · refine ic (t_p (pc' := 224) (ls' := [some (.ref 166), some (.int v1), u2, u3]) (st' := [.int (0 : Int32)]) 1 rfl) ?_
      exact ic (t_rI rfl) id
set_option maxRecDepth 20000 in
theorem ib_M_canonical_227 {X : pm_X} {d : Nat} {I : st_I} {J : st_J}  {v1 : Int32} {v2 : Int32} {u3 : Option Value} {c k : Nat} (r : pm_R) : (if v2 < (4 : Int32) then ((pm_in v2 4) = true ∧ Gx X (d + 4) (kc_M_canonical, []) (227, [some (.ref 166), some (.int v1), some (.int (v2 + (1 : Int32))), u3], [], st_h (st_w I 170 (Int32.toNatClampNeg v2) (0 : Int32)) (st_lz J (Int32.toNatClampNeg v2) 64), c, k) r) else Gx X (d + 4) (kc_M_canonical, []) (252, [some (.ref 166), some (.int v1), some (.int (0 : Int32)), u3], [], st_h (st_w I 170 0 v1) (st_lz J 0 64), c, k) r) → Gx X (d + 4) (kc_M_canonical, []) (227, [some (.ref 166), some (.int v1), some (.int v2), u3], [], st_h I J, c, k) r := by
  refine ic (t_p (pc' := 229) (ls' := [some (.ref 166), some (.int v1), some (.int v2), u3]) (st' := [.int (4 : Int32), .int v2]) 2 rfl) ?_
  refine i_cg (t_ige rfl) ?_ ?_
  · refine ic (t_p (pc' := 235) (ls' := [some (.ref 166), some (.int v1), some (.int v2), u3]) (st' := [.int (0 : Int32), .int v2, .ref 166]) 3 rfl) ?_
    refine ip (i_cW rfl rfl rfl rfl (fun q => hc_M_lay (d := d + 3)  q)) ?_
    refine i_an (ex_a) (fun h3 => ?_)
    refine ic (ex_q) ?_
    exact ic (t_p (pc' := 227) (ls' := [some (.ref 166), some (.int v1), some (.int (v2 + (1 : Int32))), u3]) (st' := []) 2 rfl) id
  · refine ic (t_p (pc' := 247) (ls' := [some (.ref 166), some (.int v1), some (.int v2), u3]) (st' := [.int v1, .int (0 : Int32), .ref 166]) 3 rfl) ?_
    refine ip (i_cW rfl rfl rfl rfl (fun q => hc_M_lay (d := d + 3)  q)) ?_
    refine ic (ex_a.trans (and_t (show (pm_in (0 : Int32) 4) = true from rfl))) ?_
    refine ic (ex_q) ?_
    exact ic (t_p (pc' := 252) (ls' := [some (.ref 166), some (.int v1), some (.int (0 : Int32)), u3]) (st' := []) 2 rfl) id
set_option maxRecDepth 20000 in
theorem ib_M_canonical_252 {X : pm_X} {d : Nat} {I : st_I} {J : st_J}  {v1 : Int32} {v2 : Int32} {u3 : Option Value} {c k : Nat} (r : pm_R) : (if v2 < v1 then ((pm_in v2 64) = true ∧ ((pm_in v2 256) = true ∧ Gx X (d + 4) (kc_M_canonical, []) (252, [some (.ref 166), some (.int v1), some (.int (v2 + (1 : Int32))), u3], [], st_h I (st_y J 167 (Int32.toNatClampNeg v2) (J 168 (Int32.toNatClampNeg v2))), c, k) r)) else r = (.inl (some (.int v1)), st_h (st_mz (st_w (st_w I 166 6 (1 : Int32)) 166 11 (0 : Int32)) 17) J, c, k)) → Gx X (d + 4) (kc_M_canonical, []) (252, [some (.ref 166), some (.int v1), some (.int v2), u3], [], st_h I J, c, k) r := by
  refine ic (t_p (pc' := 254) (ls' := [some (.ref 166), some (.int v1), some (.int v2), u3]) (st' := [.int v1, .int v2]) 2 rfl) ?_
  refine i_cg (t_ige rfl) ?_ ?_
  · refine ic (t_p (pc' := 258) (ls' := [some (.ref 166), some (.int v1), some (.int v2), u3]) (st' := [.ref 166]) 1 rfl) ?_
    refine ic (t_gR rfl rfl) ?_
    refine ic (t_p (pc' := 263) (ls' := [some (.ref 166), some (.int v1), some (.int v2), u3]) (st' := [.ref 166, .int v2, .ref 167]) 2 rfl) ?_
    refine ic (t_gR rfl rfl) ?_
    refine ic (t_p (pc' := 267) (ls' := [some (.ref 166), some (.int v1), some (.int v2), u3]) (st' := [.int v2, .ref 168, .int v2, .ref 167]) 1 rfl) ?_
    refine i_an (t_lJ rfl rfl) (fun h4 => ?_)
    refine i_an (t_sJ rfl rfl) (fun h5 => ?_)
    exact ic (t_p (pc' := 252) (ls' := [some (.ref 166), some (.int v1), some (.int (v2 + (1 : Int32))), u3]) (st' := []) 2 rfl) id
  · refine ic (t_p (pc' := 277) (ls' := [some (.ref 166), some (.int v1), some (.int v2), u3]) (st' := [.int (1 : Int32), .ref 166]) 2 rfl) ?_
    refine ic (t_pI rfl rfl) ?_
    refine ic (t_p (pc' := 282) (ls' := [some (.ref 166), some (.int v1), some (.int v2), u3]) (st' := [.int (0 : Int32), .ref 166]) 2 rfl) ?_
    refine ic (t_pZ rfl rfl rfl) ?_
    refine ic (t_p (pc' := 286) (ls' := [some (.ref 166), some (.int v1), some (.int v2), u3]) (st' := [.ref 166]) 1 rfl) ?_
    refine ip (i_cW rfl rfl rfl rfl (fun q => hc_M_forget (d := d + 2)  q)) ?_
    refine ic (ex_q) ?_
    refine ic (t_p (pc' := 290) (ls' := [some (.ref 166), some (.int v1), some (.int v2), u3]) (st' := [.int v1]) 1 rfl) ?_
    exact ic (t_rI rfl) id
