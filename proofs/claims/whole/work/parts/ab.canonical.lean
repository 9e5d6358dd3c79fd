theorem iv_Ca_make {X : pm_X} {d : Nat} {I : st_I} {J : st_J} {o2 : Option (st_I × st_J)} {Z2 : st_I × st_J} {e2 : Prop} [Decidable e2] (r : pm_R) : (((¬ ((0 : Int64) < (0 : Int64))) → (((0 : Int64) < (Int32.toInt64 (I 1 2))) → ((¬ ((0 : Int32) < (0 : Int32))) → (pm_in (Int64.toInt32 (0 : Int64)) 4) = true))) ∧ (if (¬ ((0 : Int64) < (0 : Int64))) ∧ (((0 : Int64) < (Int32.toInt64 (I 1 2))) ∧ ((¬ ((0 : Int32) < (0 : Int32))) ∧ ((0 : Int32) < (I 7 (Int32.toNatClampNeg (Int64.toInt32 (0 : Int64))))))) then ((cpx X d (st_w I 12 1 (1 : Int32)) (st_fl J 13 64 (0 : Int64)) (0 : Int32) (0 : Int32) (0 : Int32) (64 : Int32) o2 Z2 e2) ∧ (om o2 (fun x1 => r = (.inl none, st_h x1.1 x1.2, 0, 0)) ((if e2 then r = (.inr 2, st_h Z2.1 Z2.2, 1, 6) else r = (.inr 3, st_h Z2.1 Z2.2, 1, 6))))) else r = (.inr 2, st_h I J, 1, 6))) → Ex X (d + 5) 152 [.ref 12, .ref 1, .ref 8] (st_h I J) r := by
  refine ic (Ex_iff (M := (kc_Ca_make, [])) (n := 3) rfl rfl) ?_
  refine ic (t_p (pc' := 3) (ls' := [some (.ref 12), some (.ref 1), some (.ref 8)]) (st' := [.int (0 : Int32), .long (0 : Int64), .ref 1]) 3 rfl) ?_
  refine ic (t_cW rfl rfl rfl rfl (fun q => ev_Me_holds (d := d + 3)  q)) ?_
  refine i_an (ex_a) (fun h1 => ?_)
  refine ic (ex_q) ?_
  refine ic (mgI (t_bne rfl) bj_01 (t_p (pc' := 14) (ls' := [some (.ref 12), some (.ref 1), some (.ref 8)]) (st' := [.int (0 : Int32)]) 1 rfl) (t_p (pc' := 14) (ls' := [some (.ref 12), some (.ref 1), some (.ref 8)]) (st' := [.int (1 : Int32)]) 2 rfl)) ?_
  refine ic (t_cQ rfl rfl rfl (fun q => ev_D_malformedIf (d := d + 3)  q)) ?_
  refine i_cg (cgBN (ex_i)) ?_ ?_
  · refine ic (ex_q) ?_
    refine ic (t_p (pc' := 18) (ls' := [some (.ref 12), some (.ref 1), some (.ref 8)]) (st' := [.ref 12]) 1 rfl) ?_
    refine ic (t_gR rfl rfl) ?_
    refine ic (t_p (pc' := 22) (ls' := [some (.ref 12), some (.ref 1), some (.ref 8)]) (st' := [.long (0 : Int64), .ref 13]) 1 rfl) ?_
    refine ip (i_cQ rfl rfl rfl (fun q => hc_JA_fill (d := d + 3) rfl q)) ?_
    refine ic (ex_q) ?_
    refine ic (t_p (pc' := 27) (ls' := [some (.ref 12), some (.ref 1), some (.ref 8)]) (st' := [.int (1 : Int32), .ref 12]) 2 rfl) ?_
    refine ic (t_pI rfl rfl) ?_
    refine ic (t_p (pc' := 38) (ls' := [some (.ref 12), some (.ref 1), some (.ref 8)]) (st' := [.int (64 : Int32), .int (0 : Int32), .int (0 : Int32), .int (0 : Int32), .ref 8, .ref 1, .ref 12]) 7 rfl) ?_
    refine ip (i_cW rfl rfl rfl rfl (fun q => hc_Ca_copy (d := d) (o2 := o2) (Z2 := Z2) (e2 := e2)  q)) ?_
    refine i_an (ex_a) (fun h3 => ?_)
    refine i_cgo ex_o (fun x1 => ?_) ?_
    · refine ic (ex_q) ?_
      exact ic (t_rV rfl) id
    · refine i_cg (ex_i) ?_ ?_
      · exact ic (ex_x) id
      · exact ic (ex_x) id
  · exact ic (ex_x) id
theorem iv_D_canonical {X : pm_X} {d : Nat} {I : st_I} {J : st_J} {o2 : Option (st_I × st_J)} {Z2 : st_I × st_J} {e2 : Prop} [Decidable e2] (r : pm_R) : (((¬ ((0 : Int64) < (0 : Int64))) → (((0 : Int64) < (Int32.toInt64 (I 1 2))) → ((¬ ((0 : Int32) < (0 : Int32))) → (pm_in (Int64.toInt32 (0 : Int64)) 4) = true))) ∧ (if (¬ ((0 : Int64) < (0 : Int64))) ∧ (((0 : Int64) < (Int32.toInt64 (I 1 2))) ∧ ((¬ ((0 : Int32) < (0 : Int32))) ∧ ((0 : Int32) < (I 7 (Int32.toNatClampNeg (Int64.toInt32 (0 : Int64))))))) then ((cpx X d (st_w I 12 1 (1 : Int32)) (st_fl J 13 64 (0 : Int64)) (0 : Int32) (0 : Int32) (0 : Int32) (64 : Int32) o2 Z2 e2) ∧ (om o2 (fun x1 => ((st_cpk (0 : Int32) (0 : Int32) (x1.1 12 1) 64 64) = true ∧ r = (.inl (some (.int ((st_cz (st_w (st_w (st_w (st_w (st_w (st_w (st_w x1.1 7 0 (0 : Int32)) 7 1 (0 : Int32)) 7 2 (0 : Int32)) 7 3 (0 : Int32)) 1 2 (1 : Int32)) 1 3 (0 : Int32)) 7 0 (x1.1 12 1)) 16) 12 1))), st_h (st_cz (st_w (st_w (st_w (st_w (st_w (st_w (st_w x1.1 7 0 (0 : Int32)) 7 1 (0 : Int32)) 7 2 (0 : Int32)) 7 3 (0 : Int32)) 1 2 (1 : Int32)) 1 3 (0 : Int32)) 7 0 (x1.1 12 1)) 16) (st_yr (st_fl (st_fl (st_fl (st_fl x1.2 3 64 (0 : Int64)) 4 64 (0 : Int64)) 5 64 (0 : Int64)) 6 64 (0 : Int64)) 3 (va_cpy ((st_fl (st_fl (st_fl (st_fl x1.2 3 64 (0 : Int64)) 4 64 (0 : Int64)) 5 64 (0 : Int64)) 6 64 (0 : Int64)) 13) ((st_fl (st_fl (st_fl (st_fl x1.2 3 64 (0 : Int64)) 4 64 (0 : Int64)) 5 64 (0 : Int64)) 6 64 (0 : Int64)) 3) 0 0 (Int32.toNatClampNeg (x1.1 12 1)))), 0, 0))) ((if e2 then r = (.inr 2, st_h Z2.1 Z2.2, 1, 6) else r = (.inr 3, st_h Z2.1 Z2.2, 1, 6))))) else r = (.inr 2, st_h I J, 1, 6))) → Ex X (d + 6) 151 [.ref 0] (st_h I J) r := by
  refine ic (Ex_iff (M := (kc_D_canonical, [])) (n := 1) rfl rfl) ?_
  refine ic (t_p (pc' := 1) (ls' := [some (.ref 0)]) (st' := [.ref 0]) 1 rfl) ?_
  refine ic (t_gR rfl rfl) ?_
  refine ic (t_p (pc' := 5) (ls' := [some (.ref 0)]) (st' := [.ref 0, .ref 12]) 1 rfl) ?_
  refine ic (t_gR rfl rfl) ?_
  refine ic (t_p (pc' := 9) (ls' := [some (.ref 0)]) (st' := [.ref 0, .ref 1, .ref 12]) 1 rfl) ?_
  refine ic (t_gR rfl rfl) ?_
  refine ip (i_cW rfl rfl rfl rfl (fun q => iv_Ca_make (d := d) (o2 := o2) (Z2 := Z2) (e2 := e2)  q)) ?_
  refine i_an (ex_a) (fun h1 => ?_)
  refine i_cg (ex_i) ?_ ?_
  · refine i_an (ex_a) (fun h3 => ?_)
    refine i_cgo ex_o (fun x1 => ?_) ?_
    · refine ic (ex_q) ?_
      refine ic (t_p (pc' := 16) (ls' := [some (.ref 0)]) (st' := [.ref 0]) 1 rfl) ?_
      refine ic (t_gR rfl rfl) ?_
      refine ic (t_p (pc' := 20) (ls' := [some (.ref 0)]) (st' := [.int (1 : Int32), .ref 1]) 1 rfl) ?_
      refine ip (i_cW rfl rfl rfl rfl (fun q => hc_Me_renew (d := d + 3)  q)) ?_
      refine ic (ex_q) ?_
      refine ic (t_p (pc' := 24) (ls' := [some (.ref 0)]) (st' := [.ref 0]) 1 rfl) ?_
      refine ic (t_gR rfl rfl) ?_
      refine ic (t_gR rfl rfl) ?_
      refine ic (t_p (pc' := 32) (ls' := [some (.ref 0)]) (st' := [.ref 0, .int (0 : Int32), .ref 7]) 2 rfl) ?_
      refine ic (t_gR rfl rfl) ?_
      refine ic (t_gI rfl rfl) ?_
      refine ic ((t_sI rfl rfl).trans (and_t (rfl : (pm_in (0 : Int32) 4) = true))) ?_
      refine ic (t_p (pc' := 40) (ls' := [some (.ref 0)]) (st' := [.ref 0]) 1 rfl) ?_
      refine ic (t_gR rfl rfl) ?_
      refine ic (t_gR rfl rfl) ?_
      refine ic (t_p (pc' := 48) (ls' := [some (.ref 0)]) (st' := [.ref 0, .int (0 : Int32), .ref 13]) 2 rfl) ?_
      refine ic (t_gR rfl rfl) ?_
      refine ic (t_gR rfl rfl) ?_
      refine ic (t_p (pc' := 55) (ls' := [some (.ref 0)]) (st' := [.int (0 : Int32), .ref 2, .int (0 : Int32), .ref 13]) 1 rfl) ?_
      refine ic ((t_lR1 rfl rfl).trans (and_t (rfl : (pm_in (0 : Int32) 4) = true))) ?_
      refine ic (t_p (pc' := 58) (ls' := [some (.ref 0)]) (st' := [.ref 0, .int (0 : Int32), .ref 3, .int (0 : Int32), .ref 13]) 2 rfl) ?_
      refine ic (t_gR rfl rfl) ?_
      refine ic (t_gI rfl rfl) ?_
      refine i_an (t_cp rfl rfl rfl rfl) (fun h4 => ?_)
      refine ic (t_p (pc' := 68) (ls' := [some (.ref 0)]) (st' := [.ref 0]) 1 rfl) ?_
      refine ip (i_cW rfl rfl rfl rfl (fun q => hc_D_cursorsToNothing (d := d + 2)  q)) ?_
      refine ic (ex_q) ?_
      refine ic (t_p (pc' := 72) (ls' := [some (.ref 0)]) (st' := [.ref 0]) 1 rfl) ?_
      refine ic (t_gR rfl rfl) ?_
      refine ic (t_gI rfl rfl) ?_
      exact ic (t_rI rfl) id
    · refine i_cg (ex_i) ?_ ?_
      · exact ic (ex_x) id
      · exact ic (ex_x) id
  · exact ic (ex_x) id
set_option maxRecDepth 20000 in
theorem iv_L_canonical {X : pm_X} {d : Nat} {I : st_I} {J : st_J} {o2 : Option (st_I × st_J)} {Z2 : st_I × st_J} {e2 : Prop} [Decidable e2] (r : pm_R) : (((¬ ((0 : Int64) < (0 : Int64))) → (((0 : Int64) < (Int32.toInt64 (I 1 2))) → ((¬ ((0 : Int32) < (0 : Int32))) → (pm_in (Int64.toInt32 (0 : Int64)) 4) = true))) ∧ (if (¬ ((0 : Int64) < (0 : Int64))) ∧ (((0 : Int64) < (Int32.toInt64 (I 1 2))) ∧ ((¬ ((0 : Int32) < (0 : Int32))) ∧ ((0 : Int32) < (I 7 (Int32.toNatClampNeg (Int64.toInt32 (0 : Int64))))))) then ((cpx X d (st_w I 12 1 (1 : Int32)) (st_fl J 13 64 (0 : Int64)) (0 : Int32) (0 : Int32) (0 : Int32) (64 : Int32) o2 Z2 e2) ∧ (om o2 (fun x1 => ((st_cpk (0 : Int32) (0 : Int32) (x1.1 12 1) 64 64) = true ∧ r = (.inl (some (.int (0 : Int32))), st_h (st_cz (st_w (st_w (st_w (st_w (st_w (st_w (st_w x1.1 7 0 (0 : Int32)) 7 1 (0 : Int32)) 7 2 (0 : Int32)) 7 3 (0 : Int32)) 1 2 (1 : Int32)) 1 3 (0 : Int32)) 7 0 (x1.1 12 1)) 16) (st_y (st_yr (st_fl (st_fl (st_fl (st_fl x1.2 3 64 (0 : Int64)) 4 64 (0 : Int64)) 5 64 (0 : Int64)) 6 64 (0 : Int64)) 3 (va_cpy ((st_fl (st_fl (st_fl (st_fl x1.2 3 64 (0 : Int64)) 4 64 (0 : Int64)) 5 64 (0 : Int64)) 6 64 (0 : Int64)) 13) ((st_fl (st_fl (st_fl (st_fl x1.2 3 64 (0 : Int64)) 4 64 (0 : Int64)) 5 64 (0 : Int64)) 6 64 (0 : Int64)) 3) 0 0 (Int32.toNatClampNeg (x1.1 12 1)))) 187 0 (Int32.toInt64 ((st_cz (st_w (st_w (st_w (st_w (st_w (st_w (st_w x1.1 7 0 (0 : Int32)) 7 1 (0 : Int32)) 7 2 (0 : Int32)) 7 3 (0 : Int32)) 1 2 (1 : Int32)) 1 3 (0 : Int32)) 7 0 (x1.1 12 1)) 16) 12 1))), 0, 0))) (r = (.inl (some (.int (if e2 then (1 : Int32) else (2 : Int32)))), st_h Z2.1 Z2.2, 1, 6)))) else r = (.inl (some (.int (1 : Int32))), st_h I J, 1, 6))) → Ex X (d + 7) 150 [.ref 0, .ref 187] (st_h I J) r := by
  refine ic (Ex_iff (M := (kc_L_canonical, [(0, 8, 12, 2, 2), (0, 8, 15, 3, 2)])) (n := 3) rfl rfl) ?_
  refine ic (t_p (pc' := 3) (ls' := [some (.ref 0), some (.ref 187), none]) (st' := [.ref 0, .int (0 : Int32), .ref 187]) 3 rfl) ?_
  refine ip (i_cW rfl rfl rfl rfl (fun q => iv_D_canonical (d := d) (o2 := o2) (Z2 := Z2) (e2 := e2)  q)) ?_
  refine i_an (ex_a) (fun h1 => ?_)
  refine i_cg (ex_i) ?_ ?_
  · refine i_an (ex_a) (fun h3 => ?_)
    refine i_cgo ex_o (fun x1 => ?_) ?_
    · refine i_an (ex_a) (fun h4 => ?_)
      refine ic (ex_q) ?_
      refine ic (t_p (pc' := 7) (ls' := [some (.ref 0), some (.ref 187), none]) (st' := [.long (Int32.toInt64 ((st_cz (st_w (st_w (st_w (st_w (st_w (st_w (st_w x1.1 7 0 (0 : Int32)) 7 1 (0 : Int32)) 7 2 (0 : Int32)) 7 3 (0 : Int32)) 1 2 (1 : Int32)) 1 3 (0 : Int32)) 7 0 (x1.1 12 1)) 16) 12 1)), .int (0 : Int32), .ref 187]) 1 rfl) ?_
      refine ic ((t_sJ rfl rfl).trans (and_t (rfl : (pm_in (0 : Int32) 1) = true))) ?_
      refine ic (t_p (pc' := 18) (ls' := [some (.ref 0), some (.ref 187), none]) (st' := [.int (0 : Int32)]) 2 rfl) ?_
      exact ic (t_rI rfl) id
    · refine i_drgI (x := (1 : Int32)) (y := (2 : Int32)) (ex_i) rfl (fun _ => ?_) (fun _ => ?_)
      · refine ic (ex_h rfl) ?_
        refine ic (t_p (pc' := 13) (ls' := [some (.ref 0), some (.ref 187), none]) (st' := [.int (1 : Int32)]) 1 rfl) ?_
        exact ic (t_rI rfl) id
      · refine ic (ex_h rfl) ?_
        refine ic (t_p (pc' := 16) (ls' := [some (.ref 0), some (.ref 187), none]) (st' := [.int (2 : Int32)]) 1 rfl) ?_
        exact ic (t_rI rfl) id
  · refine ic (ex_h rfl) ?_
    refine ic (t_p (pc' := 13) (ls' := [some (.ref 0), some (.ref 187), none]) (st' := [.int (1 : Int32)]) 1 rfl) ?_
    exact ic (t_rI rfl) id
