theorem ie_Fr_unpack {X : pm_X} {d : Nat} {I : st_I} {J : st_J} {p1 : Nat} (g1 : st_isO p1 = true) (r : pm_R) : Gx X (d + 3) (kc_Fr_unpack, []) (12, [some (.ref 10), some (.ref p1), some (.int (0 : Int32)), none, none, none], [], st_h (st_w (st_w I 10 1 (0 : Int32)) 10 2 (0 : Int32)) J, 0, 0) r → Ex X (d + 4) 143 [.ref 10, .ref p1] (st_h I J) r := by
  refine ic (Ex_iff (M := (kc_Fr_unpack, [])) (n := 6) rfl rfl) ?_
  refine ic (t_p (pc' := 2) (ls' := [some (.ref 10), some (.ref p1), none, none, none, none]) (st' := [.int (0 : Int32), .ref 10]) 2 rfl) ?_
  refine ic (t_pI rfl rfl) ?_
  refine ic (t_p (pc' := 7) (ls' := [some (.ref 10), some (.ref p1), none, none, none, none]) (st' := [.int (0 : Int32), .ref 10]) 2 rfl) ?_
  refine ic (t_pI rfl rfl) ?_
  exact ic (t_p (pc' := 12) (ls' := [some (.ref 10), some (.ref p1), some (.int (0 : Int32)), none, none, none]) (st' := []) 2 rfl) id
set_option maxRecDepth 20000 in
theorem ib_Fr_unpack_12 {X : pm_X} {d : Nat} {I : st_I} {J : st_J} {p1 : Nat} (g1 : st_isO p1 = true) {v2 : Int32} {u3 : Option Value} {u4 : Option Value} {u5 : Option Value} {c k : Nat} (r : pm_R) : (if v2 < (1500 : Int32) then (if (I 10 2) < (I p1 1) then ((pm_in (((I 10 2) + (1 : Int32)) - (1 : Int32)) 1500) = true ∧ ((ngk (st_w I 10 2 ((I 10 2) + (1 : Int32))) p1 (((st_w I 10 2 ((I 10 2) + (1 : Int32))) (p1 + 1) (Int32.toNatClampNeg (((I 10 2) + (1 : Int32)) - (1 : Int32)))) &&& (255 : Int32))) ∧ (om (ngo (st_w I 10 2 ((I 10 2) + (1 : Int32))) p1 (((st_w I 10 2 ((I 10 2) + (1 : Int32))) (p1 + 1) (Int32.toNatClampNeg (((I 10 2) + (1 : Int32)) - (1 : Int32)))) &&& (255 : Int32))) (fun x4 => (if (I 10 1) < (259 : Int32) then ((pm_in (I 10 1) 259) = true ∧ (if (((st_w I 10 2 ((I 10 2) + (1 : Int32))) (p1 + 1) (Int32.toNatClampNeg (((I 10 2) + (1 : Int32)) - (1 : Int32)))) &&& (255 : Int32)) = (0 : Int32) then (if (Int32.ofNat x4.2) < ((st_w (st_w (st_w I 10 2 ((I 10 2) + (1 : Int32))) 10 2 (Int32.ofNat x4.2)) 10 1 ((I 10 1) + (1 : Int32))) p1 1) then ((pm_in (((Int32.ofNat x4.2) + (1 : Int32)) - (1 : Int32)) 1500) = true ∧ Gx X (d + 3) (kc_Fr_unpack, []) (67, [some (.ref 10), some (.ref p1), some (.int v2), some (.int (((st_w I 10 2 ((I 10 2) + (1 : Int32))) (p1 + 1) (Int32.toNatClampNeg (((I 10 2) + (1 : Int32)) - (1 : Int32)))) &&& (255 : Int32))), some (.int (((st_w (st_w (st_w (st_w I 10 2 ((I 10 2) + (1 : Int32))) 10 2 (Int32.ofNat x4.2)) 10 1 ((I 10 1) + (1 : Int32))) 10 2 ((Int32.ofNat x4.2) + (1 : Int32))) (p1 + 1) (Int32.toNatClampNeg (((Int32.ofNat x4.2) + (1 : Int32)) - (1 : Int32)))) &&& (255 : Int32))), some (.int (0 : Int32))], [], st_h (st_w (st_w (st_w (st_w I 10 2 ((I 10 2) + (1 : Int32))) 10 2 (Int32.ofNat x4.2)) 10 1 ((I 10 1) + (1 : Int32))) 10 2 ((Int32.ofNat x4.2) + (1 : Int32))) (st_y J 11 (Int32.toNatClampNeg (I 10 1)) x4.1), c, k) r) else r = (.inr 2, st_h (st_w (st_w (st_w I 10 2 ((I 10 2) + (1 : Int32))) 10 2 (Int32.ofNat x4.2)) 10 1 ((I 10 1) + (1 : Int32))) (st_y J 11 (Int32.toNatClampNeg (I 10 1)) x4.1), c + 1, k + 6)) else (if (((st_w I 10 2 ((I 10 2) + (1 : Int32))) (p1 + 1) (Int32.toNatClampNeg (((I 10 2) + (1 : Int32)) - (1 : Int32)))) &&& (255 : Int32)) = (255 : Int32) then (if (Int32.ofNat x4.2) < ((st_w (st_w (st_w I 10 2 ((I 10 2) + (1 : Int32))) 10 2 (Int32.ofNat x4.2)) 10 1 ((I 10 1) + (1 : Int32))) p1 1) then ((pm_in (((Int32.ofNat x4.2) + (1 : Int32)) - (1 : Int32)) 1500) = true ∧ Gx X (d + 3) (kc_Fr_unpack, []) (67, [some (.ref 10), some (.ref p1), some (.int v2), some (.int (((st_w I 10 2 ((I 10 2) + (1 : Int32))) (p1 + 1) (Int32.toNatClampNeg (((I 10 2) + (1 : Int32)) - (1 : Int32)))) &&& (255 : Int32))), some (.int (((st_w (st_w (st_w (st_w I 10 2 ((I 10 2) + (1 : Int32))) 10 2 (Int32.ofNat x4.2)) 10 1 ((I 10 1) + (1 : Int32))) 10 2 ((Int32.ofNat x4.2) + (1 : Int32))) (p1 + 1) (Int32.toNatClampNeg (((Int32.ofNat x4.2) + (1 : Int32)) - (1 : Int32)))) &&& (255 : Int32))), some (.int (0 : Int32))], [], st_h (st_w (st_w (st_w (st_w I 10 2 ((I 10 2) + (1 : Int32))) 10 2 (Int32.ofNat x4.2)) 10 1 ((I 10 1) + (1 : Int32))) 10 2 ((Int32.ofNat x4.2) + (1 : Int32))) (st_y J 11 (Int32.toNatClampNeg (I 10 1)) x4.1), c, k) r) else r = (.inr 2, st_h (st_w (st_w (st_w I 10 2 ((I 10 2) + (1 : Int32))) 10 2 (Int32.ofNat x4.2)) 10 1 ((I 10 1) + (1 : Int32))) (st_y J 11 (Int32.toNatClampNeg (I 10 1)) x4.1), c + 1, k + 6)) else Gx X (d + 3) (kc_Fr_unpack, []) (12, [some (.ref 10), some (.ref p1), some (.int (v2 + (1 : Int32))), some (.int (((st_w I 10 2 ((I 10 2) + (1 : Int32))) (p1 + 1) (Int32.toNatClampNeg (((I 10 2) + (1 : Int32)) - (1 : Int32)))) &&& (255 : Int32))), u4, u5], [], st_h (st_w (st_w (st_w I 10 2 ((I 10 2) + (1 : Int32))) 10 2 (Int32.ofNat x4.2)) 10 1 ((I 10 1) + (1 : Int32))) (st_y J 11 (Int32.toNatClampNeg (I 10 1)) x4.1), c, k) r))) else r = (.inr 2, st_h (st_w (st_w I 10 2 ((I 10 2) + (1 : Int32))) 10 2 (Int32.ofNat x4.2)) J, c + 1, k + 6))) (r = (.inr 2, st_h (st_w (st_w I 10 2 ((I 10 2) + (1 : Int32))) 10 2 ((st_w I 10 2 ((I 10 2) + (1 : Int32))) p1 1)) J, c + 1, k + 6))))) else r = (.inl none, st_h I J, c, k)) else r = (.inl none, st_h I J, c, k)) → Gx X (d + 3) (kc_Fr_unpack, []) (12, [some (.ref 10), some (.ref p1), some (.int v2), u3, u4, u5], [], st_h I J, c, k) r := by
  refine ic (t_p (pc' := 16) (ls' := [some (.ref 10), some (.ref p1), some (.int v2), u3, u4, u5]) (st' := [.int (1500 : Int32), .int v2]) 2 rfl) ?_
  refine i_cg (t_ige rfl) ?_ ?_
  · refine ic (t_p (pc' := 20) (ls' := [some (.ref 10), some (.ref p1), some (.int v2), u3, u4, u5]) (st' := [.ref 10]) 1 rfl) ?_
    refine ic (t_gI rfl rfl) ?_
    refine ic (t_p (pc' := 24) (ls' := [some (.ref 10), some (.ref p1), some (.int v2), u3, u4, u5]) (st' := [.ref p1, .int (I 10 2)]) 1 rfl) ?_
    refine ic (t_gI rfl (sfO g1)) ?_
    refine i_cgd (t_ige rfl) (fun h62 => ?_) (fun h62 => ?_)
    · refine ic (t_p (pc' := 32) (ls' := [some (.ref 10), some (.ref p1), some (.int v2), u3, u4, u5]) (st' := [.ref p1, .ref 10]) 2 rfl) ?_
      refine ic (t_cW rfl rfl rfl rfl (fun q => ev_Fr_nextOctet (d := d + 1) g1 q)) ?_
      refine i_cgT (ex_i) h62 ?_
      refine i_an (ex_a) (fun h63 => ?_)
      refine ic (ex_q) ?_
      refine ic (t_p (pc' := 40) (ls' := [some (.ref 10), some (.ref p1), some (.int v2), some (.int (((st_w I 10 2 ((I 10 2) + (1 : Int32))) (p1 + 1) (Int32.toNatClampNeg (((I 10 2) + (1 : Int32)) - (1 : Int32)))) &&& (255 : Int32))), u4, u5]) (st' := [.int (((st_w I 10 2 ((I 10 2) + (1 : Int32))) (p1 + 1) (Int32.toNatClampNeg (((I 10 2) + (1 : Int32)) - (1 : Int32)))) &&& (255 : Int32)), .ref p1, .ref 10, .ref 10]) 5 rfl) ?_
      refine ip (i_cW rfl rfl rfl rfl (fun q => hc_Fr_nextGroup (d := d) g1 q)) ?_
      refine i_an (ex_a) (fun h64 => ?_)
      refine i_cgo ex_o (fun x4 => ?_) ?_
      · refine ic (ex_q) ?_
        refine ic (t_cW rfl rfl rfl rfl (fun q => ev_Fr_addGroup (d := d + 1)  q)) ?_
        refine i_cg (ex_i) ?_ ?_
        · refine i_an (ex_a) (fun h66 => ?_)
          refine ic (ex_q) ?_
          refine ic (t_p (pc' := 47) (ls' := [some (.ref 10), some (.ref p1), some (.int v2), some (.int (((st_w I 10 2 ((I 10 2) + (1 : Int32))) (p1 + 1) (Int32.toNatClampNeg (((I 10 2) + (1 : Int32)) - (1 : Int32)))) &&& (255 : Int32))), u4, u5]) (st' := [.int (((st_w I 10 2 ((I 10 2) + (1 : Int32))) (p1 + 1) (Int32.toNatClampNeg (((I 10 2) + (1 : Int32)) - (1 : Int32)))) &&& (255 : Int32))]) 1 rfl) ?_
          refine i_cg (t_feq rfl) ?_ ?_
          · refine ic (t_p (pc' := 59) (ls' := [some (.ref 10), some (.ref p1), some (.int v2), some (.int (((st_w I 10 2 ((I 10 2) + (1 : Int32))) (p1 + 1) (Int32.toNatClampNeg (((I 10 2) + (1 : Int32)) - (1 : Int32)))) &&& (255 : Int32))), u4, u5]) (st' := [.ref p1, .ref 10]) 2 rfl) ?_
            refine ic (t_cW rfl rfl rfl rfl (fun q => ev_Fr_nextOctet (d := d + 1) g1 q)) ?_
            refine i_cg (ex_i) ?_ ?_
            · refine i_an (ex_a) (fun h76 => ?_)
              refine ic (ex_q) ?_
              exact ic (t_p (pc' := 67) (ls' := [some (.ref 10), some (.ref p1), some (.int v2), some (.int (((st_w I 10 2 ((I 10 2) + (1 : Int32))) (p1 + 1) (Int32.toNatClampNeg (((I 10 2) + (1 : Int32)) - (1 : Int32)))) &&& (255 : Int32))), some (.int (((st_w (st_w (st_w (st_w I 10 2 ((I 10 2) + (1 : Int32))) 10 2 (Int32.ofNat x4.2)) 10 1 ((I 10 1) + (1 : Int32))) 10 2 ((Int32.ofNat x4.2) + (1 : Int32))) (p1 + 1) (Int32.toNatClampNeg (((Int32.ofNat x4.2) + (1 : Int32)) - (1 : Int32)))) &&& (255 : Int32))), some (.int (0 : Int32))]) (st' := []) 3 rfl) id
            · exact ic (ex_x) id
          · refine ic (t_p (pc' := 54) (ls' := [some (.ref 10), some (.ref p1), some (.int v2), some (.int (((st_w I 10 2 ((I 10 2) + (1 : Int32))) (p1 + 1) (Int32.toNatClampNeg (((I 10 2) + (1 : Int32)) - (1 : Int32)))) &&& (255 : Int32))), u4, u5]) (st' := [.int (255 : Int32), .int (((st_w I 10 2 ((I 10 2) + (1 : Int32))) (p1 + 1) (Int32.toNatClampNeg (((I 10 2) + (1 : Int32)) - (1 : Int32)))) &&& (255 : Int32))]) 2 rfl) ?_
            refine i_cg (t_ine rfl) ?_ ?_
            · refine ic (t_p (pc' := 59) (ls' := [some (.ref 10), some (.ref p1), some (.int v2), some (.int (((st_w I 10 2 ((I 10 2) + (1 : Int32))) (p1 + 1) (Int32.toNatClampNeg (((I 10 2) + (1 : Int32)) - (1 : Int32)))) &&& (255 : Int32))), u4, u5]) (st' := [.ref p1, .ref 10]) 2 rfl) ?_
              refine ic (t_cW rfl rfl rfl rfl (fun q => ev_Fr_nextOctet (d := d + 1) g1 q)) ?_
              refine i_cg (ex_i) ?_ ?_
              · refine i_an (ex_a) (fun h81 => ?_)
                refine ic (ex_q) ?_
                exact ic (t_p (pc' := 67) (ls' := [some (.ref 10), some (.ref p1), some (.int v2), some (.int (((st_w I 10 2 ((I 10 2) + (1 : Int32))) (p1 + 1) (Int32.toNatClampNeg (((I 10 2) + (1 : Int32)) - (1 : Int32)))) &&& (255 : Int32))), some (.int (((st_w (st_w (st_w (st_w I 10 2 ((I 10 2) + (1 : Int32))) 10 2 (Int32.ofNat x4.2)) 10 1 ((I 10 1) + (1 : Int32))) 10 2 ((Int32.ofNat x4.2) + (1 : Int32))) (p1 + 1) (Int32.toNatClampNeg (((Int32.ofNat x4.2) + (1 : Int32)) - (1 : Int32)))) &&& (255 : Int32))), some (.int (0 : Int32))]) (st' := []) 3 rfl) id
              · exact ic (ex_x) id
            · exact ic (t_p (pc' := 12) (ls' := [some (.ref 10), some (.ref p1), some (.int (v2 + (1 : Int32))), some (.int (((st_w I 10 2 ((I 10 2) + (1 : Int32))) (p1 + 1) (Int32.toNatClampNeg (((I 10 2) + (1 : Int32)) - (1 : Int32)))) &&& (255 : Int32))), u4, u5]) (st' := []) 2 rfl) id
        · exact ic (ex_x) id
      · exact ic (ex_x) id
    · exact ic (t_rV rfl) id
  · exact ic (t_rV rfl) id
theorem ib_Fr_unpack_67 {X : pm_X} {d : Nat} {I : st_I} {J : st_J} {p1 : Nat} (g1 : st_isO p1 = true) {v2 : Int32} {v3 : Int32} {v4 : Int32} {v5 : Int32} {c k : Nat} (r : pm_R) : (if v5 < v4 then ((ngk I p1 v3) ∧ (om (ngo I p1 v3) (fun x2 => (if (I 10 1) < (259 : Int32) then ((pm_in (I 10 1) 259) = true ∧ Gx X (d + 3) (kc_Fr_unpack, []) (67, [some (.ref 10), some (.ref p1), some (.int v2), some (.int v3), some (.int v4), some (.int (v5 + (1 : Int32)))], [], st_h (st_w (st_w I 10 2 (Int32.ofNat x2.2)) 10 1 ((I 10 1) + (1 : Int32))) (st_y J 11 (Int32.toNatClampNeg (I 10 1)) x2.1), c, k) r) else r = (.inr 2, st_h (st_w I 10 2 (Int32.ofNat x2.2)) J, c + 1, k + 6))) (r = (.inr 2, st_h (st_w I 10 2 (I p1 1)) J, c + 1, k + 6)))) else Gx X (d + 3) (kc_Fr_unpack, []) (12, [some (.ref 10), some (.ref p1), some (.int (v2 + (1 : Int32))), some (.int v3), some (.int v4), some (.int v5)], [], st_h I J, c, k) r) → Gx X (d + 3) (kc_Fr_unpack, []) (67, [some (.ref 10), some (.ref p1), some (.int v2), some (.int v3), some (.int v4), some (.int v5)], [], st_h I J, c, k) r := by
  refine ic (t_p (pc' := 71) (ls' := [some (.ref 10), some (.ref p1), some (.int v2), some (.int v3), some (.int v4), some (.int v5)]) (st' := [.int v4, .int v5]) 2 rfl) ?_
  refine i_cg (t_ige rfl) ?_ ?_
  · refine ic (t_p (pc' := 78) (ls' := [some (.ref 10), some (.ref p1), some (.int v2), some (.int v3), some (.int v4), some (.int v5)]) (st' := [.int v3, .ref p1, .ref 10, .ref 10]) 4 rfl) ?_
    refine ip (i_cW rfl rfl rfl rfl (fun q => hc_Fr_nextGroup (d := d) g1 q)) ?_
    refine i_an (ex_a) (fun h5 => ?_)
    refine i_cgo ex_o (fun x2 => ?_) ?_
    · refine ic (ex_q) ?_
      refine ic (t_cW rfl rfl rfl rfl (fun q => ev_Fr_addGroup (d := d + 1)  q)) ?_
      refine i_cg (ex_i) ?_ ?_
      · refine i_an (ex_a) (fun h7 => ?_)
        refine ic (ex_q) ?_
        exact ic (t_p (pc' := 67) (ls' := [some (.ref 10), some (.ref p1), some (.int v2), some (.int v3), some (.int v4), some (.int (v5 + (1 : Int32)))]) (st' := []) 2 rfl) id
      · exact ic (ex_x) id
    · exact ic (ex_x) id
  · exact ic (t_p (pc' := 12) (ls' := [some (.ref 10), some (.ref p1), some (.int (v2 + (1 : Int32))), some (.int v3), some (.int v4), some (.int v5)]) (st' := []) 2 rfl) id
