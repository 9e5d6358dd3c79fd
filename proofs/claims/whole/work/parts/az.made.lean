/-! .. and the two objects -/
theorem hc_0 {n : Nat} {e : va_E} (hn : 145 ≤ n) (hn2 : n ≤ 145) (he : pm_cE n e = true) : hcl n (ov G0 0 e) := cl_1 (by omega) he (fun i hi h0 => ndn_b hi hn (by omega) (by omega) (by omega) (by omega) (by omega) (by omega))
theorem hc_2 {n : Nat} {e : va_E} (hn : n = 146 ∨ n = 148) (he : pm_cE n e = true) : hcl n (ov (ov G0 145 (arc 6 16 150 1 0)) 0 e) := cl_2 (by omega) (arc_c (fun j hj => by omega)) he (fun i hi h0 h1 => ndn_b hi (by omega) (by omega) (by omega) (by omega) (by omega) (by omega) (by omega))
theorem hc_3 {n : Nat} {e e' : va_E} (hn : n = 146 ∨ n = 148) (he : pm_cE (n + 1) e = true) (he' : pm_cE (n + 1) e' = true) : hcl (n + 1) (ov (ov (ov G0 145 (arc 6 16 150 1 0)) 0 e) n e') := cl_3 (by omega) (arc_c (fun j hj => by omega)) he he' (fun i hi h0 h1 h2 => ndn_b hi (by omega) (by omega) (by omega) (by omega) (by omega) (by omega) (by omega))
theorem hc_m {n : Nat} {e : va_E} (hn : 167 ≤ n) (hn2 : n ≤ 189) (he : pm_cE n e = true) : hcl n (ov G0 166 e) := cl_1 (by omega) he (fun i hi h0 => ndn_b hi (by omega) (by omega) (by omega) (by omega) (by omega) (by omega) (by omega))
set_option maxRecDepth 4000 in
theorem mk_D {X : pm_X} {d : Nat} : Ex X (d + 4) 0 [.ref 0] (hm 1 (ov G0 0 od1)) (.inl none, hm 166 G0, 165, 4937) := by
  refine (Ex_iff (M := (kc_D_init, [])) (n := 2) rfl rfl).mpr ?_
  refine (t_p (pc' := 1) (ls' := [some (.ref 0), none]) (st' := [.ref 0]) 1 rfl).mpr ?_
  refine (m_ob rfl rfl).mpr ?_
  refine (t_p (pc' := 5) (ls' := [some (.ref 0), none]) (st' := [.ref 0]) 1 rfl).mpr ?_
  refine (m_no rfl (by decide +kernel)).mpr ?_
  refine (t_p (pc' := 9) (ls' := [some (.ref 0), none]) (st' := [.ref 1, .ref 1, .ref 0]) 1 rfl).mpr ?_
  refine m_ci (fs := pc_Dv 1) rfl rfl (by decide +kernel) (by omega) (by rfl) mk_Me ?_
  refine (m_pv rfl (by omega) rfl rfl).mpr ?_
  show Gx X (d + 3) (kc_D_init, []) (15, [some (.ref 0), none], [], hm 8 (ov G0 0 od2), 7, 268) _
  refine (t_p (pc' := 16) (ls' := [some (.ref 0), none]) (st' := [.ref 0]) 1 rfl).mpr ?_
  refine (m_no rfl (by decide +kernel)).mpr ?_
  refine (t_p (pc' := 20) (ls' := [some (.ref 0), none]) (st' := [.ref 8, .ref 8, .ref 0]) 1 rfl).mpr ?_
  refine m_ci (fs := pc_Dv 2) rfl rfl rfl (by omega) (by rfl) mk_Re ?_
  refine (m_pv rfl (by omega) rfl rfl).mpr ?_
  show Gx X (d + 3) (kc_D_init, []) (26, [some (.ref 0), none], [], hm 9 (ov G0 0 od3), 8, 272) _
  refine (t_p (pc' := 27) (ls' := [some (.ref 0), none]) (st' := [.ref 0]) 1 rfl).mpr ?_
  refine (m_no rfl (by decide +kernel)).mpr ?_
  rw [ov_id (f := ov G0 0 od3) (a := 9) (e := .inr (3, pc_Dv 3)) (by rfl)]
  refine (t_p (pc' := 31) (ls' := [some (.ref 0), none]) (st' := [.ref 9, .ref 9, .ref 0]) 1 rfl).mpr ?_
  refine m_ci (fs := pc_Dv 3) rfl rfl rfl (by omega) (by rfl) mk_Bu ?_
  refine (m_pv (fs := [.ref 1, .ref 8, .null, .null, .null, .null, .null, .null]) rfl (by omega) rfl rfl).mpr ?_
  show Gx X (d + 3) (kc_D_init, []) (37, [some (.ref 0), none], [], hm 10 (ov G0 0 od4), 9, 274) _
  refine (t_p (pc' := 38) (ls' := [some (.ref 0), none]) (st' := [.ref 0]) 1 rfl).mpr ?_
  refine (m_no rfl (by decide +kernel)).mpr ?_
  refine (t_p (pc' := 42) (ls' := [some (.ref 0), none]) (st' := [.ref 10, .ref 10, .ref 0]) 1 rfl).mpr ?_
  refine m_ci (fs := pc_Dv 4) rfl rfl (by decide +kernel) (by omega) (by rfl) mk_Fr ?_
  refine (m_pv (fs := [.ref 1, .ref 8, .ref 9, .null, .null, .null, .null, .null]) rfl (by omega) rfl rfl).mpr ?_
  show Gx X (d + 3) (kc_D_init, []) (48, [some (.ref 0), none], [], hm 12 (ov G0 0 od5), 11, 536) _
  refine (t_p (pc' := 49) (ls' := [some (.ref 0), none]) (st' := [.ref 0]) 1 rfl).mpr ?_
  refine (m_no rfl (by decide +kernel)).mpr ?_
  refine (t_p (pc' := 53) (ls' := [some (.ref 0), none]) (st' := [.ref 12, .ref 12, .ref 0]) 1 rfl).mpr ?_
  refine m_ci (fs := pc_Dv 5) rfl rfl (by decide +kernel) (by omega) (by rfl) mk_Ca ?_
  refine (m_pv (fs := [.ref 1, .ref 8, .ref 9, .ref 10, .null, .null, .null, .null]) rfl (by omega) rfl rfl).mpr ?_
  show Gx X (d + 3) (kc_D_init, []) (59, [some (.ref 0), none], [], hm 145 (ov G0 0 od6), 144, 1773) _
  refine (t_p (pc' := 62) (ls' := [some (.ref 0), none]) (st' := [.int (16 : Int32), .ref 0]) 2 rfl).mpr ?_
  refine (m_na (m := 16) rfl (Or.inr ⟨_, rfl⟩) (hcl_c (hc_0 (by omega) (by omega) rfl) rfl rfl) rfl (by omega)).mpr ?_
  rw [ov_c G0 (a := 0) (b := 145) _ _ (by omega)]
  refine (m_pv rfl (by omega) rfl rfl).mpr ?_
  show Gx X (d + 3) (kc_D_init, []) (68, [some (.ref 0), none], [], hm 146 (ov (ov G0 145 (arc 6 16 150 1 0)) 0 od7), 145, 1789) _
  refine (t_p (pc' := 69) (ls' := [some (.ref 0), none]) (st' := [.ref 0]) 1 rfl).mpr ?_
  refine (m_no rfl (hcl_c (hc_2 (Or.inl rfl) rfl) rfl rfl)).mpr ?_
  refine (t_p (pc' := 73) (ls' := [some (.ref 0), none]) (st' := [.ref 146, .ref 146, .ref 0]) 1 rfl).mpr ?_
  refine m_ci (fs := pc_Dv 8) rfl rfl (hcl_c (hc_3 (n := 146) (Or.inl rfl) rfl rfl) rfl rfl) (by omega) (by rfl) (mk_Oc (F := ov (ov G0 145 (arc 6 16 150 1 0)) 0 od7) (a := 146) (hcl_c (hc_3 (n := 146) (Or.inl rfl) rfl rfl) rfl rfl) rfl rfl) ?_
  refine (m_pv (fs := [.ref 1, .ref 8, .ref 9, .ref 10, .ref 12, .ref 145, .null, .null]) rfl (by omega) rfl rfl).mpr ?_
  show Gx X (d + 3) (kc_D_init, []) (79, [some (.ref 0), none], [], hm 148 (ov (ov G0 145 (arc 6 16 150 1 0)) 0 od8), 147, 3291) _
  refine (t_p (pc' := 80) (ls' := [some (.ref 0), none]) (st' := [.ref 0]) 1 rfl).mpr ?_
  refine (m_no rfl (hcl_c (hc_2 (Or.inr rfl) rfl) rfl rfl)).mpr ?_
  refine (t_p (pc' := 84) (ls' := [some (.ref 0), none]) (st' := [.ref 148, .ref 148, .ref 0]) 1 rfl).mpr ?_
  refine m_ci (fs := pc_Dv 8) rfl rfl (hcl_c (hc_3 (n := 148) (Or.inr rfl) rfl rfl) rfl rfl) (by omega) (by rfl) (mk_Oc (F := ov (ov G0 145 (arc 6 16 150 1 0)) 0 od8) (a := 148) (hcl_c (hc_3 (n := 148) (Or.inr rfl) rfl rfl) rfl rfl) rfl rfl) ?_
  refine (m_pv (fs := [.ref 1, .ref 8, .ref 9, .ref 10, .ref 12, .ref 145, .ref 146, .null]) rfl (by omega) rfl rfl).mpr ?_
  show Gx X (d + 3) (kc_D_init, []) (90, [some (.ref 0), none], [], hm 150 (ov (ov G0 145 (arc 6 16 150 1 0)) 0 (G0 0)), 149, 4793) _
  rw [ov_id (f := ov G0 145 (arc 6 16 150 1 0)) (a := 0) (by rfl)]
  refine (t_p (pc' := 92) (ls' := [some (.ref 0), some (.int (Int32.ofNat 0))]) (st' := []) 2 rfl).mpr ?_
  exact lp_D (d := d + 2) 16 0 (by omega) 149 4793
set_option maxRecDepth 4000 in
theorem mk_M {X : pm_X} {d : Nat} : Ex X (d + 1) 168 [.ref 166] (hm 167 (ov G0 166 (.inr (9, pc_Dv 9)))) (.inl none, hm 187 G0, 20, 5214) := by
  refine (Ex_iff (M := (kc_M_init, [])) (n := 1) rfl rfl).mpr ?_
  refine (t_p (pc' := 1) (ls' := [some (.ref 166)]) (st' := [.ref 166]) 1 rfl).mpr ?_
  refine (m_ob rfl rfl).mpr ?_
  refine (t_p (pc' := 8) (ls' := [some (.ref 166)]) (st' := [.int (256 : Int32), .ref 166]) 2 rfl).mpr ?_
  refine (m_ni (m := 256) rfl (Or.inl ⟨_, rfl⟩) (hcl_c (hc_m (by omega) (by omega) rfl) rfl rfl) rfl (by omega) (by rfl)).mpr ?_
  refine (m_pv (fs := [.null, .null, .null, .null, .null, .null, .int 0, .int 0, .int 0, .int 0, .int 0, .int 0, .null, .null, .null, .null, .null, .null, .null, .null, .null, .null, .null, .null, .null, .null, .int 0]) rfl (by omega) rfl rfl).mpr ?_
  refine (t_p (pc' := 16) (ls' := [some (.ref 166)]) (st' := [.int (64 : Int32), .ref 166]) 2 rfl).mpr ?_
  refine (m_ni (m := 64) rfl (Or.inl ⟨_, rfl⟩) (hcl_c (hc_m (by omega) (by omega) rfl) rfl rfl) rfl (by omega) (by rfl)).mpr ?_
  refine (m_pv (fs := [.ref 167, .null, .null, .null, .null, .null, .int 0, .int 0, .int 0, .int 0, .int 0, .int 0, .null, .null, .null, .null, .null, .null, .null, .null, .null, .null, .null, .null, .null, .null, .int 0]) rfl (by omega) rfl rfl).mpr ?_
  refine (t_p (pc' := 25) (ls' := [some (.ref 166)]) (st' := [.int (300 : Int32), .ref 166]) 2 rfl).mpr ?_
  refine (m_ni (m := 300) rfl (Or.inl ⟨_, rfl⟩) (hcl_c (hc_m (by omega) (by omega) rfl) rfl rfl) rfl (by omega) (by rfl)).mpr ?_
  refine (m_pv (fs := [.ref 167, .ref 168, .null, .null, .null, .null, .int 0, .int 0, .int 0, .int 0, .int 0, .int 0, .null, .null, .null, .null, .null, .null, .null, .null, .null, .null, .null, .null, .null, .null, .int 0]) rfl (by omega) rfl rfl).mpr ?_
  refine (t_p (pc' := 32) (ls' := [some (.ref 166)]) (st' := [.int (4 : Int32), .ref 166]) 2 rfl).mpr ?_
  refine (m_ni (m := 4) rfl (Or.inl ⟨_, rfl⟩) (hcl_c (hc_m (by omega) (by omega) rfl) rfl rfl) rfl (by omega) (by rfl)).mpr ?_
  refine (m_pv (fs := [.ref 167, .ref 168, .ref 169, .null, .null, .null, .int 0, .int 0, .int 0, .int 0, .int 0, .int 0, .null, .null, .null, .null, .null, .null, .null, .null, .null, .null, .null, .null, .null, .null, .int 0]) rfl (by omega) rfl rfl).mpr ?_
  refine (t_p (pc' := 41) (ls' := [some (.ref 166)]) (st' := [.int (1500 : Int32), .ref 166]) 2 rfl).mpr ?_
  refine (m_ni (m := 1500) rfl (Or.inl ⟨_, rfl⟩) (hcl_c (hc_m (by omega) (by omega) rfl) rfl rfl) rfl (by omega) (by rfl)).mpr ?_
  refine (m_pv (fs := [.ref 167, .ref 168, .ref 169, .ref 170, .null, .null, .int 0, .int 0, .int 0, .int 0, .int 0, .int 0, .null, .null, .null, .null, .null, .null, .null, .null, .null, .null, .null, .null, .null, .null, .int 0]) rfl (by omega) rfl rfl).mpr ?_
  refine (t_p (pc' := 50) (ls' := [some (.ref 166)]) (st' := [.int (2600 : Int32), .ref 166]) 2 rfl).mpr ?_
  refine (m_ni (m := 2600) rfl (Or.inl ⟨_, rfl⟩) (hcl_c (hc_m (by omega) (by omega) rfl) rfl rfl) rfl (by omega) (by rfl)).mpr ?_
  refine (m_pv (fs := [.ref 167, .ref 168, .ref 169, .ref 170, .ref 171, .null, .int 0, .int 0, .int 0, .int 0, .int 0, .int 0, .null, .null, .null, .null, .null, .null, .null, .null, .null, .null, .null, .null, .null, .null, .int 0]) rfl (by omega) rfl rfl).mpr ?_
  refine (t_p (pc' := 57) (ls' := [some (.ref 166)]) (st' := [.int (1 : Int32), .ref 166]) 2 rfl).mpr ?_
  refine (m_pv (fs := [.ref 167, .ref 168, .ref 169, .ref 170, .ref 171, .ref 172, .int 0, .int 0, .int 0, .int 0, .int 0, .int 0, .null, .null, .null, .null, .null, .null, .null, .null, .null, .null, .null, .null, .null, .null, .int 0]) rfl (by omega) rfl rfl).mpr ?_
  refine (t_p (pc' := 64) (ls' := [some (.ref 166)]) (st' := [.int (1000 : Int32), .ref 166]) 2 rfl).mpr ?_
  refine (m_pv (fs := [.ref 167, .ref 168, .ref 169, .ref 170, .ref 171, .ref 172, .int 1, .int 0, .int 0, .int 0, .int 0, .int 0, .null, .null, .null, .null, .null, .null, .null, .null, .null, .null, .null, .null, .null, .null, .int 0]) rfl (by omega) rfl rfl).mpr ?_
  refine (t_p (pc' := 70) (ls' := [some (.ref 166)]) (st' := [.int (17 : Int32), .ref 166]) 2 rfl).mpr ?_
  refine (m_ni (m := 17) rfl (Or.inl ⟨_, rfl⟩) (hcl_c (hc_m (by omega) (by omega) rfl) rfl rfl) rfl (by omega) (by rfl)).mpr ?_
  refine (m_pv (fs := [.ref 167, .ref 168, .ref 169, .ref 170, .ref 171, .ref 172, .int 1, .int 0, .int 1000, .int 0, .int 0, .int 0, .null, .null, .null, .null, .null, .null, .null, .null, .null, .null, .null, .null, .null, .null, .int 0]) rfl (by omega) rfl rfl).mpr ?_
  refine (t_p (pc' := 78) (ls' := [some (.ref 166)]) (st' := [.int (17 : Int32), .ref 166]) 2 rfl).mpr ?_
  refine (m_ni (m := 17) rfl (Or.inl ⟨_, rfl⟩) (hcl_c (hc_m (by omega) (by omega) rfl) rfl rfl) rfl (by omega) (by rfl)).mpr ?_
  refine (m_pv (fs := [.ref 167, .ref 168, .ref 169, .ref 170, .ref 171, .ref 172, .int 1, .int 0, .int 1000, .int 0, .int 0, .int 0, .ref 173, .null, .null, .null, .null, .null, .null, .null, .null, .null, .null, .null, .null, .null, .int 0]) rfl (by omega) rfl rfl).mpr ?_
  refine (t_p (pc' := 86) (ls' := [some (.ref 166)]) (st' := [.int (17 : Int32), .ref 166]) 2 rfl).mpr ?_
  refine (m_ni (m := 17) rfl (Or.inl ⟨_, rfl⟩) (hcl_c (hc_m (by omega) (by omega) rfl) rfl rfl) rfl (by omega) (by rfl)).mpr ?_
  refine (m_pv (fs := [.ref 167, .ref 168, .ref 169, .ref 170, .ref 171, .ref 172, .int 1, .int 0, .int 1000, .int 0, .int 0, .int 0, .ref 173, .ref 174, .null, .null, .null, .null, .null, .null, .null, .null, .null, .null, .null, .null, .int 0]) rfl (by omega) rfl rfl).mpr ?_
  refine (t_p (pc' := 94) (ls' := [some (.ref 166)]) (st' := [.int (17 : Int32), .ref 166]) 2 rfl).mpr ?_
  refine (m_ni (m := 17) rfl (Or.inl ⟨_, rfl⟩) (hcl_c (hc_m (by omega) (by omega) rfl) rfl rfl) rfl (by omega) (by rfl)).mpr ?_
  refine (m_pv (fs := [.ref 167, .ref 168, .ref 169, .ref 170, .ref 171, .ref 172, .int 1, .int 0, .int 1000, .int 0, .int 0, .int 0, .ref 173, .ref 174, .ref 175, .null, .null, .null, .null, .null, .null, .null, .null, .null, .null, .null, .int 0]) rfl (by omega) rfl rfl).mpr ?_
  refine (t_p (pc' := 102) (ls' := [some (.ref 166)]) (st' := [.int (17 : Int32), .ref 166]) 2 rfl).mpr ?_
  refine (m_ni (m := 17) rfl (Or.inl ⟨_, rfl⟩) (hcl_c (hc_m (by omega) (by omega) rfl) rfl rfl) rfl (by omega) (by rfl)).mpr ?_
  refine (m_pv (fs := [.ref 167, .ref 168, .ref 169, .ref 170, .ref 171, .ref 172, .int 1, .int 0, .int 1000, .int 0, .int 0, .int 0, .ref 173, .ref 174, .ref 175, .ref 176, .null, .null, .null, .null, .null, .null, .null, .null, .null, .null, .int 0]) rfl (by omega) rfl rfl).mpr ?_
  refine (t_p (pc' := 110) (ls' := [some (.ref 166)]) (st' := [.int (17 : Int32), .ref 166]) 2 rfl).mpr ?_
  refine (m_ni (m := 17) rfl (Or.inl ⟨_, rfl⟩) (hcl_c (hc_m (by omega) (by omega) rfl) rfl rfl) rfl (by omega) (by rfl)).mpr ?_
  refine (m_pv (fs := [.ref 167, .ref 168, .ref 169, .ref 170, .ref 171, .ref 172, .int 1, .int 0, .int 1000, .int 0, .int 0, .int 0, .ref 173, .ref 174, .ref 175, .ref 176, .ref 177, .null, .null, .null, .null, .null, .null, .null, .null, .null, .int 0]) rfl (by omega) rfl rfl).mpr ?_
  refine (t_p (pc' := 118) (ls' := [some (.ref 166)]) (st' := [.int (17 : Int32), .ref 166]) 2 rfl).mpr ?_
  refine (m_ni (m := 17) rfl (Or.inl ⟨_, rfl⟩) (hcl_c (hc_m (by omega) (by omega) rfl) rfl rfl) rfl (by omega) (by rfl)).mpr ?_
  refine (m_pv (fs := [.ref 167, .ref 168, .ref 169, .ref 170, .ref 171, .ref 172, .int 1, .int 0, .int 1000, .int 0, .int 0, .int 0, .ref 173, .ref 174, .ref 175, .ref 176, .ref 177, .ref 178, .null, .null, .null, .null, .null, .null, .null, .null, .int 0]) rfl (by omega) rfl rfl).mpr ?_
  refine (t_p (pc' := 126) (ls' := [some (.ref 166)]) (st' := [.int (17 : Int32), .ref 166]) 2 rfl).mpr ?_
  refine (m_ni (m := 17) rfl (Or.inl ⟨_, rfl⟩) (hcl_c (hc_m (by omega) (by omega) rfl) rfl rfl) rfl (by omega) (by rfl)).mpr ?_
  refine (m_pv (fs := [.ref 167, .ref 168, .ref 169, .ref 170, .ref 171, .ref 172, .int 1, .int 0, .int 1000, .int 0, .int 0, .int 0, .ref 173, .ref 174, .ref 175, .ref 176, .ref 177, .ref 178, .ref 179, .null, .null, .null, .null, .null, .null, .null, .int 0]) rfl (by omega) rfl rfl).mpr ?_
  refine (t_p (pc' := 134) (ls' := [some (.ref 166)]) (st' := [.int (17 : Int32), .ref 166]) 2 rfl).mpr ?_
  refine (m_ni (m := 17) rfl (Or.inl ⟨_, rfl⟩) (hcl_c (hc_m (by omega) (by omega) rfl) rfl rfl) rfl (by omega) (by rfl)).mpr ?_
  refine (m_pv (fs := [.ref 167, .ref 168, .ref 169, .ref 170, .ref 171, .ref 172, .int 1, .int 0, .int 1000, .int 0, .int 0, .int 0, .ref 173, .ref 174, .ref 175, .ref 176, .ref 177, .ref 178, .ref 179, .ref 180, .null, .null, .null, .null, .null, .null, .int 0]) rfl (by omega) rfl rfl).mpr ?_
  refine (t_p (pc' := 142) (ls' := [some (.ref 166)]) (st' := [.int (17 : Int32), .ref 166]) 2 rfl).mpr ?_
  refine (m_ni (m := 17) rfl (Or.inl ⟨_, rfl⟩) (hcl_c (hc_m (by omega) (by omega) rfl) rfl rfl) rfl (by omega) (by rfl)).mpr ?_
  refine (m_pv (fs := [.ref 167, .ref 168, .ref 169, .ref 170, .ref 171, .ref 172, .int 1, .int 0, .int 1000, .int 0, .int 0, .int 0, .ref 173, .ref 174, .ref 175, .ref 176, .ref 177, .ref 178, .ref 179, .ref 180, .ref 181, .null, .null, .null, .null, .null, .int 0]) rfl (by omega) rfl rfl).mpr ?_
  refine (t_p (pc' := 150) (ls' := [some (.ref 166)]) (st' := [.int (80 : Int32), .ref 166]) 2 rfl).mpr ?_
  refine (m_ni (m := 80) rfl (Or.inl ⟨_, rfl⟩) (hcl_c (hc_m (by omega) (by omega) rfl) rfl rfl) rfl (by omega) (by rfl)).mpr ?_
  refine (m_pv (fs := [.ref 167, .ref 168, .ref 169, .ref 170, .ref 171, .ref 172, .int 1, .int 0, .int 1000, .int 0, .int 0, .int 0, .ref 173, .ref 174, .ref 175, .ref 176, .ref 177, .ref 178, .ref 179, .ref 180, .ref 181, .ref 182, .null, .null, .null, .null, .int 0]) rfl (by omega) rfl rfl).mpr ?_
  refine (t_p (pc' := 158) (ls' := [some (.ref 166)]) (st' := [.int (80 : Int32), .ref 166]) 2 rfl).mpr ?_
  refine (m_ni (m := 80) rfl (Or.inl ⟨_, rfl⟩) (hcl_c (hc_m (by omega) (by omega) rfl) rfl rfl) rfl (by omega) (by rfl)).mpr ?_
  refine (m_pv (fs := [.ref 167, .ref 168, .ref 169, .ref 170, .ref 171, .ref 172, .int 1, .int 0, .int 1000, .int 0, .int 0, .int 0, .ref 173, .ref 174, .ref 175, .ref 176, .ref 177, .ref 178, .ref 179, .ref 180, .ref 181, .ref 182, .ref 183, .null, .null, .null, .int 0]) rfl (by omega) rfl rfl).mpr ?_
  refine (t_p (pc' := 166) (ls' := [some (.ref 166)]) (st' := [.int (80 : Int32), .ref 166]) 2 rfl).mpr ?_
  refine (m_ni (m := 80) rfl (Or.inl ⟨_, rfl⟩) (hcl_c (hc_m (by omega) (by omega) rfl) rfl rfl) rfl (by omega) (by rfl)).mpr ?_
  refine (m_pv (fs := [.ref 167, .ref 168, .ref 169, .ref 170, .ref 171, .ref 172, .int 1, .int 0, .int 1000, .int 0, .int 0, .int 0, .ref 173, .ref 174, .ref 175, .ref 176, .ref 177, .ref 178, .ref 179, .ref 180, .ref 181, .ref 182, .ref 183, .ref 184, .null, .null, .int 0]) rfl (by omega) rfl rfl).mpr ?_
  refine (t_p (pc' := 174) (ls' := [some (.ref 166)]) (st' := [.int (80 : Int32), .ref 166]) 2 rfl).mpr ?_
  refine (m_ni (m := 80) rfl (Or.inl ⟨_, rfl⟩) (hcl_c (hc_m (by omega) (by omega) rfl) rfl rfl) rfl (by omega) (by rfl)).mpr ?_
  refine (m_pv (fs := [.ref 167, .ref 168, .ref 169, .ref 170, .ref 171, .ref 172, .int 1, .int 0, .int 1000, .int 0, .int 0, .int 0, .ref 173, .ref 174, .ref 175, .ref 176, .ref 177, .ref 178, .ref 179, .ref 180, .ref 181, .ref 182, .ref 183, .ref 184, .ref 185, .null, .int 0]) rfl (by omega) rfl rfl).mpr ?_
  exact (t_rV rfl).mpr (mk_fin (F := G0) (a := 166) (by rfl))
