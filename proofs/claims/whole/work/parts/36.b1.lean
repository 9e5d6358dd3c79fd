/-! what is checked of each method (printed by gen5.py) -/
theorem ok_D_init {s0 : State} (hS : pm_Str s0) : pm_OKI s0 mi_D_init := by
  refine ⟨Or.inl ⟨w_29, rfl⟩, w_1, by decide +kernel, ⟨by decide +kernel, by decide +kernel⟩, by decide, by decide +kernel, pk_i (by decide +kernel) (pk_all (ks := [(1, .invokespecial 3, 3, ([0], .null)), (5, .new 9, 3, ([1], .null)), (9, .invokespecial 11, 3, ([1, 1, 1, 2], .null)), (12, .putfield 12, 3, ([0, 0, 2], .null)), (16, .new 16, 3, ([2], .null)), (20, .invokespecial 18, 3, ([2, 1, 0, 3], .null)), (23, .putfield 19, 3, ([0, 1, 2], .null)), (27, .new 23, 3, ([3], .null)), (31, .invokespecial 25, 3, ([3, 1, 0, 4], .null)), (34, .putfield 26, 3, ([0, 2, 2], .null)), (38, .new 30, 3, ([4], .null)), (42, .invokespecial 32, 3, ([4, 1, 1, 5], .null)), (45, .putfield 33, 3, ([0, 3, 2], .null)), (49, .new 37, 3, ([5], .null)), (53, .invokespecial 39, 3, ([5, 1, 1, 6], .null)), (56, .putfield 40, 3, ([0, 4, 2], .null)), (62, .anewarray 44, 3, ([6], .null)), (65, .putfield 46, 3, ([0, 5, 2], .null)), (69, .new 50, 3, ([8], .null)), (73, .invokespecial 52, 3, ([8, 1, 1, 9], .null)), (76, .putfield 53, 3, ([0, 6, 2], .null)), (80, .new 50, 3, ([8], .null)), (84, .invokespecial 52, 3, ([8, 1, 1, 9], .null)), (87, .putfield 57, 3, ([0, 7, 2], .null)), (95, .if_icmp .ge 22, 3, ([117], .null)), (99, .getfield 46, 3, ([0, 5], .null)), (103, .new 44, 3, ([7], .null)), (107, .invokespecial 60, 3, ([7, 1, 0, 8], .null)), (114, .goto (-22), 3, ([92], .null)), (117, .return_, 1, ([], .null))]) (by decide +kernel) ?_)⟩
  refine pk_c (pk_0 (Or.inr rfl) (Or.inr ⟨rfl, w_30, w_31, w_32⟩) (Or.inr rfl)) ?_
  refine pk_c (pk_0 (Or.inr rfl) (Or.inr ⟨1, rfl, ln_D_9⟩) (Or.inr rfl)) ?_
  refine pk_c (pk_4 lm_D_11) ?_
  refine pk_c (pk_0 (Or.inr rfl) ⟨0, 0, 2, rfl, lp_D_12F⟩ (Or.inr rfl)) ?_
  refine pk_c (pk_0 (Or.inr rfl) (Or.inr ⟨2, rfl, ln_D_16⟩) (Or.inr rfl)) ?_
  refine pk_c (pk_4 lm_D_18) ?_
  refine pk_c (pk_0 (Or.inr rfl) ⟨0, 1, 2, rfl, lp_D_19F⟩ (Or.inr rfl)) ?_
  refine pk_c (pk_0 (Or.inr rfl) (Or.inr ⟨3, rfl, ln_D_23⟩) (Or.inr rfl)) ?_
  refine pk_c (pk_4 lm_D_25) ?_
  refine pk_c (pk_0 (Or.inr rfl) ⟨0, 2, 2, rfl, lp_D_26F⟩ (Or.inr rfl)) ?_
  refine pk_c (pk_0 (Or.inr rfl) (Or.inr ⟨4, rfl, ln_D_30⟩) (Or.inr rfl)) ?_
  refine pk_c (pk_4 lm_D_32) ?_
  refine pk_c (pk_0 (Or.inr rfl) ⟨0, 3, 2, rfl, lp_D_33F⟩ (Or.inr rfl)) ?_
  refine pk_c (pk_0 (Or.inr rfl) (Or.inr ⟨5, rfl, ln_D_37⟩) (Or.inr rfl)) ?_
  refine pk_c (pk_4 lm_D_39) ?_
  refine pk_c (pk_0 (Or.inr rfl) ⟨0, 4, 2, rfl, lp_D_40F⟩ (Or.inr rfl)) ?_
  refine pk_c (pk_0 (Or.inr rfl) ⟨6, rfl, "SegmentDesk$Spot", by decide, rfl, w_228, w_229⟩ (Or.inr rfl)) ?_
  refine pk_c (pk_0 (Or.inr rfl) ⟨0, 5, 2, rfl, lp_D_46F⟩ (Or.inr rfl)) ?_
  refine pk_c (pk_0 (Or.inr rfl) (Or.inr ⟨8, rfl, ln_D_50⟩) (Or.inr rfl)) ?_
  refine pk_c (pk_4 lm_D_52) ?_
  refine pk_c (pk_0 (Or.inr rfl) ⟨0, 6, 2, rfl, lp_D_53 _⟩ (Or.inr rfl)) ?_
  refine pk_c (pk_0 (Or.inr rfl) (Or.inr ⟨8, rfl, ln_D_50⟩) (Or.inr rfl)) ?_
  refine pk_c (pk_4 lm_D_52) ?_
  refine pk_c (pk_0 (Or.inr rfl) ⟨0, 7, 2, rfl, lp_D_57 _⟩ (Or.inr rfl)) ?_
  refine pk_c (pk_0 (Or.inr rfl) ⟨117, rfl, by decide⟩ (Or.inr rfl)) ?_
  refine pk_c (pk_0 (Or.inr rfl) ⟨0, 5, rfl, lf_D_46⟩ (Or.inr rfl)) ?_
  refine pk_c (pk_0 (Or.inr rfl) (Or.inr ⟨7, rfl, ln_D_44⟩) (Or.inr rfl)) ?_
  refine pk_c (pk_4 lm_D_60) ?_
  refine pk_c (pk_0 (Or.inr rfl) ⟨92, rfl, by decide⟩ (Or.inr rfl)) ?_
  refine pk_c (pk_2 rfl rfl) ?_
  exact pk_n
theorem ok_Me_init {s0 : State} (hS : pm_Str s0) : pm_OKI s0 mi_Me_init := by
  refine ⟨Or.inl ⟨w_37, rfl⟩, w_2, by decide +kernel, ⟨by decide +kernel, by decide +kernel⟩, by decide, by decide +kernel, pk_i (by decide +kernel) (pk_all (ks := [(1, .invokespecial 3, 3, ([0], .null)), (8, .multianewarray 9 2, 4, ([5, 1], .null)), (12, .putfield 11, 3, ([1, 0, 2], .null)), (17, .newarray .int, 2, ([0], .null)), (19, .putfield 16, 3, ([1, 1, 2], .null)), (24, .putfield 20, 3, ([1, 2, 0], .null)), (27, .return_, 1, ([], .null))]) (by decide +kernel) ?_)⟩
  refine pk_c (pk_0 (Or.inr rfl) (Or.inr ⟨rfl, w_38, w_31, w_32⟩) (Or.inr rfl)) ?_
  refine pk_c (pk_0 (Or.inr rfl) ⟨rfl, rfl, w_39, w_40, w_69⟩ (Or.inr rfl)) ?_
  refine pk_c (pk_0 (Or.inr rfl) ⟨1, 0, 2, rfl, lp_Me_11F⟩ (Or.inr rfl)) ?_
  refine pk_c (pk_0 (Or.inr rfl) ⟨0, rfl, rfl, w_70, by decide⟩ (Or.inr rfl)) ?_
  refine pk_c (pk_0 (Or.inr rfl) ⟨1, 1, 2, rfl, lp_Me_16F⟩ (Or.inr rfl)) ?_
  refine pk_c (pk_0 (Or.inr rfl) ⟨1, 2, 0, rfl, lp_Me_20 _⟩ (Or.inr rfl)) ?_
  refine pk_c (pk_2 rfl rfl) ?_
  exact pk_n
theorem ok_Re_init {s0 : State} (hS : pm_Str s0) : pm_OKI s0 mi_Re_init := by
  refine ⟨Or.inl ⟨w_75, rfl⟩, w_3, by decide +kernel, ⟨by decide +kernel, by decide +kernel⟩, by decide, by decide +kernel, pk_i (by decide +kernel) (pk_all (ks := [(1, .invokespecial 3, 3, ([0], .null)), (8, .putfield 9, 3, ([2, 0, 0], .null)), (11, .return_, 1, ([], .null))]) (by decide +kernel) ?_)⟩
  refine pk_c (pk_0 (Or.inr rfl) (Or.inr ⟨rfl, w_76, w_31, w_32⟩) (Or.inr rfl)) ?_
  refine pk_c (pk_0 (Or.inr rfl) ⟨2, 0, 0, rfl, lp_Re_9 _⟩ (Or.inr rfl)) ?_
  refine pk_c (pk_2 rfl rfl) ?_
  exact pk_n
theorem ok_Bu_init {s0 : State} (hS : pm_Str s0) : pm_OKI s0 mi_Bu_init := by
  refine ⟨Or.inl ⟨w_95, rfl⟩, w_4, by decide +kernel, ⟨by decide +kernel, by decide +kernel⟩, by decide, by decide +kernel, pk_i (by decide +kernel) (pk_all (ks := [(1, .invokespecial 3, 3, ([0], .null)), (4, .return_, 1, ([], .null))]) (by decide +kernel) ?_)⟩
  refine pk_c (pk_0 (Or.inr rfl) (Or.inr ⟨rfl, w_96, w_31, w_32⟩) (Or.inr rfl)) ?_
  refine pk_c (pk_2 rfl rfl) ?_
  exact pk_n
theorem ok_Fr_init {s0 : State} (hS : pm_Str s0) : pm_OKI s0 mi_Fr_init := by
  refine ⟨Or.inl ⟨w_110, rfl⟩, w_5, by decide +kernel, ⟨by decide +kernel, by decide +kernel⟩, by decide, by decide +kernel, pk_i (by decide +kernel) (pk_all (ks := [(1, .invokespecial 3, 3, ([0], .null)), (8, .newarray .long, 2, ([1], .null)), (10, .putfield 9, 3, ([4, 0, 2], .null)), (13, .return_, 1, ([], .null))]) (by decide +kernel) ?_)⟩
  refine pk_c (pk_0 (Or.inr rfl) (Or.inr ⟨rfl, w_111, w_31, w_32⟩) (Or.inr rfl)) ?_
  refine pk_c (pk_0 (Or.inr rfl) ⟨1, rfl, rfl, w_69, by decide⟩ (Or.inr rfl)) ?_
  refine pk_c (pk_0 (Or.inr rfl) ⟨4, 0, 2, rfl, lp_Fr_9F⟩ (Or.inr rfl)) ?_
  refine pk_c (pk_2 rfl rfl) ?_
  exact pk_n
theorem ok_Ca_init {s0 : State} (hS : pm_Str s0) : pm_OKI s0 mi_Ca_init := by
  refine ⟨Or.inl ⟨w_126, rfl⟩, w_6, by decide +kernel, ⟨by decide +kernel, by decide +kernel⟩, by decide, by decide +kernel, pk_i (by decide +kernel) (pk_all (ks := [(1, .invokespecial 3, 3, ([0], .null)), (7, .newarray .long, 2, ([1], .null)), (9, .putfield 9, 3, ([5, 0, 2], .null)), (15, .anewarray 15, 3, ([7], .null)), (18, .putfield 17, 3, ([5, 2, 2], .null)), (26, .if_icmp .gt 22, 3, ([48], .null)), (30, .getfield 17, 3, ([5, 2], .null)), (34, .new 15, 3, ([6], .null)), (38, .invokespecial 21, 3, ([6, 1, 1, 7], .null)), (45, .goto (-22), 3, ([23], .null)), (48, .return_, 1, ([], .null))]) (by decide +kernel) ?_)⟩
  refine pk_c (pk_0 (Or.inr rfl) (Or.inr ⟨rfl, w_127, w_31, w_32⟩) (Or.inr rfl)) ?_
  refine pk_c (pk_0 (Or.inr rfl) ⟨1, rfl, rfl, w_69, by decide⟩ (Or.inr rfl)) ?_
  refine pk_c (pk_0 (Or.inr rfl) ⟨5, 0, 2, rfl, lp_Ca_9F⟩ (Or.inr rfl)) ?_
  refine pk_c (pk_0 (Or.inr rfl) ⟨7, rfl, "SegmentDesk$Level", by decide, rfl, w_128, w_129⟩ (Or.inr rfl)) ?_
  refine pk_c (pk_0 (Or.inr rfl) ⟨5, 2, 2, rfl, lp_Ca_17F⟩ (Or.inr rfl)) ?_
  refine pk_c (pk_0 (Or.inr rfl) ⟨48, rfl, by decide⟩ (Or.inr rfl)) ?_
  refine pk_c (pk_0 (Or.inr rfl) ⟨5, 2, rfl, lf_Ca_17⟩ (Or.inr rfl)) ?_
  refine pk_c (pk_0 (Or.inr rfl) (Or.inr ⟨6, rfl, ln_Ca_15⟩) (Or.inr rfl)) ?_
  refine pk_c (pk_4 lm_Ca_21) ?_
  refine pk_c (pk_0 (Or.inr rfl) ⟨23, rfl, by decide⟩ (Or.inr rfl)) ?_
  refine pk_c (pk_2 rfl rfl) ?_
  exact pk_n
theorem ok_Le_init {s0 : State} (hS : pm_Str s0) : pm_OKI s0 mi_Le_init := by
  refine ⟨Or.inl ⟨w_133, rfl⟩, w_7, by decide +kernel, ⟨by decide +kernel, by decide +kernel⟩, by decide, by decide +kernel, pk_i (by decide +kernel) (pk_all (ks := [(1, .invokespecial 1, 3, ([0], .null)), (5, .new 7, 3, ([7], .null)), (9, .invokespecial 9, 3, ([7, 1, 0, 8], .null)), (12, .putfield 10, 3, ([6, 0, 2], .null)), (15, .return_, 1, ([], .null))]) (by decide +kernel) ?_)⟩
  refine pk_c (pk_0 (Or.inr rfl) (Or.inr ⟨rfl, w_134, w_31, w_32⟩) (Or.inr rfl)) ?_
  refine pk_c (pk_0 (Or.inr rfl) (Or.inr ⟨7, rfl, ln_Le_7⟩) (Or.inr rfl)) ?_
  refine pk_c (pk_4 lm_Le_9) ?_
  refine pk_c (pk_0 (Or.inr rfl) ⟨6, 0, 2, rfl, lp_Le_10F⟩ (Or.inr rfl)) ?_
  refine pk_c (pk_2 rfl rfl) ?_
  exact pk_n
theorem ok_Sp_init {s0 : State} (hS : pm_Str s0) : pm_OKI s0 mi_Sp_init := by
  refine ⟨Or.inl ⟨w_139, rfl⟩, w_8, by decide +kernel, ⟨by decide +kernel, by decide +kernel⟩, by decide, by decide +kernel, pk_i (by decide +kernel) (pk_all (ks := [(1, .invokespecial 3, 3, ([0], .null)), (4, .return_, 1, ([], .null))]) (by decide +kernel) ?_)⟩
  refine pk_c (pk_0 (Or.inr rfl) (Or.inr ⟨rfl, w_140, w_31, w_32⟩) (Or.inr rfl)) ?_
  refine pk_c (pk_2 rfl rfl) ?_
  exact pk_n
theorem ok_Oc_init {s0 : State} (hS : pm_Str s0) : pm_OKI s0 mi_Oc_init := by
  refine ⟨Or.inl ⟨w_234, rfl⟩, w_9, by decide +kernel, ⟨by decide +kernel, by decide +kernel⟩, by decide, by decide +kernel, pk_i (by decide +kernel) (pk_all (ks := [(1, .invokespecial 3, 3, ([0], .null)), (8, .newarray .byte, 2, ([2], .null)), (10, .putfield 9, 3, ([8, 0, 2], .null)), (13, .return_, 1, ([], .null))]) (by decide +kernel) ?_)⟩
  refine pk_c (pk_0 (Or.inr rfl) (Or.inr ⟨rfl, w_235, w_31, w_32⟩) (Or.inr rfl)) ?_
  refine pk_c (pk_0 (Or.inr rfl) ⟨2, rfl, rfl, w_247, by decide⟩ (Or.inr rfl)) ?_
  refine pk_c (pk_0 (Or.inr rfl) ⟨8, 0, 2, rfl, lp_Oc_9F⟩ (Or.inr rfl)) ?_
  refine pk_c (pk_2 rfl rfl) ?_
  exact pk_n
theorem ok_D_drop {s0 : State} (hS : pm_Str s0) : pm_OKI s0 mi_D_drop := by
  refine ⟨Or.inl ⟨w_277, rfl⟩, w_1, by decide +kernel, ⟨by decide +kernel, by decide +kernel⟩, by decide, by decide +kernel, pk_i (by decide +kernel) (pk_all (ks := [(1, .getfield 53, 3, ([0, 6], .null)), (4, .getfield 261, 3, ([8, 1], .null)), (9, .getfield 53, 3, ([0, 6], .null)), (13, .putfield 261, 3, ([8, 1, 0], .null)), (17, .ireturn, 1, ([], .null))]) (by decide +kernel) ?_)⟩
  refine pk_c (pk_0 (Or.inr rfl) ⟨0, 6, rfl, lf_D_53⟩ (Or.inr rfl)) ?_
  refine pk_c (pk_0 (Or.inr rfl) ⟨8, 1, rfl, lf_D_261⟩ (Or.inr rfl)) ?_
  refine pk_c (pk_0 (Or.inr rfl) ⟨0, 6, rfl, lf_D_53⟩ (Or.inr rfl)) ?_
  refine pk_c (pk_0 (Or.inr rfl) ⟨8, 1, 0, rfl, lp_D_261 _⟩ (Or.inr rfl)) ?_
  refine pk_c (pk_2 rfl (Or.inl ⟨rfl, rfl⟩)) ?_
  exact pk_n
theorem ok_L_segment {s0 : State} (hS : pm_Str s0) : pm_OKI s0 mi_L_segment := by
  refine ⟨Or.inr ⟨_, w_280, pk_hs ⟨rfl, rfl, by decide, ⟨by decide, by decide⟩, by decide, w_281, w_291, Or.inl ⟨by decide +kernel, rfl⟩⟩ (pk_h0)⟩, w_0, by decide +kernel, ⟨by decide +kernel, by decide +kernel⟩, by decide, by decide +kernel, pk_i (by decide +kernel) (pk_all (ks := [(8, .invokevirtual 7, 3, ([11, 6, 0, 1], .null)), (11, .goto 7, 3, ([18], .null)), (17, .ireturn, 1, ([], .null)), (19, .ireturn, 1, ([], .null))]) (by decide +kernel) ?_)⟩
  refine pk_c (pk_4 lm_L_7) ?_
  refine pk_c (pk_0 (Or.inr rfl) ⟨18, rfl, by decide⟩ (Or.inr rfl)) ?_
  refine pk_c (pk_2 rfl (Or.inl ⟨rfl, rfl⟩)) ?_
  refine pk_c (pk_2 rfl (Or.inl ⟨rfl, rfl⟩)) ?_
  exact pk_n
theorem ok_D_segment {s0 : State} (hS : pm_Str s0) : pm_OKI s0 mi_D_segment := by
  refine ⟨Or.inl ⟨w_285, rfl⟩, w_1, by decide +kernel, ⟨by decide +kernel, by decide +kernel⟩, by decide, by decide +kernel, pk_i (by decide +kernel) (pk_all (ks := [(2, .if_icmp .lt 8, 3, ([10], .null)), (7, .if_icmp .le 7, 3, ([14], .null)), (11, .goto 4, 3, ([15], .null)), (15, .invokestatic 61, 3, ([12, 1, 0, 0], .null)), (21, .invokestatic 65, 3, ([13, 2, 0, 0], .null)), (24, .ifCond .eq 17, 3, ([41], .null)), (29, .if_icmp .le 16, 3, ([45], .null)), (35, .invokestatic 65, 3, ([13, 2, 0, 0], .null)), (38, .ifCond .ne 7, 3, ([45], .null)), (42, .goto 4, 3, ([46], .null)), (46, .invokestatic 61, 3, ([12, 1, 0, 0], .null)), (51, .if_icmp .le 13, 3, ([64], .null)), (58, .invokestatic 65, 3, ([13, 2, 0, 0], .null)), (61, .ifCond .eq 18, 3, ([79], .null)), (66, .if_icmp .le 17, 3, ([83], .null)), (73, .invokestatic 65, 3, ([13, 2, 0, 0], .null)), (76, .ifCond .ne 7, 3, ([83], .null)), (80, .goto 4, 3, ([84], .null)), (84, .invokestatic 61, 3, ([12, 1, 0, 0], .null)), (88, .getfield 12, 3, ([0, 0], .null)), (92, .invokevirtual 69, 3, ([14, 2, 0, 2], .null)), (96, .getfield 12, 3, ([0, 0], .null)), (99, .getfield 73, 3, ([1, 1], .null)), (106, .getfield 12, 3, ([0, 0], .null)), (109, .getfield 73, 3, ([1, 1], .null)), (115, .if_icmp .le 7, 3, ([122], .null)), (119, .goto 4, 3, ([123], .null)), (125, .getfield 12, 3, ([0, 0], .null)), (128, .getfield 73, 3, ([1, 1], .null)), (134, .if_icmp .le 8, 3, ([142], .null)), (139, .goto 4, 3, ([143], .null)), (145, .getfield 12, 3, ([0, 0], .null)), (148, .getfield 73, 3, ([1, 1], .null)), (154, .if_icmp .le 8, 3, ([162], .null)), (159, .goto 4, 3, ([163], .null)), (165, .invokevirtual 77, 3, ([16, 1, 0, 1], .null)), (168, .return_, 1, ([], .null))]) (by decide +kernel) ?_)⟩
  refine pk_c (pk_0 (Or.inr rfl) ⟨10, rfl, by decide⟩ (Or.inr rfl)) ?_
  refine pk_c (pk_0 (Or.inr rfl) ⟨14, rfl, by decide⟩ (Or.inr rfl)) ?_
  refine pk_c (pk_0 (Or.inr rfl) ⟨15, rfl, by decide⟩ (Or.inr rfl)) ?_
  refine pk_c (pk_4 lm_D_61) ?_
  refine pk_c (pk_4 lm_D_65) ?_
  refine pk_c (pk_0 (Or.inr rfl) ⟨41, rfl, by decide⟩ (Or.inr rfl)) ?_
  refine pk_c (pk_0 (Or.inr rfl) ⟨45, rfl, by decide⟩ (Or.inr rfl)) ?_
  refine pk_c (pk_4 lm_D_65) ?_
  refine pk_c (pk_0 (Or.inr rfl) ⟨45, rfl, by decide⟩ (Or.inr rfl)) ?_
  refine pk_c (pk_0 (Or.inr rfl) ⟨46, rfl, by decide⟩ (Or.inr rfl)) ?_
  refine pk_c (pk_4 lm_D_61) ?_
  refine pk_c (pk_0 (Or.inr rfl) ⟨64, rfl, by decide⟩ (Or.inr rfl)) ?_
  refine pk_c (pk_4 lm_D_65) ?_
  refine pk_c (pk_0 (Or.inr rfl) ⟨79, rfl, by decide⟩ (Or.inr rfl)) ?_
  refine pk_c (pk_0 (Or.inr rfl) ⟨83, rfl, by decide⟩ (Or.inr rfl)) ?_
  refine pk_c (pk_4 lm_D_65) ?_
  refine pk_c (pk_0 (Or.inr rfl) ⟨83, rfl, by decide⟩ (Or.inr rfl)) ?_
  refine pk_c (pk_0 (Or.inr rfl) ⟨84, rfl, by decide⟩ (Or.inr rfl)) ?_
  refine pk_c (pk_4 lm_D_61) ?_
  refine pk_c (pk_0 (Or.inr rfl) ⟨0, 0, rfl, lf_D_12⟩ (Or.inr rfl)) ?_
  refine pk_c (pk_4 lm_D_69) ?_
  refine pk_c (pk_0 (Or.inr rfl) ⟨0, 0, rfl, lf_D_12⟩ (Or.inr rfl)) ?_
  refine pk_c (pk_0 (Or.inr rfl) ⟨1, 1, rfl, lf_D_73⟩ (Or.inr rfl)) ?_
  refine pk_c (pk_0 (Or.inr rfl) ⟨0, 0, rfl, lf_D_12⟩ (Or.inr rfl)) ?_
  refine pk_c (pk_0 (Or.inr rfl) ⟨1, 1, rfl, lf_D_73⟩ (Or.inr rfl)) ?_
  refine pk_c (pk_0 (Or.inr rfl) ⟨122, rfl, by decide⟩ (Or.inr rfl)) ?_
  refine pk_c (pk_0 (Or.inr rfl) ⟨123, rfl, by decide⟩ (Or.inr rfl)) ?_
  refine pk_c (pk_0 (Or.inr rfl) ⟨0, 0, rfl, lf_D_12⟩ (Or.inr rfl)) ?_
  refine pk_c (pk_0 (Or.inr rfl) ⟨1, 1, rfl, lf_D_73⟩ (Or.inr rfl)) ?_
  refine pk_c (pk_0 (Or.inr rfl) ⟨142, rfl, by decide⟩ (Or.inr rfl)) ?_
  refine pk_c (pk_0 (Or.inr rfl) ⟨143, rfl, by decide⟩ (Or.inr rfl)) ?_
  refine pk_c (pk_0 (Or.inr rfl) ⟨0, 0, rfl, lf_D_12⟩ (Or.inr rfl)) ?_
  refine pk_c (pk_0 (Or.inr rfl) ⟨1, 1, rfl, lf_D_73⟩ (Or.inr rfl)) ?_
  refine pk_c (pk_0 (Or.inr rfl) ⟨162, rfl, by decide⟩ (Or.inr rfl)) ?_
  refine pk_c (pk_0 (Or.inr rfl) ⟨163, rfl, by decide⟩ (Or.inr rfl)) ?_
  refine pk_c (pk_4 lm_D_77) ?_
  refine pk_c (pk_2 rfl rfl) ?_
  exact pk_n
theorem ok_D_badIf {s0 : State} (hS : pm_Str s0) : pm_OKI s0 mi_D_badIf := by
  refine ⟨Or.inl ⟨w_288, rfl⟩, w_1, by decide +kernel, ⟨by decide +kernel, by decide +kernel⟩, by decide, by decide +kernel, pk_i (by decide +kernel) (pk_all (ks := [(1, .ifCond .eq 14, 3, ([15], .null)), (4, .new 192, 3, ([1, 1, 6], .null)), (15, .return_, 1, ([], .null))]) (by decide +kernel) ?_)⟩
  refine pk_c (pk_0 (Or.inr rfl) ⟨15, rfl, by decide⟩ (Or.inr rfl)) ?_
  refine pk_c (pk_3 ⟨by decide, by decide⟩ rfl (pk_x (is := 315) (ic := 196) (wl := 3) (text := "out of range") hS (List.mem_of_getElem? (i := 2) rfl) (by decide +kernel) w_289 w_14 (by decide +kernel) oa_1)) ?_
  refine pk_c (pk_2 rfl rfl) ?_
  exact pk_n
theorem ok_D_isWithin {s0 : State} (hS : pm_Str s0) : pm_OKI s0 mi_D_isWithin := by
  refine ⟨Or.inl ⟨w_360, rfl⟩, w_1, by decide +kernel, ⟨by decide +kernel, by decide +kernel⟩, by decide, by decide +kernel, pk_i (by decide +kernel) (pk_all (ks := [(1, .ifCond .lt 12, 3, ([13], .null)), (6, .if_icmp .gt 7, 3, ([13], .null)), (10, .goto 4, 3, ([14], .null)), (14, .ireturn, 1, ([1], .null))]) (by decide +kernel) ?_)⟩
  refine pk_c (pk_0 (Or.inr rfl) ⟨13, rfl, by decide⟩ (Or.inr rfl)) ?_
  refine pk_c (pk_0 (Or.inr rfl) ⟨13, rfl, by decide⟩ (Or.inr rfl)) ?_
  refine pk_c (pk_0 (Or.inr rfl) ⟨14, rfl, by decide⟩ (Or.inr rfl)) ?_
  refine pk_c (pk_2 rfl (Or.inr ⟨rfl, rfl⟩)) ?_
  exact pk_n
theorem ok_Me_renew {s0 : State} (hS : pm_Str s0) : pm_OKI s0 mi_Me_renew := by
  refine ⟨Or.inl ⟨w_364, rfl⟩, w_2, by decide +kernel, ⟨by decide +kernel, by decide +kernel⟩, by decide, by decide +kernel, pk_i (by decide +kernel) (pk_all (ks := [(4, .if_icmp .ge 26, 3, ([30], .null)), (8, .getfield 11, 3, ([1, 0], .null)), (14, .invokestatic 24, 3, ([15, 2, 0, 0], .null)), (18, .getfield 16, 3, ([1, 1], .null)), (27, .goto (-25), 3, ([2], .null)), (32, .putfield 20, 3, ([1, 2, 0], .null)), (37, .putfield 30, 3, ([1, 3, 0], .null)), (40, .return_, 1, ([], .null))]) (by decide +kernel) ?_)⟩
  refine pk_c (pk_0 (Or.inr rfl) ⟨30, rfl, by decide⟩ (Or.inr rfl)) ?_
  refine pk_c (pk_0 (Or.inr rfl) ⟨1, 0, rfl, lf_Me_11⟩ (Or.inr rfl)) ?_
  refine pk_c (pk_4 lm_Me_24) ?_
  refine pk_c (pk_0 (Or.inr rfl) ⟨1, 1, rfl, lf_Me_16⟩ (Or.inr rfl)) ?_
  refine pk_c (pk_0 (Or.inr rfl) ⟨2, rfl, by decide⟩ (Or.inr rfl)) ?_
  refine pk_c (pk_0 (Or.inr rfl) ⟨1, 2, 0, rfl, lp_Me_20 _⟩ (Or.inr rfl)) ?_
  refine pk_c (pk_0 (Or.inr rfl) ⟨1, 3, 0, rfl, lp_Me_30 _⟩ (Or.inr rfl)) ?_
  refine pk_c (pk_2 rfl rfl) ?_
  exact pk_n
theorem ok_JA_fill {s0 : State} (hS : pm_Str s0) : pm_OKI s0 mi_JA_fill := by
  refine ⟨Or.inl ⟨w_367, rfl⟩, w_15, by decide +kernel, ⟨by decide +kernel, by decide +kernel⟩, by decide, by decide +kernel, pk_i (by decide +kernel) (pk_all (ks := [(9, .if_icmp .ge 13, 3, ([22], .null)), (19, .goto (-13), 3, ([6], .null)), (22, .return_, 1, ([], .null))]) (by decide +kernel) ?_)⟩
  refine pk_c (pk_0 (Or.inr rfl) ⟨22, rfl, by decide⟩ (Or.inr rfl)) ?_
  refine pk_c (pk_0 (Or.inr rfl) ⟨6, rfl, by decide⟩ (Or.inr rfl)) ?_
  refine pk_c (pk_2 rfl rfl) ?_
  exact pk_n
theorem ok_D_cursorsToNothing {s0 : State} (hS : pm_Str s0) : pm_OKI s0 mi_D_cursorsToNothing := by
  refine ⟨Or.inl ⟨w_371, rfl⟩, w_1, by decide +kernel, ⟨by decide +kernel, by decide +kernel⟩, by decide, by decide +kernel, pk_i (by decide +kernel) (pk_all (ks := [(5, .if_icmp .ge 18, 3, ([23], .null)), (9, .getfield 46, 3, ([0, 5], .null)), (14, .invokevirtual 134, 3, ([17, 1, 0, 8], .null)), (20, .goto (-18), 3, ([2], .null)), (23, .return_, 1, ([], .null))]) (by decide +kernel) ?_)⟩
  refine pk_c (pk_0 (Or.inr rfl) ⟨23, rfl, by decide⟩ (Or.inr rfl)) ?_
  refine pk_c (pk_0 (Or.inr rfl) ⟨0, 5, rfl, lf_D_46⟩ (Or.inr rfl)) ?_
  refine pk_c (pk_4 lm_D_134) ?_
  refine pk_c (pk_0 (Or.inr rfl) ⟨2, rfl, by decide⟩ (Or.inr rfl)) ?_
  refine pk_c (pk_2 rfl rfl) ?_
  exact pk_n
theorem ok_Sp_toNothing {s0 : State} (hS : pm_Str s0) : pm_OKI s0 mi_Sp_toNothing := by
  refine ⟨Or.inl ⟨w_375, rfl⟩, w_8, by decide +kernel, ⟨by decide +kernel, by decide +kernel⟩, by decide, by decide +kernel, pk_i (by decide +kernel) (pk_all (ks := [(5, .invokevirtual 9, 3, ([18, 5, 0, 8], .null)), (8, .return_, 1, ([], .null))]) (by decide +kernel) ?_)⟩
  refine pk_c (pk_4 lm_Sp_9) ?_
  refine pk_c (pk_2 rfl rfl) ?_
  exact pk_n
theorem ok_Sp_stand {s0 : State} (hS : pm_Str s0) : pm_OKI s0 mi_Sp_stand := by
  refine ⟨Or.inl ⟨w_379, rfl⟩, w_8, by decide +kernel, ⟨by decide +kernel, by decide +kernel⟩, by decide, by decide +kernel, pk_i (by decide +kernel) (pk_all (ks := [(2, .putfield 49, 3, ([7, 0, 0], .null)), (7, .putfield 36, 3, ([7, 2, 0], .null)), (12, .putfield 52, 3, ([7, 3, 0], .null)), (18, .putfield 39, 3, ([7, 1, 0], .null)), (23, .putfield 46, 3, ([7, 4, 0], .null)), (28, .putfield 15, 3, ([7, 5, 0], .null)), (33, .putfield 19, 3, ([7, 6, 0], .null)), (38, .putfield 25, 3, ([7, 7, 0], .null)), (43, .putfield 22, 3, ([7, 8, 0], .null)), (46, .return_, 1, ([], .null))]) (by decide +kernel) ?_)⟩
  refine pk_c (pk_0 (Or.inr rfl) ⟨7, 0, 0, rfl, lp_Sp_49 _⟩ (Or.inr rfl)) ?_
  refine pk_c (pk_0 (Or.inr rfl) ⟨7, 2, 0, rfl, lp_Sp_36 _⟩ (Or.inr rfl)) ?_
  refine pk_c (pk_0 (Or.inr rfl) ⟨7, 3, 0, rfl, lp_Sp_52 _⟩ (Or.inr rfl)) ?_
  refine pk_c (pk_0 (Or.inr rfl) ⟨7, 1, 0, rfl, lp_Sp_39 _⟩ (Or.inr rfl)) ?_
  refine pk_c (pk_0 (Or.inr rfl) ⟨7, 4, 0, rfl, lp_Sp_46 _⟩ (Or.inr rfl)) ?_
  refine pk_c (pk_0 (Or.inr rfl) ⟨7, 5, 0, rfl, lp_Sp_15 _⟩ (Or.inr rfl)) ?_
  refine pk_c (pk_0 (Or.inr rfl) ⟨7, 6, 0, rfl, lp_Sp_19 _⟩ (Or.inr rfl)) ?_
  refine pk_c (pk_0 (Or.inr rfl) ⟨7, 7, 0, rfl, lp_Sp_25 _⟩ (Or.inr rfl)) ?_
  refine pk_c (pk_0 (Or.inr rfl) ⟨7, 8, 0, rfl, lp_Sp_22 _⟩ (Or.inr rfl)) ?_
  refine pk_c (pk_2 rfl rfl) ?_
  exact pk_n
theorem ok_L_word {s0 : State} (hS : pm_Str s0) : pm_OKI s0 mi_L_word := by
  refine ⟨Or.inr ⟨_, w_382, pk_hs ⟨rfl, rfl, by decide, ⟨by decide, by decide⟩, by decide, w_281, w_291, Or.inl ⟨by decide +kernel, rfl⟩⟩ (pk_h0)⟩, w_0, by decide +kernel, ⟨by decide +kernel, by decide +kernel⟩, by decide, by decide +kernel, pk_i (by decide +kernel) (pk_all (ks := [(7, .invokevirtual 15, 3, ([20, 4, 0, 1], .null)), (11, .goto 7, 3, ([18], .null)), (17, .ireturn, 1, ([], .null)), (19, .ireturn, 1, ([], .null))]) (by decide +kernel) ?_)⟩
  refine pk_c (pk_4 lm_L_15) ?_
  refine pk_c (pk_0 (Or.inr rfl) ⟨18, rfl, by decide⟩ (Or.inr rfl)) ?_
  refine pk_c (pk_2 rfl (Or.inl ⟨rfl, rfl⟩)) ?_
  refine pk_c (pk_2 rfl (Or.inl ⟨rfl, rfl⟩)) ?_
  exact pk_n
theorem ok_D_word {s0 : State} (hS : pm_Str s0) : pm_OKI s0 mi_D_word := by
  refine ⟨Or.inl ⟨w_386, rfl⟩, w_1, by decide +kernel, ⟨by decide +kernel, by decide +kernel⟩, by decide, by decide +kernel, pk_i (by decide +kernel) (pk_all (ks := [(1, .getfield 12, 3, ([0, 0], .null)), (7, .invokevirtual 80, 3, ([21, 3, 0, 2], .null)), (10, .ifCond .ne 7, 3, ([17], .null)), (14, .goto 4, 3, ([18], .null)), (18, .invokestatic 61, 3, ([12, 1, 0, 0], .null)), (22, .getfield 12, 3, ([0, 0], .null)), (25, .getfield 84, 3, ([1, 0], .null)), (35, .getfield 12, 3, ([0, 0], .null)), (38, .getfield 84, 3, ([1, 0], .null)), (47, .getfield 12, 3, ([0, 0], .null)), (51, .putfield 88, 3, ([1, 3, 0], .null)), (56, .lreturn, 1, ([], .null))]) (by decide +kernel) ?_)⟩
  refine pk_c (pk_0 (Or.inr rfl) ⟨0, 0, rfl, lf_D_12⟩ (Or.inr rfl)) ?_
  refine pk_c (pk_4 lm_D_80) ?_
  refine pk_c (pk_0 (Or.inr rfl) ⟨17, rfl, by decide⟩ (Or.inr rfl)) ?_
  refine pk_c (pk_0 (Or.inr rfl) ⟨18, rfl, by decide⟩ (Or.inr rfl)) ?_
  refine pk_c (pk_4 lm_D_61) ?_
  refine pk_c (pk_0 (Or.inr rfl) ⟨0, 0, rfl, lf_D_12⟩ (Or.inr rfl)) ?_
  refine pk_c (pk_0 (Or.inr rfl) ⟨1, 0, rfl, lf_D_84⟩ (Or.inr rfl)) ?_
  refine pk_c (pk_0 (Or.inr rfl) ⟨0, 0, rfl, lf_D_12⟩ (Or.inr rfl)) ?_
  refine pk_c (pk_0 (Or.inr rfl) ⟨1, 0, rfl, lf_D_84⟩ (Or.inr rfl)) ?_
  refine pk_c (pk_0 (Or.inr rfl) ⟨0, 0, rfl, lf_D_12⟩ (Or.inr rfl)) ?_
  refine pk_c (pk_0 (Or.inr rfl) ⟨1, 3, 0, rfl, lp_D_88 _⟩ (Or.inr rfl)) ?_
  refine pk_c (pk_2 rfl rfl) ?_
  exact pk_n
theorem ok_Me_holds {s0 : State} (hS : pm_Str s0) : pm_OKI s0 mi_Me_holds := by
  refine ⟨Or.inl ⟨w_390, rfl⟩, w_2, by decide +kernel, ⟨by decide +kernel, by decide +kernel⟩, by decide, by decide +kernel, pk_i (by decide +kernel) (pk_all (ks := [(3, .ifCond .lt 32, 3, ([35], .null)), (8, .getfield 20, 3, ([1, 2], .null)), (13, .ifCond .ge 22, 3, ([35], .null)), (17, .ifCond .lt 18, 3, ([35], .null)), (22, .getfield 16, 3, ([1, 1], .null)), (28, .if_icmp .ge 7, 3, ([35], .null)), (32, .goto 4, 3, ([36], .null)), (36, .ireturn, 1, ([1], .null))]) (by decide +kernel) ?_)⟩
  refine pk_c (pk_0 (Or.inr rfl) ⟨35, rfl, by decide⟩ (Or.inr rfl)) ?_
  refine pk_c (pk_0 (Or.inr rfl) ⟨1, 2, rfl, lf_Me_20⟩ (Or.inr rfl)) ?_
  refine pk_c (pk_0 (Or.inr rfl) ⟨35, rfl, by decide⟩ (Or.inr rfl)) ?_
  refine pk_c (pk_0 (Or.inr rfl) ⟨35, rfl, by decide⟩ (Or.inr rfl)) ?_
  refine pk_c (pk_0 (Or.inr rfl) ⟨1, 1, rfl, lf_Me_16⟩ (Or.inr rfl)) ?_
  refine pk_c (pk_0 (Or.inr rfl) ⟨35, rfl, by decide⟩ (Or.inr rfl)) ?_
  refine pk_c (pk_0 (Or.inr rfl) ⟨36, rfl, by decide⟩ (Or.inr rfl)) ?_
  refine pk_c (pk_2 rfl (Or.inr ⟨rfl, rfl⟩)) ?_
  exact pk_n
theorem ok_L_at {s0 : State} (hS : pm_Str s0) : pm_OKI s0 mi_L_at := by
  refine ⟨Or.inr ⟨_, w_393, pk_hs ⟨rfl, rfl, by decide, ⟨by decide, by decide⟩, by decide, w_281, w_291, Or.inl ⟨by decide +kernel, rfl⟩⟩ (pk_h0)⟩, w_0, by decide +kernel, ⟨by decide +kernel, by decide +kernel⟩, by decide, by decide +kernel, pk_i (by decide +kernel) (pk_all (ks := [(5, .invokevirtual 19, 3, ([23, 3, 0, 1], .null)), (9, .goto 7, 3, ([16], .null)), (15, .ireturn, 1, ([], .null)), (17, .ireturn, 1, ([], .null))]) (by decide +kernel) ?_)⟩
  refine pk_c (pk_4 lm_L_19) ?_
  refine pk_c (pk_0 (Or.inr rfl) ⟨16, rfl, by decide⟩ (Or.inr rfl)) ?_
  refine pk_c (pk_2 rfl (Or.inl ⟨rfl, rfl⟩)) ?_
  refine pk_c (pk_2 rfl (Or.inl ⟨rfl, rfl⟩)) ?_
  exact pk_n
theorem ok_D_at {s0 : State} (hS : pm_Str s0) : pm_OKI s0 mi_D_at := by
  refine ⟨Or.inl ⟨w_397, rfl⟩, w_1, by decide +kernel, ⟨by decide +kernel, by decide +kernel⟩, by decide, by decide +kernel, pk_i (by decide +kernel) (pk_all (ks := [(1, .getfield 12, 3, ([0, 0], .null)), (7, .invokevirtual 80, 3, ([21, 3, 0, 2], .null)), (10, .ifCond .ne 7, 3, ([17], .null)), (14, .goto 4, 3, ([18], .null)), (18, .invokestatic 61, 3, ([12, 1, 0, 0], .null)), (22, .getfield 12, 3, ([0, 0], .null)), (25, .getfield 84, 3, ([1, 0], .null)), (32, .lreturn, 1, ([], .null))]) (by decide +kernel) ?_)⟩
  refine pk_c (pk_0 (Or.inr rfl) ⟨0, 0, rfl, lf_D_12⟩ (Or.inr rfl)) ?_
  refine pk_c (pk_4 lm_D_80) ?_
  refine pk_c (pk_0 (Or.inr rfl) ⟨17, rfl, by decide⟩ (Or.inr rfl)) ?_
  refine pk_c (pk_0 (Or.inr rfl) ⟨18, rfl, by decide⟩ (Or.inr rfl)) ?_
  refine pk_c (pk_4 lm_D_61) ?_
  refine pk_c (pk_0 (Or.inr rfl) ⟨0, 0, rfl, lf_D_12⟩ (Or.inr rfl)) ?_
  refine pk_c (pk_0 (Or.inr rfl) ⟨1, 0, rfl, lf_D_84⟩ (Or.inr rfl)) ?_
  refine pk_c (pk_2 rfl rfl) ?_
  exact pk_n
theorem ok_L_allow {s0 : State} (hS : pm_Str s0) : pm_OKI s0 mi_L_allow := by
  refine ⟨Or.inr ⟨_, w_400, pk_hs ⟨rfl, rfl, by decide, ⟨by decide, by decide⟩, by decide, w_281, w_291, Or.inr ⟨3, rfl, by decide +kernel, rfl⟩⟩ (pk_h0)⟩, w_0, by decide +kernel, ⟨by decide +kernel, by decide +kernel⟩, by decide, by decide +kernel, pk_i (by decide +kernel) (pk_all (ks := [(4, .invokevirtual 23, 3, ([25, 2, 0, 1], .null)), (9, .goto 6, 3, ([15], .null)), (14, .ireturn, 1, ([], .null)), (16, .ireturn, 1, ([], .null))]) (by decide +kernel) ?_)⟩
  refine pk_c (pk_4 lm_L_23) ?_
  refine pk_c (pk_0 (Or.inr rfl) ⟨15, rfl, by decide⟩ (Or.inr rfl)) ?_
  refine pk_c (pk_2 rfl (Or.inl ⟨rfl, rfl⟩)) ?_
  refine pk_c (pk_2 rfl (Or.inl ⟨rfl, rfl⟩)) ?_
  exact pk_n
theorem ok_D_allow {s0 : State} (hS : pm_Str s0) : pm_OKI s0 mi_D_allow := by
  refine ⟨Or.inl ⟨w_404, rfl⟩, w_1, by decide +kernel, ⟨by decide +kernel, by decide +kernel⟩, by decide, by decide +kernel, pk_i (by decide +kernel) (pk_all (ks := [(1, .ifCond .lt 9, 3, ([10], .null)), (5, .ldc 92, 2, ([], .int 100000)), (7, .if_icmp .le 7, 3, ([14], .null)), (11, .goto 4, 3, ([15], .null)), (15, .invokestatic 61, 3, ([12, 1, 0, 0], .null)), (19, .getfield 19, 3, ([0, 1], .null)), (22, .getfield 93, 3, ([2, 0], .null)), (27, .getfield 19, 3, ([0, 1], .null)), (31, .putfield 93, 3, ([2, 0, 0], .null)), (35, .ireturn, 1, ([], .null))]) (by decide +kernel) ?_)⟩
  refine pk_c (pk_0 (Or.inr rfl) ⟨10, rfl, by decide⟩ (Or.inr rfl)) ?_
  refine pk_c (pk_0 (Or.inr rfl) w_405 (Or.inr rfl)) ?_
  refine pk_c (pk_0 (Or.inr rfl) ⟨14, rfl, by decide⟩ (Or.inr rfl)) ?_
  refine pk_c (pk_0 (Or.inr rfl) ⟨15, rfl, by decide⟩ (Or.inr rfl)) ?_
  refine pk_c (pk_4 lm_D_61) ?_
  refine pk_c (pk_0 (Or.inr rfl) ⟨0, 1, rfl, lf_D_19⟩ (Or.inr rfl)) ?_
  refine pk_c (pk_0 (Or.inr rfl) ⟨2, 0, rfl, lf_D_93⟩ (Or.inr rfl)) ?_
  refine pk_c (pk_0 (Or.inr rfl) ⟨0, 1, rfl, lf_D_19⟩ (Or.inr rfl)) ?_
  refine pk_c (pk_0 (Or.inr rfl) ⟨2, 0, 0, rfl, lp_D_93 _⟩ (Or.inr rfl)) ?_
  refine pk_c (pk_2 rfl (Or.inl ⟨rfl, rfl⟩)) ?_
  exact pk_n
theorem ok_L_root {s0 : State} (hS : pm_Str s0) : pm_OKI s0 mi_L_root := by
  refine ⟨Or.inr ⟨_, w_408, pk_hs ⟨rfl, rfl, by decide, ⟨by decide, by decide⟩, by decide, w_281, w_291, Or.inl ⟨by decide +kernel, rfl⟩⟩ (pk_hs ⟨rfl, rfl, by decide, ⟨by decide, by decide⟩, by decide, w_409, w_422, Or.inl ⟨by decide +kernel, rfl⟩⟩ (pk_h0))⟩, w_0, by decide +kernel, ⟨by decide +kernel, by decide +kernel⟩, by decide, by decide +kernel, pk_i (by decide +kernel) (pk_all (ks := [(5, .invokevirtual 27, 3, ([27, 3, 0, 1], .null)), (10, .goto 11, 3, ([21], .null)), (16, .ireturn, 1, ([], .null)), (20, .ireturn, 1, ([], .null)), (22, .ireturn, 1, ([], .null))]) (by decide +kernel) ?_)⟩
  refine pk_c (pk_4 lm_L_27) ?_
  refine pk_c (pk_0 (Or.inr rfl) ⟨21, rfl, by decide⟩ (Or.inr rfl)) ?_
  refine pk_c (pk_2 rfl (Or.inl ⟨rfl, rfl⟩)) ?_
  refine pk_c (pk_2 rfl (Or.inl ⟨rfl, rfl⟩)) ?_
  refine pk_c (pk_2 rfl (Or.inl ⟨rfl, rfl⟩)) ?_
  exact pk_n
theorem ok_D_root {s0 : State} (hS : pm_Str s0) : pm_OKI s0 mi_D_root := by
  refine ⟨Or.inl ⟨w_413, rfl⟩, w_1, by decide +kernel, ⟨by decide +kernel, by decide +kernel⟩, by decide, by decide +kernel, pk_i (by decide +kernel) (pk_all (ks := [(1, .invokestatic 96, 3, ([28, 1, 0, 0], .null)), (4, .ifCond .eq 13, 3, ([17], .null)), (8, .ifCond .lt 9, 3, ([17], .null)), (14, .if_icmp .le 7, 3, ([21], .null)), (18, .goto 4, 3, ([22], .null)), (22, .invokestatic 61, 3, ([12, 1, 0, 0], .null)), (26, .getfield 12, 3, ([0, 0], .null)), (31, .invokevirtual 80, 3, ([21, 3, 0, 2], .null)), (34, .ifCond .ne 7, 3, ([41], .null)), (38, .goto 4, 3, ([42], .null)), (42, .invokestatic 100, 3, ([29, 1, 0, 0], .null)), (46, .getfield 19, 3, ([0, 1], .null)), (50, .getfield 12, 3, ([0, 0], .null)), (54, .getfield 46, 3, ([0, 5], .null)), (62, .invokevirtual 103, 3, ([30, 6, 0, 3], .null)), (66, .getfield 46, 3, ([0, 5], .null)), (71, .getfield 107, 3, ([7, 0], .null)), (74, .ireturn, 1, ([], .null))]) (by decide +kernel) ?_)⟩
  refine pk_c (pk_4 lm_D_96) ?_
  refine pk_c (pk_0 (Or.inr rfl) ⟨17, rfl, by decide⟩ (Or.inr rfl)) ?_
  refine pk_c (pk_0 (Or.inr rfl) ⟨17, rfl, by decide⟩ (Or.inr rfl)) ?_
  refine pk_c (pk_0 (Or.inr rfl) ⟨21, rfl, by decide⟩ (Or.inr rfl)) ?_
  refine pk_c (pk_0 (Or.inr rfl) ⟨22, rfl, by decide⟩ (Or.inr rfl)) ?_
  refine pk_c (pk_4 lm_D_61) ?_
  refine pk_c (pk_0 (Or.inr rfl) ⟨0, 0, rfl, lf_D_12⟩ (Or.inr rfl)) ?_
  refine pk_c (pk_4 lm_D_80) ?_
  refine pk_c (pk_0 (Or.inr rfl) ⟨41, rfl, by decide⟩ (Or.inr rfl)) ?_
  refine pk_c (pk_0 (Or.inr rfl) ⟨42, rfl, by decide⟩ (Or.inr rfl)) ?_
  refine pk_c (pk_4 lm_D_100) ?_
  refine pk_c (pk_0 (Or.inr rfl) ⟨0, 1, rfl, lf_D_19⟩ (Or.inr rfl)) ?_
  refine pk_c (pk_0 (Or.inr rfl) ⟨0, 0, rfl, lf_D_12⟩ (Or.inr rfl)) ?_
  refine pk_c (pk_0 (Or.inr rfl) ⟨0, 5, rfl, lf_D_46⟩ (Or.inr rfl)) ?_
  refine pk_c (pk_4 lm_D_103) ?_
  refine pk_c (pk_0 (Or.inr rfl) ⟨0, 5, rfl, lf_D_46⟩ (Or.inr rfl)) ?_
  refine pk_c (pk_0 (Or.inr rfl) ⟨7, 0, rfl, lf_D_107⟩ (Or.inr rfl)) ?_
  refine pk_c (pk_2 rfl (Or.inl ⟨rfl, rfl⟩)) ?_
  exact pk_n
theorem ok_D_isCursor {s0 : State} (hS : pm_Str s0) : pm_OKI s0 mi_D_isCursor := by
  refine ⟨Or.inl ⟨w_416, rfl⟩, w_1, by decide +kernel, ⟨by decide +kernel, by decide +kernel⟩, by decide, by decide +kernel, pk_i (by decide +kernel) (pk_all (ks := [(1, .ifCond .lt 13, 3, ([14], .null)), (7, .if_icmp .ge 7, 3, ([14], .null)), (11, .goto 4, 3, ([15], .null)), (15, .ireturn, 1, ([1], .null))]) (by decide +kernel) ?_)⟩
  refine pk_c (pk_0 (Or.inr rfl) ⟨14, rfl, by decide⟩ (Or.inr rfl)) ?_
  refine pk_c (pk_0 (Or.inr rfl) ⟨14, rfl, by decide⟩ (Or.inr rfl)) ?_
  refine pk_c (pk_0 (Or.inr rfl) ⟨15, rfl, by decide⟩ (Or.inr rfl)) ?_
  refine pk_c (pk_2 rfl (Or.inr ⟨rfl, rfl⟩)) ?_
  exact pk_n
theorem ok_D_malformedIf {s0 : State} (hS : pm_Str s0) : pm_OKI s0 mi_D_malformedIf := by
  refine ⟨Or.inl ⟨w_419, rfl⟩, w_1, by decide +kernel, ⟨by decide +kernel, by decide +kernel⟩, by decide, by decide +kernel, pk_i (by decide +kernel) (pk_all (ks := [(1, .ifCond .eq 14, 3, ([15], .null)), (4, .new 322, 3, ([2, 1, 6], .null)), (15, .return_, 1, ([], .null))]) (by decide +kernel) ?_)⟩
  refine pk_c (pk_0 (Or.inr rfl) ⟨15, rfl, by decide⟩ (Or.inr rfl)) ?_
  refine pk_c (pk_3 ⟨by decide, by decide⟩ rfl (pk_x (is := 324) (ic := 326) (wl := 3) (text := "malformed") hS (List.mem_of_getElem? (i := 4) rfl) (by decide +kernel) w_420 w_16 (by decide +kernel) oa_2)) ?_
  refine pk_c (pk_2 rfl rfl) ?_
  exact pk_n
theorem ok_Re_lead {s0 : State} (hS : pm_Str s0) : pm_OKI s0 mi_Re_lead := by
  refine ⟨Or.inl ⟨w_439, rfl⟩, w_3, by decide +kernel, ⟨by decide +kernel, by decide +kernel⟩, by decide, by decide +kernel, pk_i (by decide +kernel) (pk_all (ks := [(1, .getfield 15, 3, ([1, 0], .null)), (15, .ifCond .ne 8, 3, ([23], .null)), (19, .invokevirtual 21, 3, ([17, 1, 0, 8], .null)), (22, .return_, 1, ([], .null)), (30, .invokevirtual 26, 3, ([31, 5, 0, 3], .null)), (35, .ifCond .ne 7, 3, ([42], .null)), (39, .goto 4, 3, ([43], .null)), (43, .invokestatic 30, 3, ([29, 1, 0, 0], .null)), (47, .getfield 34, 3, ([2, 3], .null)), (50, .invokestatic 38, 3, ([32, 1, 0, 0], .null)), (53, .ifCond .ne 16, 3, ([69], .null)), (63, .invokevirtual 44, 3, ([40, 4, 0, 3], .null)), (66, .goto 38, 3, ([104], .null)), (70, .getfield 34, 3, ([2, 3], .null)), (73, .invokestatic 48, 3, ([46, 1, 0, 0], .null)), (78, .if_icmp .ne 16, 3, ([94], .null)), (88, .invokevirtual 51, 3, ([47, 4, 0, 3], .null)), (91, .goto 13, 3, ([104], .null)), (101, .invokevirtual 54, 3, ([50, 4, 0, 3], .null)), (104, .return_, 1, ([], .null))]) (by decide +kernel) ?_)⟩
  refine pk_c (pk_0 (Or.inr rfl) ⟨1, 0, rfl, lf_Re_15⟩ (Or.inr rfl)) ?_
  refine pk_c (pk_0 (Or.inr rfl) ⟨23, rfl, by decide⟩ (Or.inr rfl)) ?_
  refine pk_c (pk_4 lm_Re_21) ?_
  refine pk_c (pk_2 rfl rfl) ?_
  refine pk_c (pk_4 lm_Re_26) ?_
  refine pk_c (pk_0 (Or.inr rfl) ⟨42, rfl, by decide⟩ (Or.inr rfl)) ?_
  refine pk_c (pk_0 (Or.inr rfl) ⟨43, rfl, by decide⟩ (Or.inr rfl)) ?_
  refine pk_c (pk_4 lm_Re_30) ?_
  refine pk_c (pk_0 (Or.inr rfl) ⟨2, 3, rfl, lf_Re_34⟩ (Or.inr rfl)) ?_
  refine pk_c (pk_4 lm_Re_38) ?_
  refine pk_c (pk_0 (Or.inr rfl) ⟨69, rfl, by decide⟩ (Or.inr rfl)) ?_
  refine pk_c (pk_4 lm_Re_44) ?_
  refine pk_c (pk_0 (Or.inr rfl) ⟨104, rfl, by decide⟩ (Or.inr rfl)) ?_
  refine pk_c (pk_0 (Or.inr rfl) ⟨2, 3, rfl, lf_Re_34⟩ (Or.inr rfl)) ?_
  refine pk_c (pk_4 lm_Re_48) ?_
  refine pk_c (pk_0 (Or.inr rfl) ⟨94, rfl, by decide⟩ (Or.inr rfl)) ?_
  refine pk_c (pk_4 lm_Re_51) ?_
  refine pk_c (pk_0 (Or.inr rfl) ⟨104, rfl, by decide⟩ (Or.inr rfl)) ?_
  refine pk_c (pk_4 lm_Re_54) ?_
  refine pk_c (pk_2 rfl rfl) ?_
  exact pk_n
theorem ok_Re_find {s0 : State} (hS : pm_Str s0) : pm_OKI s0 mi_Re_find := by
  refine ⟨Or.inl ⟨w_444, rfl⟩, w_3, by decide +kernel, ⟨by decide +kernel, by decide +kernel⟩, by decide, by decide +kernel, pk_i (by decide +kernel) (pk_all (ks := [(1, .invokestatic 38, 3, ([32, 1, 0, 0], .null)), (5, .if_icmp .eq 13, 3, ([18], .null)), (14, .invokevirtual 57, 3, ([33, 4, 0, 3], .null)), (17, .return_, 1, ([], .null)), (19, .invokestatic 61, 3, ([36, 1, 0, 0], .null)), (25, .invokestatic 65, 3, ([37, 1, 0, 0], .null)), (35, .invokevirtual 68, 3, ([21, 3, 0, 2], .null)), (38, .ifCond .ne 7, 3, ([45], .null)), (42, .goto 4, 3, ([46], .null)), (46, .invokestatic 30, 3, ([29, 1, 0, 0], .null)), (50, .invokestatic 72, 3, ([38, 1, 0, 0], .null)), (53, .ifCond .eq 56, 3, ([109], .null)), (63, .invokevirtual 68, 3, ([21, 3, 0, 2], .null)), (66, .ifCond .ne 7, 3, ([73], .null)), (70, .goto 4, 3, ([74], .null)), (74, .invokestatic 30, 3, ([29, 1, 0, 0], .null)), (80, .getfield 15, 3, ([1, 0], .null)), (91, .getfield 15, 3, ([1, 0], .null)), (103, .invokevirtual 76, 3, ([39, 4, 0, 3], .null)), (106, .goto 47, 3, ([153], .null)), (110, .getfield 15, 3, ([1, 0], .null)), (122, .ifCond .ne 7, 3, ([129], .null)), (126, .goto 4, 3, ([130], .null)), (130, .invokestatic 30, 3, ([29, 1, 0, 0], .null)), (135, .getfield 15, 3, ([1, 0], .null)), (150, .invokevirtual 57, 3, ([33, 4, 0, 3], .null)), (153, .return_, 1, ([], .null))]) (by decide +kernel) ?_)⟩
  refine pk_c (pk_4 lm_Re_38) ?_
  refine pk_c (pk_0 (Or.inr rfl) ⟨18, rfl, by decide⟩ (Or.inr rfl)) ?_
  refine pk_c (pk_4 lm_Re_57) ?_
  refine pk_c (pk_2 rfl rfl) ?_
  refine pk_c (pk_4 lm_Re_61) ?_
  refine pk_c (pk_4 lm_Re_65) ?_
  refine pk_c (pk_4 lm_Re_68) ?_
  refine pk_c (pk_0 (Or.inr rfl) ⟨45, rfl, by decide⟩ (Or.inr rfl)) ?_
  refine pk_c (pk_0 (Or.inr rfl) ⟨46, rfl, by decide⟩ (Or.inr rfl)) ?_
  refine pk_c (pk_4 lm_Re_30) ?_
  refine pk_c (pk_4 lm_Re_72) ?_
  refine pk_c (pk_0 (Or.inr rfl) ⟨109, rfl, by decide⟩ (Or.inr rfl)) ?_
  refine pk_c (pk_4 lm_Re_68) ?_
  refine pk_c (pk_0 (Or.inr rfl) ⟨73, rfl, by decide⟩ (Or.inr rfl)) ?_
  refine pk_c (pk_0 (Or.inr rfl) ⟨74, rfl, by decide⟩ (Or.inr rfl)) ?_
  refine pk_c (pk_4 lm_Re_30) ?_
  refine pk_c (pk_0 (Or.inr rfl) ⟨1, 0, rfl, lf_Re_15⟩ (Or.inr rfl)) ?_
  refine pk_c (pk_0 (Or.inr rfl) ⟨1, 0, rfl, lf_Re_15⟩ (Or.inr rfl)) ?_
  refine pk_c (pk_4 lm_Re_76) ?_
  refine pk_c (pk_0 (Or.inr rfl) ⟨153, rfl, by decide⟩ (Or.inr rfl)) ?_
  refine pk_c (pk_0 (Or.inr rfl) ⟨1, 0, rfl, lf_Re_15⟩ (Or.inr rfl)) ?_
  refine pk_c (pk_0 (Or.inr rfl) ⟨129, rfl, by decide⟩ (Or.inr rfl)) ?_
  refine pk_c (pk_0 (Or.inr rfl) ⟨130, rfl, by decide⟩ (Or.inr rfl)) ?_
  refine pk_c (pk_4 lm_Re_30) ?_
  refine pk_c (pk_0 (Or.inr rfl) ⟨1, 0, rfl, lf_Re_15⟩ (Or.inr rfl)) ?_
  refine pk_c (pk_4 lm_Re_57) ?_
  refine pk_c (pk_2 rfl rfl) ?_
  exact pk_n
theorem ok_Po_kind {s0 : State} (hS : pm_Str s0) : pm_OKI s0 mi_Po_kind := by
  refine ⟨Or.inl ⟨w_447, rfl⟩, w_17, by decide +kernel, ⟨by decide +kernel, by decide +kernel⟩, by decide, by decide +kernel, pk_i (by decide +kernel) (pk_all (ks := [(4, .ireturn, 1, ([], .null))]) (by decide +kernel) ?_)⟩
  refine pk_c (pk_2 rfl (Or.inl ⟨rfl, rfl⟩)) ?_
  exact pk_n
theorem ok_Re_findNear {s0 : State} (hS : pm_Str s0) : pm_OKI s0 mi_Re_findNear := by
  refine ⟨Or.inl ⟨w_451, rfl⟩, w_3, by decide +kernel, ⟨by decide +kernel, by decide +kernel⟩, by decide, by decide +kernel, pk_i (by decide +kernel) (pk_all (ks := [(1, .invokestatic 80, 3, ([34, 1, 0, 0], .null)), (4, .ifCond .ne 7, 3, ([11], .null)), (8, .goto 4, 3, ([12], .null)), (12, .invokestatic 30, 3, ([29, 1, 0, 0], .null)), (17, .putfield 83, 3, ([2, 1, 0], .null)), (26, .invokestatic 86, 3, ([35, 1, 0, 0], .null)), (30, .putfield 89, 3, ([2, 2, 0], .null)), (35, .putfield 34, 3, ([2, 3, 1], .null)), (38, .return_, 1, ([], .null))]) (by decide +kernel) ?_)⟩
  refine pk_c (pk_4 lm_Re_80) ?_
  refine pk_c (pk_0 (Or.inr rfl) ⟨11, rfl, by decide⟩ (Or.inr rfl)) ?_
  refine pk_c (pk_0 (Or.inr rfl) ⟨12, rfl, by decide⟩ (Or.inr rfl)) ?_
  refine pk_c (pk_4 lm_Re_30) ?_
  refine pk_c (pk_0 (Or.inr rfl) ⟨2, 1, 0, rfl, lp_Re_83 _⟩ (Or.inr rfl)) ?_
  refine pk_c (pk_4 lm_Re_86) ?_
  refine pk_c (pk_0 (Or.inr rfl) ⟨2, 2, 0, rfl, lp_Re_89 _⟩ (Or.inr rfl)) ?_
  refine pk_c (pk_0 (Or.inr rfl) ⟨2, 3, 1, rfl, lp_Re_34 _⟩ (Or.inr rfl)) ?_
  refine pk_c (pk_2 rfl rfl) ?_
  exact pk_n
theorem ok_Po_isNear {s0 : State} (hS : pm_Str s0) : pm_OKI s0 mi_Po_isNear := by
  refine ⟨Or.inl ⟨w_454, rfl⟩, w_17, by decide +kernel, ⟨by decide +kernel, by decide +kernel⟩, by decide, by decide +kernel, pk_i (by decide +kernel) (pk_all (ks := [(1, .ldc2_w 7, 3, ([], .long 2)), (7, .ifCond .ne 7, 3, ([14], .null)), (11, .goto 4, 3, ([15], .null)), (15, .ireturn, 1, ([1], .null))]) (by decide +kernel) ?_)⟩
  refine pk_c (pk_0 (Or.inr rfl) w_455 (Or.inr rfl)) ?_
  refine pk_c (pk_0 (Or.inr rfl) ⟨14, rfl, by decide⟩ (Or.inr rfl)) ?_
  refine pk_c (pk_0 (Or.inr rfl) ⟨15, rfl, by decide⟩ (Or.inr rfl)) ?_
  refine pk_c (pk_2 rfl (Or.inr ⟨rfl, rfl⟩)) ?_
  exact pk_n
theorem ok_Po_offset {s0 : State} (hS : pm_Str s0) : pm_OKI s0 mi_Po_offset := by
  refine ⟨Or.inl ⟨w_459, rfl⟩, w_17, by decide +kernel, ⟨by decide +kernel, by decide +kernel⟩, by decide, by decide +kernel, pk_i (by decide +kernel) (pk_all (ks := [(4, .ireturn, 1, ([], .null))]) (by decide +kernel) ?_)⟩
  refine pk_c (pk_2 rfl (Or.inl ⟨rfl, rfl⟩)) ?_
  exact pk_n
theorem ok_Po_farSegment {s0 : State} (hS : pm_Str s0) : pm_OKI s0 mi_Po_farSegment := by
  refine ⟨Or.inl ⟨w_462, rfl⟩, w_17, by decide +kernel, ⟨by decide +kernel, by decide +kernel⟩, by decide, by decide +kernel, pk_i (by decide +kernel) (pk_all (ks := [(4, .lreturn, 1, ([], .null))]) (by decide +kernel) ?_)⟩
  refine pk_c (pk_2 rfl rfl) ?_
  exact pk_n
theorem ok_Po_farPlace {s0 : State} (hS : pm_Str s0) : pm_OKI s0 mi_Po_farPlace := by
  refine ⟨Or.inl ⟨w_465, rfl⟩, w_17, by decide +kernel, ⟨by decide +kernel, by decide +kernel⟩, by decide, by decide +kernel, pk_i (by decide +kernel) (pk_all (ks := [(4, .ireturn, 1, ([], .null))]) (by decide +kernel) ?_)⟩
  refine pk_c (pk_2 rfl (Or.inl ⟨rfl, rfl⟩)) ?_
  exact pk_n
theorem ok_Po_isDouble {s0 : State} (hS : pm_Str s0) : pm_OKI s0 mi_Po_isDouble := by
  refine ⟨Or.inl ⟨w_469, rfl⟩, w_17, by decide +kernel, ⟨by decide +kernel, by decide +kernel⟩, by decide, by decide +kernel, pk_i (by decide +kernel) (pk_all (ks := [(1, .ldc2_w 10, 3, ([], .long 4)), (7, .ifCond .eq 7, 3, ([14], .null)), (11, .goto 4, 3, ([15], .null)), (15, .ireturn, 1, ([1], .null))]) (by decide +kernel) ?_)⟩
  refine pk_c (pk_0 (Or.inr rfl) w_470 (Or.inr rfl)) ?_
  refine pk_c (pk_0 (Or.inr rfl) ⟨14, rfl, by decide⟩ (Or.inr rfl)) ?_
  refine pk_c (pk_0 (Or.inr rfl) ⟨15, rfl, by decide⟩ (Or.inr rfl)) ?_
  refine pk_c (pk_2 rfl (Or.inr ⟨rfl, rfl⟩)) ?_
  exact pk_n
theorem ok_Re_findDouble {s0 : State} (hS : pm_Str s0) : pm_OKI s0 mi_Re_findDouble := by
  refine ⟨Or.inl ⟨w_474, rfl⟩, w_3, by decide +kernel, ⟨by decide +kernel, by decide +kernel⟩, by decide, by decide +kernel, pk_i (by decide +kernel) (pk_all (ks := [(1, .invokestatic 38, 3, ([32, 1, 0, 0], .null)), (5, .if_icmp .ne 10, 3, ([15], .null)), (9, .invokestatic 72, 3, ([38, 1, 0, 0], .null)), (12, .ifCond .eq 7, 3, ([19], .null)), (16, .goto 4, 3, ([20], .null)), (20, .invokestatic 30, 3, ([29, 1, 0, 0], .null)), (24, .invokestatic 61, 3, ([36, 1, 0, 0], .null)), (28, .getfield 92, 3, ([1, 2], .null)), (33, .ifCond .lt 7, 3, ([40], .null)), (37, .goto 4, 3, ([41], .null)), (41, .invokestatic 30, 3, ([29, 1, 0, 0], .null)), (46, .invokestatic 80, 3, ([34, 1, 0, 0], .null)), (49, .ifCond .eq 11, 3, ([60], .null)), (54, .invokestatic 86, 3, ([35, 1, 0, 0], .null)), (57, .ifCond .eq 7, 3, ([64], .null)), (61, .goto 4, 3, ([65], .null)), (65, .invokestatic 30, 3, ([29, 1, 0, 0], .null)), (70, .invokestatic 61, 3, ([36, 1, 0, 0], .null)), (74, .putfield 83, 3, ([2, 1, 0], .null)), (79, .invokestatic 65, 3, ([37, 1, 0, 0], .null)), (82, .putfield 89, 3, ([2, 2, 0], .null)), (88, .putfield 34, 3, ([2, 3, 1], .null)), (91, .return_, 1, ([], .null))]) (by decide +kernel) ?_)⟩
  refine pk_c (pk_4 lm_Re_38) ?_
  refine pk_c (pk_0 (Or.inr rfl) ⟨15, rfl, by decide⟩ (Or.inr rfl)) ?_
  refine pk_c (pk_4 lm_Re_72) ?_
  refine pk_c (pk_0 (Or.inr rfl) ⟨19, rfl, by decide⟩ (Or.inr rfl)) ?_
  refine pk_c (pk_0 (Or.inr rfl) ⟨20, rfl, by decide⟩ (Or.inr rfl)) ?_
  refine pk_c (pk_4 lm_Re_30) ?_
  refine pk_c (pk_4 lm_Re_61) ?_
  refine pk_c (pk_0 (Or.inr rfl) ⟨1, 2, rfl, lf_Re_92⟩ (Or.inr rfl)) ?_
  refine pk_c (pk_0 (Or.inr rfl) ⟨40, rfl, by decide⟩ (Or.inr rfl)) ?_
  refine pk_c (pk_0 (Or.inr rfl) ⟨41, rfl, by decide⟩ (Or.inr rfl)) ?_
  refine pk_c (pk_4 lm_Re_30) ?_
  refine pk_c (pk_4 lm_Re_80) ?_
  refine pk_c (pk_0 (Or.inr rfl) ⟨60, rfl, by decide⟩ (Or.inr rfl)) ?_
  refine pk_c (pk_4 lm_Re_86) ?_
  refine pk_c (pk_0 (Or.inr rfl) ⟨64, rfl, by decide⟩ (Or.inr rfl)) ?_
  refine pk_c (pk_0 (Or.inr rfl) ⟨65, rfl, by decide⟩ (Or.inr rfl)) ?_
  refine pk_c (pk_4 lm_Re_30) ?_
  refine pk_c (pk_4 lm_Re_61) ?_
  refine pk_c (pk_0 (Or.inr rfl) ⟨2, 1, 0, rfl, lp_Re_83 _⟩ (Or.inr rfl)) ?_
  refine pk_c (pk_4 lm_Re_65) ?_
  refine pk_c (pk_0 (Or.inr rfl) ⟨2, 2, 0, rfl, lp_Re_89 _⟩ (Or.inr rfl)) ?_
  refine pk_c (pk_0 (Or.inr rfl) ⟨2, 3, 1, rfl, lp_Re_34 _⟩ (Or.inr rfl)) ?_
  refine pk_c (pk_2 rfl rfl) ?_
  exact pk_n
theorem ok_Re_leadToStruct {s0 : State} (hS : pm_Str s0) : pm_OKI s0 mi_Re_leadToStruct := by
  refine ⟨Or.inl ⟨w_478, rfl⟩, w_3, by decide +kernel, ⟨by decide +kernel, by decide +kernel⟩, by decide, by decide +kernel, pk_i (by decide +kernel) (pk_all (ks := [(1, .getfield 34, 3, ([2, 3], .null)), (4, .invokestatic 95, 3, ([41, 1, 0, 0], .null)), (10, .getfield 34, 3, ([2, 3], .null)), (13, .invokestatic 98, 3, ([42, 1, 0, 0], .null)), (25, .invokevirtual 101, 3, ([43, 3, 0, 3], .null)), (34, .invokevirtual 105, 3, ([44, 2, 0, 3], .null)), (39, .getfield 83, 3, ([2, 1], .null)), (43, .getfield 89, 3, ([2, 2], .null)), (54, .invokevirtual 109, 3, ([45, 6, 0, 8], .null)), (57, .return_, 1, ([], .null))]) (by decide +kernel) ?_)⟩
  refine pk_c (pk_0 (Or.inr rfl) ⟨2, 3, rfl, lf_Re_34⟩ (Or.inr rfl)) ?_
  refine pk_c (pk_4 lm_Re_95) ?_
  refine pk_c (pk_0 (Or.inr rfl) ⟨2, 3, rfl, lf_Re_34⟩ (Or.inr rfl)) ?_
  refine pk_c (pk_4 lm_Re_98) ?_
  refine pk_c (pk_4 lm_Re_101) ?_
  refine pk_c (pk_4 lm_Re_105) ?_
  refine pk_c (pk_0 (Or.inr rfl) ⟨2, 1, rfl, lf_Re_83⟩ (Or.inr rfl)) ?_
  refine pk_c (pk_0 (Or.inr rfl) ⟨2, 2, rfl, lf_Re_89⟩ (Or.inr rfl)) ?_
  refine pk_c (pk_4 lm_Re_109) ?_
  refine pk_c (pk_2 rfl rfl) ?_
  exact pk_n
theorem ok_Po_data {s0 : State} (hS : pm_Str s0) : pm_OKI s0 mi_Po_data := by
  refine ⟨Or.inl ⟨w_481, rfl⟩, w_17, by decide +kernel, ⟨by decide +kernel, by decide +kernel⟩, by decide, by decide +kernel, pk_i (by decide +kernel) (pk_all (ks := [(5, .ldc 9, 2, ([], .int 65535)), (8, .ireturn, 1, ([], .null))]) (by decide +kernel) ?_)⟩
  refine pk_c (pk_0 (Or.inr rfl) w_482 (Or.inr rfl)) ?_
  refine pk_c (pk_2 rfl (Or.inl ⟨rfl, rfl⟩)) ?_
  exact pk_n
theorem ok_Po_pointers {s0 : State} (hS : pm_Str s0) : pm_OKI s0 mi_Po_pointers := by
  refine ⟨Or.inl ⟨w_485, rfl⟩, w_17, by decide +kernel, ⟨by decide +kernel, by decide +kernel⟩, by decide, by decide +kernel, pk_i (by decide +kernel) (pk_all (ks := [(5, .ireturn, 1, ([], .null))]) (by decide +kernel) ?_)⟩
  refine pk_c (pk_2 rfl (Or.inl ⟨rfl, rfl⟩)) ?_
  exact pk_n
theorem ok_Re_checkWithin {s0 : State} (hS : pm_Str s0) : pm_OKI s0 mi_Re_checkWithin := by
  refine ⟨Or.inl ⟨w_489, rfl⟩, w_3, by decide +kernel, ⟨by decide +kernel, by decide +kernel⟩, by decide, by decide +kernel, pk_i (by decide +kernel) (pk_all (ks := [(1, .getfield 89, 3, ([2, 2], .null)), (4, .ifCond .lt 21, 3, ([25], .null)), (8, .getfield 89, 3, ([2, 2], .null)), (12, .getfield 127, 3, ([1, 1], .null)), (16, .getfield 83, 3, ([2, 1], .null)), (22, .if_icmp .le 7, 3, ([29], .null)), (26, .goto 4, 3, ([30], .null)), (30, .invokestatic 30, 3, ([29, 1, 0, 0], .null)), (33, .return_, 1, ([], .null))]) (by decide +kernel) ?_)⟩
  refine pk_c (pk_0 (Or.inr rfl) ⟨2, 2, rfl, lf_Re_89⟩ (Or.inr rfl)) ?_
  refine pk_c (pk_0 (Or.inr rfl) ⟨25, rfl, by decide⟩ (Or.inr rfl)) ?_
  refine pk_c (pk_0 (Or.inr rfl) ⟨2, 2, rfl, lf_Re_89⟩ (Or.inr rfl)) ?_
  refine pk_c (pk_0 (Or.inr rfl) ⟨1, 1, rfl, lf_Re_127⟩ (Or.inr rfl)) ?_
  refine pk_c (pk_0 (Or.inr rfl) ⟨2, 1, rfl, lf_Re_83⟩ (Or.inr rfl)) ?_
  refine pk_c (pk_0 (Or.inr rfl) ⟨29, rfl, by decide⟩ (Or.inr rfl)) ?_
  refine pk_c (pk_0 (Or.inr rfl) ⟨30, rfl, by decide⟩ (Or.inr rfl)) ?_
  refine pk_c (pk_4 lm_Re_30) ?_
  refine pk_c (pk_2 rfl rfl) ?_
  exact pk_n
theorem ok_Re_charge {s0 : State} (hS : pm_Str s0) : pm_OKI s0 mi_Re_charge := by
  refine ⟨Or.inl ⟨w_493, rfl⟩, w_3, by decide +kernel, ⟨by decide +kernel, by decide +kernel⟩, by decide, by decide +kernel, pk_i (by decide +kernel) (pk_all (ks := [(2, .getfield 9, 3, ([2, 0], .null)), (5, .if_icmp .le 7, 3, ([12], .null)), (9, .goto 4, 3, ([13], .null)), (13, .invokestatic 30, 3, ([29, 1, 0, 0], .null)), (18, .getfield 9, 3, ([2, 0], .null)), (23, .putfield 9, 3, ([2, 0, 0], .null)), (26, .return_, 1, ([], .null))]) (by decide +kernel) ?_)⟩
  refine pk_c (pk_0 (Or.inr rfl) ⟨2, 0, rfl, lf_Re_9⟩ (Or.inr rfl)) ?_
  refine pk_c (pk_0 (Or.inr rfl) ⟨12, rfl, by decide⟩ (Or.inr rfl)) ?_
  refine pk_c (pk_0 (Or.inr rfl) ⟨13, rfl, by decide⟩ (Or.inr rfl)) ?_
  refine pk_c (pk_4 lm_Re_30) ?_
  refine pk_c (pk_0 (Or.inr rfl) ⟨2, 0, rfl, lf_Re_9⟩ (Or.inr rfl)) ?_
  refine pk_c (pk_0 (Or.inr rfl) ⟨2, 0, 0, rfl, lp_Re_9 _⟩ (Or.inr rfl)) ?_
  refine pk_c (pk_2 rfl rfl) ?_
  exact pk_n
theorem ok_Sp_toStruct {s0 : State} (hS : pm_Str s0) : pm_OKI s0 mi_Sp_toStruct := by
  refine ⟨Or.inl ⟨w_497, rfl⟩, w_8, by decide +kernel, ⟨by decide +kernel, by decide +kernel⟩, by decide, by decide +kernel, pk_i (by decide +kernel) (pk_all (ks := [(5, .invokevirtual 9, 3, ([18, 5, 0, 8], .null)), (11, .putfield 15, 3, ([7, 5, 0], .null)), (17, .putfield 19, 3, ([7, 6, 0], .null)), (20, .return_, 1, ([], .null))]) (by decide +kernel) ?_)⟩
  refine pk_c (pk_4 lm_Sp_9) ?_
  refine pk_c (pk_0 (Or.inr rfl) ⟨7, 5, 0, rfl, lp_Sp_15 _⟩ (Or.inr rfl)) ?_
  refine pk_c (pk_0 (Or.inr rfl) ⟨7, 6, 0, rfl, lp_Sp_19 _⟩ (Or.inr rfl)) ?_
  refine pk_c (pk_2 rfl rfl) ?_
  exact pk_n
theorem ok_Po_code {s0 : State} (hS : pm_Str s0) : pm_OKI s0 mi_Po_code := by
  refine ⟨Or.inl ⟨w_500, rfl⟩, w_17, by decide +kernel, ⟨by decide +kernel, by decide +kernel⟩, by decide, by decide +kernel, pk_i (by decide +kernel) (pk_all (ks := [(8, .ireturn, 1, ([], .null))]) (by decide +kernel) ?_)⟩
  refine pk_c (pk_2 rfl (Or.inl ⟨rfl, rfl⟩)) ?_
  exact pk_n
theorem ok_Re_leadToStructs {s0 : State} (hS : pm_Str s0) : pm_OKI s0 mi_Re_leadToStructs := by
  refine ⟨Or.inl ⟨w_504, rfl⟩, w_3, by decide +kernel, ⟨by decide +kernel, by decide +kernel⟩, by decide, by decide +kernel, pk_i (by decide +kernel) (pk_all (ks := [(1, .getfield 34, 3, ([2, 3], .null)), (4, .invokestatic 113, 3, ([48, 1, 0, 0], .null)), (15, .invokevirtual 101, 3, ([43, 3, 0, 3], .null)), (19, .getfield 15, 3, ([1, 0], .null)), (23, .getfield 83, 3, ([2, 1], .null)), (28, .getfield 89, 3, ([2, 2], .null)), (36, .invokestatic 86, 3, ([35, 1, 0, 0], .null)), (43, .invokestatic 95, 3, ([41, 1, 0, 0], .null)), (50, .invokestatic 98, 3, ([42, 1, 0, 0], .null)), (57, .invokestatic 38, 3, ([32, 1, 0, 0], .null)), (60, .ifCond .ne 8, 3, ([68], .null)), (65, .ifCond .ge 7, 3, ([72], .null)), (69, .goto 4, 3, ([73], .null)), (73, .invokestatic 30, 3, ([29, 1, 0, 0], .null)), (90, .ifCond .le 7, 3, ([97], .null)), (94, .goto 4, 3, ([98], .null)), (98, .invokestatic 30, 3, ([29, 1, 0, 0], .null)), (111, .ifCond .ne 8, 3, ([119], .null)), (116, .goto 4, 3, ([120], .null)), (121, .invokevirtual 105, 3, ([44, 2, 0, 3], .null)), (126, .getfield 83, 3, ([2, 1], .null)), (130, .getfield 89, 3, ([2, 2], .null)), (140, .invokevirtual 123, 3, ([49, 7, 0, 8], .null)), (143, .return_, 1, ([], .null))]) (by decide +kernel) ?_)⟩
  refine pk_c (pk_0 (Or.inr rfl) ⟨2, 3, rfl, lf_Re_34⟩ (Or.inr rfl)) ?_
  refine pk_c (pk_4 lm_Re_113) ?_
  refine pk_c (pk_4 lm_Re_101) ?_
  refine pk_c (pk_0 (Or.inr rfl) ⟨1, 0, rfl, lf_Re_15⟩ (Or.inr rfl)) ?_
  refine pk_c (pk_0 (Or.inr rfl) ⟨2, 1, rfl, lf_Re_83⟩ (Or.inr rfl)) ?_
  refine pk_c (pk_0 (Or.inr rfl) ⟨2, 2, rfl, lf_Re_89⟩ (Or.inr rfl)) ?_
  refine pk_c (pk_4 lm_Re_86) ?_
  refine pk_c (pk_4 lm_Re_95) ?_
  refine pk_c (pk_4 lm_Re_98) ?_
  refine pk_c (pk_4 lm_Re_38) ?_
  refine pk_c (pk_0 (Or.inr rfl) ⟨68, rfl, by decide⟩ (Or.inr rfl)) ?_
  refine pk_c (pk_0 (Or.inr rfl) ⟨72, rfl, by decide⟩ (Or.inr rfl)) ?_
  refine pk_c (pk_0 (Or.inr rfl) ⟨73, rfl, by decide⟩ (Or.inr rfl)) ?_
  refine pk_c (pk_4 lm_Re_30) ?_
  refine pk_c (pk_0 (Or.inr rfl) ⟨97, rfl, by decide⟩ (Or.inr rfl)) ?_
  refine pk_c (pk_0 (Or.inr rfl) ⟨98, rfl, by decide⟩ (Or.inr rfl)) ?_
  refine pk_c (pk_4 lm_Re_30) ?_
  refine pk_c (pk_0 (Or.inr rfl) ⟨119, rfl, by decide⟩ (Or.inr rfl)) ?_
  refine pk_c (pk_0 (Or.inr rfl) ⟨120, rfl, by decide⟩ (Or.inr rfl)) ?_
  refine pk_c (pk_4 lm_Re_105) ?_
  refine pk_c (pk_0 (Or.inr rfl) ⟨2, 1, rfl, lf_Re_83⟩ (Or.inr rfl)) ?_
  refine pk_c (pk_0 (Or.inr rfl) ⟨2, 2, rfl, lf_Re_89⟩ (Or.inr rfl)) ?_
  refine pk_c (pk_4 lm_Re_123) ?_
  refine pk_c (pk_2 rfl rfl) ?_
  exact pk_n
theorem ok_Po_elements {s0 : State} (hS : pm_Str s0) : pm_OKI s0 mi_Po_elements := by
  refine ⟨Or.inl ⟨w_507, rfl⟩, w_17, by decide +kernel, ⟨by decide +kernel, by decide +kernel⟩, by decide, by decide +kernel, pk_i (by decide +kernel) (pk_all (ks := [(5, .ireturn, 1, ([], .null))]) (by decide +kernel) ?_)⟩
  refine pk_c (pk_2 rfl (Or.inl ⟨rfl, rfl⟩)) ?_
  exact pk_n
theorem ok_Sp_toStructs {s0 : State} (hS : pm_Str s0) : pm_OKI s0 mi_Sp_toStructs := by
  refine ⟨Or.inl ⟨w_511, rfl⟩, w_8, by decide +kernel, ⟨by decide +kernel, by decide +kernel⟩, by decide, by decide +kernel, pk_i (by decide +kernel) (pk_all (ks := [(5, .invokevirtual 9, 3, ([18, 5, 0, 8], .null)), (11, .putfield 22, 3, ([7, 8, 0], .null)), (17, .putfield 25, 3, ([7, 7, 0], .null)), (26, .putfield 15, 3, ([7, 5, 0], .null)), (32, .putfield 19, 3, ([7, 6, 0], .null)), (35, .return_, 1, ([], .null))]) (by decide +kernel) ?_)⟩
  refine pk_c (pk_4 lm_Sp_9) ?_
  refine pk_c (pk_0 (Or.inr rfl) ⟨7, 8, 0, rfl, lp_Sp_22 _⟩ (Or.inr rfl)) ?_
  refine pk_c (pk_0 (Or.inr rfl) ⟨7, 7, 0, rfl, lp_Sp_25 _⟩ (Or.inr rfl)) ?_
  refine pk_c (pk_0 (Or.inr rfl) ⟨7, 5, 0, rfl, lp_Sp_15 _⟩ (Or.inr rfl)) ?_
  refine pk_c (pk_0 (Or.inr rfl) ⟨7, 6, 0, rfl, lp_Sp_19 _⟩ (Or.inr rfl)) ?_
  refine pk_c (pk_2 rfl rfl) ?_
  exact pk_n
theorem ok_Re_leadToList {s0 : State} (hS : pm_Str s0) : pm_OKI s0 mi_Re_leadToList := by
  refine ⟨Or.inl ⟨w_515, rfl⟩, w_3, by decide +kernel, ⟨by decide +kernel, by decide +kernel⟩, by decide, by decide +kernel, pk_i (by decide +kernel) (pk_all (ks := [(1, .getfield 34, 3, ([2, 3], .null)), (4, .invokestatic 48, 3, ([46, 1, 0, 0], .null)), (10, .getfield 34, 3, ([2, 3], .null)), (13, .invokestatic 113, 3, ([48, 1, 0, 0], .null)), (22, .invokestatic 116, 3, ([51, 2, 0, 0], .null)), (31, .invokevirtual 101, 3, ([43, 3, 0, 3], .null)), (37, .ifCond .ne 8, 3, ([45], .null)), (42, .goto 5, 3, ([47], .null)), (47, .invokevirtual 105, 3, ([44, 2, 0, 3], .null)), (52, .getfield 83, 3, ([2, 1], .null)), (56, .getfield 89, 3, ([2, 2], .null)), (64, .invokevirtual 120, 3, ([52, 6, 0, 8], .null)), (67, .return_, 1, ([], .null))]) (by decide +kernel) ?_)⟩
  refine pk_c (pk_0 (Or.inr rfl) ⟨2, 3, rfl, lf_Re_34⟩ (Or.inr rfl)) ?_
  refine pk_c (pk_4 lm_Re_48) ?_
  refine pk_c (pk_0 (Or.inr rfl) ⟨2, 3, rfl, lf_Re_34⟩ (Or.inr rfl)) ?_
  refine pk_c (pk_4 lm_Re_113) ?_
  refine pk_c (pk_4 lm_Re_116) ?_
  refine pk_c (pk_4 lm_Re_101) ?_
  refine pk_c (pk_0 (Or.inr rfl) ⟨45, rfl, by decide⟩ (Or.inr rfl)) ?_
  refine pk_c (pk_0 (Or.inr rfl) ⟨47, rfl, by decide⟩ (Or.inr rfl)) ?_
  refine pk_c (pk_4 lm_Re_105) ?_
  refine pk_c (pk_0 (Or.inr rfl) ⟨2, 1, rfl, lf_Re_83⟩ (Or.inr rfl)) ?_
  refine pk_c (pk_0 (Or.inr rfl) ⟨2, 2, rfl, lf_Re_89⟩ (Or.inr rfl)) ?_
  refine pk_c (pk_4 lm_Re_120) ?_
  refine pk_c (pk_2 rfl rfl) ?_
  exact pk_n
theorem ok_D_listWords {s0 : State} (hS : pm_Str s0) : pm_OKI s0 mi_D_listWords := by
  refine ⟨Or.inl ⟨w_518, rfl⟩, w_1, by decide +kernel, ⟨by decide +kernel, by decide +kernel⟩, by decide, by decide +kernel, pk_i (by decide +kernel) (pk_all (ks := [(2, .getstatic 172, 3, ([], .retAddr 1)), (9, .ldc2_w 311, 3, ([], .long 63)), (13, .ldc2_w 313, 3, ([], .long 64)), (18, .ireturn, 1, ([], .null))]) (by decide +kernel) ?_)⟩
  refine pk_c (pk_0 (Or.inr rfl) (Or.inl w_519) (Or.inr rfl)) ?_
  refine pk_c (pk_0 (Or.inr rfl) w_521 (Or.inr rfl)) ?_
  refine pk_c (pk_0 (Or.inr rfl) w_522 (Or.inr rfl)) ?_
  refine pk_c (pk_2 rfl (Or.inl ⟨rfl, rfl⟩)) ?_
  exact pk_n
theorem ok_Sp_toList {s0 : State} (hS : pm_Str s0) : pm_OKI s0 mi_Sp_toList := by
  refine ⟨Or.inl ⟨w_526, rfl⟩, w_8, by decide +kernel, ⟨by decide +kernel, by decide +kernel⟩, by decide, by decide +kernel, pk_i (by decide +kernel) (pk_all (ks := [(5, .invokevirtual 9, 3, ([18, 5, 0, 8], .null)), (11, .putfield 22, 3, ([7, 8, 0], .null)), (17, .putfield 25, 3, ([7, 7, 0], .null)), (24, .if_icmp .gt 12, 3, ([36], .null)), (27, .getstatic 28, 3, ([], .retAddr 1)), (33, .goto 4, 3, ([37], .null)), (37, .putfield 15, 3, ([7, 5, 0], .null)), (45, .if_icmp .ne 7, 3, ([52], .null)), (49, .goto 4, 3, ([53], .null)), (53, .putfield 19, 3, ([7, 6, 0], .null)), (56, .return_, 1, ([], .null))]) (by decide +kernel) ?_)⟩
  refine pk_c (pk_4 lm_Sp_9) ?_
  refine pk_c (pk_0 (Or.inr rfl) ⟨7, 8, 0, rfl, lp_Sp_22 _⟩ (Or.inr rfl)) ?_
  refine pk_c (pk_0 (Or.inr rfl) ⟨7, 7, 0, rfl, lp_Sp_25 _⟩ (Or.inr rfl)) ?_
  refine pk_c (pk_0 (Or.inr rfl) ⟨36, rfl, by decide⟩ (Or.inr rfl)) ?_
  refine pk_c (pk_0 (Or.inr rfl) (Or.inr ⟨"SegmentDesk", w_527⟩) (Or.inr rfl)) ?_
  refine pk_c (pk_0 (Or.inr rfl) ⟨37, rfl, by decide⟩ (Or.inr rfl)) ?_
  refine pk_c (pk_0 (Or.inr rfl) ⟨7, 5, 0, rfl, lp_Sp_15 _⟩ (Or.inr rfl)) ?_
  refine pk_c (pk_0 (Or.inr rfl) ⟨52, rfl, by decide⟩ (Or.inr rfl)) ?_
  refine pk_c (pk_0 (Or.inr rfl) ⟨53, rfl, by decide⟩ (Or.inr rfl)) ?_
  refine pk_c (pk_0 (Or.inr rfl) ⟨7, 6, 0, rfl, lp_Sp_19 _⟩ (Or.inr rfl)) ?_
  refine pk_c (pk_2 rfl rfl) ?_
  exact pk_n
theorem ok_L_follow {s0 : State} (hS : pm_Str s0) : pm_OKI s0 mi_L_follow := by
  refine ⟨Or.inr ⟨_, w_530, pk_hs ⟨rfl, rfl, by decide, ⟨by decide, by decide⟩, by decide, w_281, w_291, Or.inl ⟨by decide +kernel, rfl⟩⟩ (pk_hs ⟨rfl, rfl, by decide, ⟨by decide, by decide⟩, by decide, w_531, w_545, Or.inl ⟨by decide +kernel, rfl⟩⟩ (pk_hs ⟨rfl, rfl, by decide, ⟨by decide, by decide⟩, by decide, w_409, w_422, Or.inl ⟨by decide +kernel, rfl⟩⟩ (pk_h0)))⟩, w_0, by decide +kernel, ⟨by decide +kernel, by decide +kernel⟩, by decide, by decide +kernel, pk_i (by decide +kernel) (pk_all (ks := [(7, .invokevirtual 33, 3, ([54, 4, 0, 1], .null)), (12, .goto 15, 3, ([27], .null)), (18, .ireturn, 1, ([], .null)), (22, .ireturn, 1, ([], .null)), (26, .ireturn, 1, ([], .null)), (28, .ireturn, 1, ([], .null))]) (by decide +kernel) ?_)⟩
  refine pk_c (pk_4 lm_L_33) ?_
  refine pk_c (pk_0 (Or.inr rfl) ⟨27, rfl, by decide⟩ (Or.inr rfl)) ?_
  refine pk_c (pk_2 rfl (Or.inl ⟨rfl, rfl⟩)) ?_
  refine pk_c (pk_2 rfl (Or.inl ⟨rfl, rfl⟩)) ?_
  refine pk_c (pk_2 rfl (Or.inl ⟨rfl, rfl⟩)) ?_
  refine pk_c (pk_2 rfl (Or.inl ⟨rfl, rfl⟩)) ?_
  exact pk_n
theorem ok_D_follow {s0 : State} (hS : pm_Str s0) : pm_OKI s0 mi_D_follow := by
  refine ⟨Or.inl ⟨w_535, rfl⟩, w_1, by decide +kernel, ⟨by decide +kernel, by decide +kernel⟩, by decide, by decide +kernel, pk_i (by decide +kernel) (pk_all (ks := [(1, .invokestatic 96, 3, ([28, 1, 0, 0], .null)), (4, .ifCond .eq 14, 3, ([18], .null)), (8, .invokestatic 96, 3, ([28, 1, 0, 0], .null)), (11, .ifCond .eq 7, 3, ([18], .null)), (15, .ifCond .ge 7, 3, ([22], .null)), (19, .goto 4, 3, ([23], .null)), (23, .invokestatic 61, 3, ([12, 1, 0, 0], .null)), (27, .getfield 46, 3, ([0, 5], .null)), (36, .invokevirtual 110, 3, ([55, 1, 0, 8], .null)), (39, .ifCond .eq 16, 3, ([55], .null)), (45, .getfield 114, 3, ([7, 7], .null)), (48, .if_icmp .lt 7, 3, ([55], .null)), (52, .goto 4, 3, ([56], .null)), (56, .invokestatic 61, 3, ([12, 1, 0, 0], .null)), (61, .getfield 107, 3, ([7, 0], .null)), (65, .if_icmp .ne 15, 3, ([80], .null)), (70, .invokevirtual 110, 3, ([55, 1, 0, 8], .null)), (73, .ifCond .ne 7, 3, ([80], .null)), (77, .goto 4, 3, ([81], .null)), (81, .invokestatic 117, 3, ([56, 1, 0, 0], .null)), (87, .invokevirtual 120, 3, ([57, 1, 0, 8], .null)), (90, .if_icmp .ge 39, 3, ([129], .null)), (94, .getfield 19, 3, ([0, 1], .null)), (98, .getfield 12, 3, ([0, 0], .null)), (102, .getfield 46, 3, ([0, 5], .null)), (109, .getfield 124, 3, ([7, 2], .null)), (115, .invokevirtual 127, 3, ([58, 2, 0, 8], .null)), (120, .getfield 131, 3, ([7, 1], .null)), (123, .invokevirtual 103, 3, ([30, 6, 0, 3], .null)), (126, .goto 12, 3, ([138], .null)), (130, .getfield 46, 3, ([0, 5], .null)), (135, .invokevirtual 134, 3, ([17, 1, 0, 8], .null)), (139, .getfield 46, 3, ([0, 5], .null)), (144, .getfield 107, 3, ([7, 0], .null)), (147, .ireturn, 1, ([], .null))]) (by decide +kernel) ?_)⟩
  refine pk_c (pk_4 lm_D_96) ?_
  refine pk_c (pk_0 (Or.inr rfl) ⟨18, rfl, by decide⟩ (Or.inr rfl)) ?_
  refine pk_c (pk_4 lm_D_96) ?_
  refine pk_c (pk_0 (Or.inr rfl) ⟨18, rfl, by decide⟩ (Or.inr rfl)) ?_
  refine pk_c (pk_0 (Or.inr rfl) ⟨22, rfl, by decide⟩ (Or.inr rfl)) ?_
  refine pk_c (pk_0 (Or.inr rfl) ⟨23, rfl, by decide⟩ (Or.inr rfl)) ?_
  refine pk_c (pk_4 lm_D_61) ?_
  refine pk_c (pk_0 (Or.inr rfl) ⟨0, 5, rfl, lf_D_46⟩ (Or.inr rfl)) ?_
  refine pk_c (pk_4 lm_D_110) ?_
  refine pk_c (pk_0 (Or.inr rfl) ⟨55, rfl, by decide⟩ (Or.inr rfl)) ?_
  refine pk_c (pk_0 (Or.inr rfl) ⟨7, 7, rfl, lf_D_114⟩ (Or.inr rfl)) ?_
  refine pk_c (pk_0 (Or.inr rfl) ⟨55, rfl, by decide⟩ (Or.inr rfl)) ?_
  refine pk_c (pk_0 (Or.inr rfl) ⟨56, rfl, by decide⟩ (Or.inr rfl)) ?_
  refine pk_c (pk_4 lm_D_61) ?_
  refine pk_c (pk_0 (Or.inr rfl) ⟨7, 0, rfl, lf_D_107⟩ (Or.inr rfl)) ?_
  refine pk_c (pk_0 (Or.inr rfl) ⟨80, rfl, by decide⟩ (Or.inr rfl)) ?_
  refine pk_c (pk_4 lm_D_110) ?_
  refine pk_c (pk_0 (Or.inr rfl) ⟨80, rfl, by decide⟩ (Or.inr rfl)) ?_
  refine pk_c (pk_0 (Or.inr rfl) ⟨81, rfl, by decide⟩ (Or.inr rfl)) ?_
  refine pk_c (pk_4 lm_D_117) ?_
  refine pk_c (pk_4 lm_D_120) ?_
  refine pk_c (pk_0 (Or.inr rfl) ⟨129, rfl, by decide⟩ (Or.inr rfl)) ?_
  refine pk_c (pk_0 (Or.inr rfl) ⟨0, 1, rfl, lf_D_19⟩ (Or.inr rfl)) ?_
  refine pk_c (pk_0 (Or.inr rfl) ⟨0, 0, rfl, lf_D_12⟩ (Or.inr rfl)) ?_
  refine pk_c (pk_0 (Or.inr rfl) ⟨0, 5, rfl, lf_D_46⟩ (Or.inr rfl)) ?_
  refine pk_c (pk_0 (Or.inr rfl) ⟨7, 2, rfl, lf_D_124⟩ (Or.inr rfl)) ?_
  refine pk_c (pk_4 lm_D_127) ?_
  refine pk_c (pk_0 (Or.inr rfl) ⟨7, 1, rfl, lf_D_131⟩ (Or.inr rfl)) ?_
  refine pk_c (pk_4 lm_D_103) ?_
  refine pk_c (pk_0 (Or.inr rfl) ⟨138, rfl, by decide⟩ (Or.inr rfl)) ?_
  refine pk_c (pk_0 (Or.inr rfl) ⟨0, 5, rfl, lf_D_46⟩ (Or.inr rfl)) ?_
  refine pk_c (pk_4 lm_D_134) ?_
  refine pk_c (pk_0 (Or.inr rfl) ⟨0, 5, rfl, lf_D_46⟩ (Or.inr rfl)) ?_
  refine pk_c (pk_0 (Or.inr rfl) ⟨7, 0, rfl, lf_D_107⟩ (Or.inr rfl)) ?_
  refine pk_c (pk_2 rfl (Or.inl ⟨rfl, rfl⟩)) ?_
  exact pk_n
theorem ok_Sp_isPointerList {s0 : State} (hS : pm_Str s0) : pm_OKI s0 mi_Sp_isPointerList := by
  refine ⟨Or.inl ⟨w_539, rfl⟩, w_8, by decide +kernel, ⟨by decide +kernel, by decide +kernel⟩, by decide, by decide +kernel, pk_i (by decide +kernel) (pk_all (ks := [(1, .getfield 49, 3, ([7, 0], .null)), (5, .if_icmp .ne 16, 3, ([21], .null)), (9, .getfield 22, 3, ([7, 8], .null)), (14, .if_icmp .ne 7, 3, ([21], .null)), (18, .goto 4, 3, ([22], .null)), (22, .ireturn, 1, ([1], .null))]) (by decide +kernel) ?_)⟩
  refine pk_c (pk_0 (Or.inr rfl) ⟨7, 0, rfl, lf_Sp_49⟩ (Or.inr rfl)) ?_
  refine pk_c (pk_0 (Or.inr rfl) ⟨21, rfl, by decide⟩ (Or.inr rfl)) ?_
  refine pk_c (pk_0 (Or.inr rfl) ⟨7, 8, rfl, lf_Sp_22⟩ (Or.inr rfl)) ?_
  refine pk_c (pk_0 (Or.inr rfl) ⟨21, rfl, by decide⟩ (Or.inr rfl)) ?_
  refine pk_c (pk_0 (Or.inr rfl) ⟨22, rfl, by decide⟩ (Or.inr rfl)) ?_
  refine pk_c (pk_2 rfl (Or.inr ⟨rfl, rfl⟩)) ?_
  exact pk_n
theorem ok_D_kindIf {s0 : State} (hS : pm_Str s0) : pm_OKI s0 mi_D_kindIf := by
  refine ⟨Or.inl ⟨w_542, rfl⟩, w_1, by decide +kernel, ⟨by decide +kernel, by decide +kernel⟩, by decide, by decide +kernel, pk_i (by decide +kernel) (pk_all (ks := [(1, .ifCond .eq 14, 3, ([15], .null)), (4, .new 317, 3, ([4, 1, 6], .null)), (15, .return_, 1, ([], .null))]) (by decide +kernel) ?_)⟩
  refine pk_c (pk_0 (Or.inr rfl) ⟨15, rfl, by decide⟩ (Or.inr rfl)) ?_
  refine pk_c (pk_3 ⟨by decide, by decide⟩ rfl (pk_x (is := 319) (ic := 321) (wl := 3) (text := "the cursor stands at something else") hS (List.mem_of_getElem? (i := 3) rfl) (by decide +kernel) w_543 w_18 (by decide +kernel) oa_4)) ?_
  refine pk_c (pk_2 rfl rfl) ?_
  exact pk_n
theorem ok_Sp_pointerCount {s0 : State} (hS : pm_Str s0) : pm_OKI s0 mi_Sp_pointerCount := by
  refine ⟨Or.inl ⟨w_562, rfl⟩, w_8, by decide +kernel, ⟨by decide +kernel, by decide +kernel⟩, by decide, by decide +kernel, pk_i (by decide +kernel) (pk_all (ks := [(1, .getfield 49, 3, ([7, 0], .null)), (5, .if_icmp .ne 10, 3, ([15], .null)), (9, .getfield 25, 3, ([7, 7], .null)), (12, .goto 7, 3, ([19], .null)), (16, .getfield 19, 3, ([7, 6], .null)), (19, .ireturn, 1, ([], .null))]) (by decide +kernel) ?_)⟩
  refine pk_c (pk_0 (Or.inr rfl) ⟨7, 0, rfl, lf_Sp_49⟩ (Or.inr rfl)) ?_
  refine pk_c (pk_0 (Or.inr rfl) ⟨15, rfl, by decide⟩ (Or.inr rfl)) ?_
  refine pk_c (pk_0 (Or.inr rfl) ⟨7, 7, rfl, lf_Sp_25⟩ (Or.inr rfl)) ?_
  refine pk_c (pk_0 (Or.inr rfl) ⟨19, rfl, by decide⟩ (Or.inr rfl)) ?_
  refine pk_c (pk_0 (Or.inr rfl) ⟨7, 6, rfl, lf_Sp_19⟩ (Or.inr rfl)) ?_
  refine pk_c (pk_2 rfl (Or.inl ⟨rfl, rfl⟩)) ?_
  exact pk_n
theorem ok_Sp_pointerPlace {s0 : State} (hS : pm_Str s0) : pm_OKI s0 mi_Sp_pointerPlace := by
  refine ⟨Or.inl ⟨w_566, rfl⟩, w_8, by decide +kernel, ⟨by decide +kernel, by decide +kernel⟩, by decide, by decide +kernel, pk_i (by decide +kernel) (pk_all (ks := [(1, .getfield 52, 3, ([7, 3], .null)), (5, .invokevirtual 55, 3, ([59, 1, 0, 8], .null)), (11, .ireturn, 1, ([], .null))]) (by decide +kernel) ?_)⟩
  refine pk_c (pk_0 (Or.inr rfl) ⟨7, 3, rfl, lf_Sp_52⟩ (Or.inr rfl)) ?_
  refine pk_c (pk_4 lm_Sp_55) ?_
  refine pk_c (pk_2 rfl (Or.inl ⟨rfl, rfl⟩)) ?_
  exact pk_n
theorem ok_Sp_dataWords {s0 : State} (hS : pm_Str s0) : pm_OKI s0 mi_Sp_dataWords := by
  refine ⟨Or.inl ⟨w_570, rfl⟩, w_8, by decide +kernel, ⟨by decide +kernel, by decide +kernel⟩, by decide, by decide +kernel, pk_i (by decide +kernel) (pk_all (ks := [(1, .getfield 15, 3, ([7, 5], .null)), (7, .ireturn, 1, ([], .null))]) (by decide +kernel) ?_)⟩
  refine pk_c (pk_0 (Or.inr rfl) ⟨7, 5, rfl, lf_Sp_15⟩ (Or.inr rfl)) ?_
  refine pk_c (pk_2 rfl (Or.inl ⟨rfl, rfl⟩)) ?_
  exact pk_n
theorem ok_L_element {s0 : State} (hS : pm_Str s0) : pm_OKI s0 mi_L_element := by
  refine ⟨Or.inr ⟨_, w_573, pk_hs ⟨rfl, rfl, by decide, ⟨by decide, by decide⟩, by decide, w_281, w_291, Or.inl ⟨by decide +kernel, rfl⟩⟩ (pk_hs ⟨rfl, rfl, by decide, ⟨by decide, by decide⟩, by decide, w_531, w_545, Or.inl ⟨by decide +kernel, rfl⟩⟩ (pk_hs ⟨rfl, rfl, by decide, ⟨by decide, by decide⟩, by decide, w_409, w_422, Or.inl ⟨by decide +kernel, rfl⟩⟩ (pk_h0)))⟩, w_0, by decide +kernel, ⟨by decide +kernel, by decide +kernel⟩, by decide, by decide +kernel, pk_i (by decide +kernel) (pk_all (ks := [(7, .invokevirtual 39, 3, ([61, 4, 0, 1], .null)), (12, .goto 15, 3, ([27], .null)), (18, .ireturn, 1, ([], .null)), (22, .ireturn, 1, ([], .null)), (26, .ireturn, 1, ([], .null)), (28, .ireturn, 1, ([], .null))]) (by decide +kernel) ?_)⟩
  refine pk_c (pk_4 lm_L_39) ?_
  refine pk_c (pk_0 (Or.inr rfl) ⟨27, rfl, by decide⟩ (Or.inr rfl)) ?_
  refine pk_c (pk_2 rfl (Or.inl ⟨rfl, rfl⟩)) ?_
  refine pk_c (pk_2 rfl (Or.inl ⟨rfl, rfl⟩)) ?_
  refine pk_c (pk_2 rfl (Or.inl ⟨rfl, rfl⟩)) ?_
  refine pk_c (pk_2 rfl (Or.inl ⟨rfl, rfl⟩)) ?_
  exact pk_n
theorem ok_D_element {s0 : State} (hS : pm_Str s0) : pm_OKI s0 mi_D_element := by
  refine ⟨Or.inl ⟨w_577, rfl⟩, w_1, by decide +kernel, ⟨by decide +kernel, by decide +kernel⟩, by decide, by decide +kernel, pk_i (by decide +kernel) (pk_all (ks := [(1, .invokestatic 96, 3, ([28, 1, 0, 0], .null)), (4, .ifCond .eq 10, 3, ([14], .null)), (8, .invokestatic 96, 3, ([28, 1, 0, 0], .null)), (11, .ifCond .ne 7, 3, ([18], .null)), (15, .goto 4, 3, ([19], .null)), (19, .invokestatic 61, 3, ([12, 1, 0, 0], .null)), (23, .getfield 46, 3, ([0, 5], .null)), (32, .getfield 107, 3, ([7, 0], .null)), (36, .if_icmp .eq 7, 3, ([43], .null)), (40, .goto 4, 3, ([44], .null)), (44, .invokestatic 117, 3, ([56, 1, 0, 0], .null)), (48, .ifCond .lt 12, 3, ([60], .null)), (54, .getfield 114, 3, ([7, 7], .null)), (57, .if_icmp .lt 7, 3, ([64], .null)), (61, .goto 4, 3, ([65], .null)), (65, .invokestatic 61, 3, ([12, 1, 0, 0], .null)), (70, .getfield 137, 3, ([7, 8], .null)), (74, .if_icmp .ne 7, 3, ([81], .null)), (78, .goto 4, 3, ([82], .null)), (82, .invokestatic 100, 3, ([29, 1, 0, 0], .null)), (86, .getfield 46, 3, ([0, 5], .null)), (94, .invokevirtual 140, 3, ([62, 3, 0, 8], .null)), (98, .ireturn, 1, ([], .null))]) (by decide +kernel) ?_)⟩
  refine pk_c (pk_4 lm_D_96) ?_
  refine pk_c (pk_0 (Or.inr rfl) ⟨14, rfl, by decide⟩ (Or.inr rfl)) ?_
  refine pk_c (pk_4 lm_D_96) ?_
  refine pk_c (pk_0 (Or.inr rfl) ⟨18, rfl, by decide⟩ (Or.inr rfl)) ?_
  refine pk_c (pk_0 (Or.inr rfl) ⟨19, rfl, by decide⟩ (Or.inr rfl)) ?_
  refine pk_c (pk_4 lm_D_61) ?_
  refine pk_c (pk_0 (Or.inr rfl) ⟨0, 5, rfl, lf_D_46⟩ (Or.inr rfl)) ?_
  refine pk_c (pk_0 (Or.inr rfl) ⟨7, 0, rfl, lf_D_107⟩ (Or.inr rfl)) ?_
  refine pk_c (pk_0 (Or.inr rfl) ⟨43, rfl, by decide⟩ (Or.inr rfl)) ?_
  refine pk_c (pk_0 (Or.inr rfl) ⟨44, rfl, by decide⟩ (Or.inr rfl)) ?_
  refine pk_c (pk_4 lm_D_117) ?_
  refine pk_c (pk_0 (Or.inr rfl) ⟨60, rfl, by decide⟩ (Or.inr rfl)) ?_
  refine pk_c (pk_0 (Or.inr rfl) ⟨7, 7, rfl, lf_D_114⟩ (Or.inr rfl)) ?_
  refine pk_c (pk_0 (Or.inr rfl) ⟨64, rfl, by decide⟩ (Or.inr rfl)) ?_
  refine pk_c (pk_0 (Or.inr rfl) ⟨65, rfl, by decide⟩ (Or.inr rfl)) ?_
  refine pk_c (pk_4 lm_D_61) ?_
  refine pk_c (pk_0 (Or.inr rfl) ⟨7, 8, rfl, lf_D_137⟩ (Or.inr rfl)) ?_
  refine pk_c (pk_0 (Or.inr rfl) ⟨81, rfl, by decide⟩ (Or.inr rfl)) ?_
  refine pk_c (pk_0 (Or.inr rfl) ⟨82, rfl, by decide⟩ (Or.inr rfl)) ?_
  refine pk_c (pk_4 lm_D_100) ?_
  refine pk_c (pk_0 (Or.inr rfl) ⟨0, 5, rfl, lf_D_46⟩ (Or.inr rfl)) ?_
  refine pk_c (pk_4 lm_D_140) ?_
  refine pk_c (pk_2 rfl (Or.inl ⟨rfl, rfl⟩)) ?_
  exact pk_n
theorem ok_Sp_toElement {s0 : State} (hS : pm_Str s0) : pm_OKI s0 mi_Sp_toElement := by
  refine ⟨Or.inl ⟨w_581, rfl⟩, w_8, by decide +kernel, ⟨by decide +kernel, by decide +kernel⟩, by decide, by decide +kernel, pk_i (by decide +kernel) (pk_all (ks := [(1, .invokevirtual 32, 3, ([63, 1, 0, 8], .null)), (9, .getfield 15, 3, ([7, 5], .null)), (13, .getfield 19, 3, ([7, 6], .null)), (25, .getfield 36, 3, ([7, 2], .null)), (33, .getfield 39, 3, ([7, 1], .null)), (37, .getfield 15, 3, ([7, 5], .null)), (41, .getfield 19, 3, ([7, 6], .null)), (44, .invokevirtual 42, 3, ([45, 6, 0, 8], .null)), (52, .putfield 46, 3, ([7, 4, 0], .null)), (55, .return_, 1, ([], .null))]) (by decide +kernel) ?_)⟩
  refine pk_c (pk_4 lm_Sp_32) ?_
  refine pk_c (pk_0 (Or.inr rfl) ⟨7, 5, rfl, lf_Sp_15⟩ (Or.inr rfl)) ?_
  refine pk_c (pk_0 (Or.inr rfl) ⟨7, 6, rfl, lf_Sp_19⟩ (Or.inr rfl)) ?_
  refine pk_c (pk_0 (Or.inr rfl) ⟨7, 2, rfl, lf_Sp_36⟩ (Or.inr rfl)) ?_
  refine pk_c (pk_0 (Or.inr rfl) ⟨7, 1, rfl, lf_Sp_39⟩ (Or.inr rfl)) ?_
  refine pk_c (pk_0 (Or.inr rfl) ⟨7, 5, rfl, lf_Sp_15⟩ (Or.inr rfl)) ?_
  refine pk_c (pk_0 (Or.inr rfl) ⟨7, 6, rfl, lf_Sp_19⟩ (Or.inr rfl)) ?_
  refine pk_c (pk_4 lm_Sp_42) ?_
  refine pk_c (pk_0 (Or.inr rfl) ⟨7, 4, 0, rfl, lp_Sp_46 _⟩ (Or.inr rfl)) ?_
  refine pk_c (pk_2 rfl rfl) ?_
  exact pk_n
theorem ok_Sp_firstElement {s0 : State} (hS : pm_Str s0) : pm_OKI s0 mi_Sp_firstElement := by
  refine ⟨Or.inl ⟨w_585, rfl⟩, w_8, by decide +kernel, ⟨by decide +kernel, by decide +kernel⟩, by decide, by decide +kernel, pk_i (by decide +kernel) (pk_all (ks := [(1, .getfield 22, 3, ([7, 8], .null)), (6, .if_icmp .ne 12, 3, ([18], .null)), (10, .getfield 52, 3, ([7, 3], .null)), (15, .goto 7, 3, ([22], .null)), (19, .getfield 52, 3, ([7, 3], .null)), (22, .ireturn, 1, ([], .null))]) (by decide +kernel) ?_)⟩
  refine pk_c (pk_0 (Or.inr rfl) ⟨7, 8, rfl, lf_Sp_22⟩ (Or.inr rfl)) ?_
  refine pk_c (pk_0 (Or.inr rfl) ⟨18, rfl, by decide⟩ (Or.inr rfl)) ?_
  refine pk_c (pk_0 (Or.inr rfl) ⟨7, 3, rfl, lf_Sp_52⟩ (Or.inr rfl)) ?_
  refine pk_c (pk_0 (Or.inr rfl) ⟨22, rfl, by decide⟩ (Or.inr rfl)) ?_
  refine pk_c (pk_0 (Or.inr rfl) ⟨7, 3, rfl, lf_Sp_52⟩ (Or.inr rfl)) ?_
  refine pk_c (pk_2 rfl (Or.inl ⟨rfl, rfl⟩)) ?_
  exact pk_n
theorem ok_L_number {s0 : State} (hS : pm_Str s0) : pm_OKI s0 mi_L_number := by
  refine ⟨Or.inr ⟨_, w_589, pk_hs ⟨rfl, rfl, by decide, ⟨by decide, by decide⟩, by decide, w_281, w_291, Or.inl ⟨by decide +kernel, rfl⟩⟩ (pk_hs ⟨rfl, rfl, by decide, ⟨by decide, by decide⟩, by decide, w_531, w_545, Or.inl ⟨by decide +kernel, rfl⟩⟩ (pk_h0))⟩, w_0, by decide +kernel, ⟨by decide +kernel, by decide +kernel⟩, by decide, by decide +kernel, pk_i (by decide +kernel) (pk_all (ks := [(9, .invokevirtual 42, 3, ([65, 5, 0, 1], .null)), (13, .goto 11, 3, ([24], .null)), (19, .ireturn, 1, ([], .null)), (23, .ireturn, 1, ([], .null)), (25, .ireturn, 1, ([], .null))]) (by decide +kernel) ?_)⟩
  refine pk_c (pk_4 lm_L_42) ?_
  refine pk_c (pk_0 (Or.inr rfl) ⟨24, rfl, by decide⟩ (Or.inr rfl)) ?_
  refine pk_c (pk_2 rfl (Or.inl ⟨rfl, rfl⟩)) ?_
  refine pk_c (pk_2 rfl (Or.inl ⟨rfl, rfl⟩)) ?_
  refine pk_c (pk_2 rfl (Or.inl ⟨rfl, rfl⟩)) ?_
  exact pk_n
theorem ok_D_number {s0 : State} (hS : pm_Str s0) : pm_OKI s0 mi_D_number := by
  refine ⟨Or.inl ⟨w_593, rfl⟩, w_1, by decide +kernel, ⟨by decide +kernel, by decide +kernel⟩, by decide, by decide +kernel, pk_i (by decide +kernel) (pk_all (ks := [(1, .invokestatic 96, 3, ([28, 1, 0, 0], .null)), (4, .ifCond .eq 14, 3, ([18], .null)), (8, .invokestatic 144, 3, ([66, 1, 0, 0], .null)), (11, .ifCond .eq 7, 3, ([18], .null)), (15, .ifCond .ge 7, 3, ([22], .null)), (19, .goto 4, 3, ([23], .null)), (23, .invokestatic 61, 3, ([12, 1, 0, 0], .null)), (27, .getfield 46, 3, ([0, 5], .null)), (32, .getfield 107, 3, ([7, 0], .null)), (36, .if_icmp .ne 7, 3, ([43], .null)), (40, .goto 4, 3, ([44], .null)), (44, .invokestatic 117, 3, ([56, 1, 0, 0], .null)), (49, .getfield 46, 3, ([0, 5], .null)), (56, .invokevirtual 147, 3, ([67, 4, 0, 1], .null)), (62, .invokestatic 151, 3, ([71, 1, 0, 0], .null)), (68, .invokestatic 155, 3, ([72, 2, 0, 0], .null)), (71, .lreturn, 1, ([], .null))]) (by decide +kernel) ?_)⟩
  refine pk_c (pk_4 lm_D_96) ?_
  refine pk_c (pk_0 (Or.inr rfl) ⟨18, rfl, by decide⟩ (Or.inr rfl)) ?_
  refine pk_c (pk_4 lm_D_144) ?_
  refine pk_c (pk_0 (Or.inr rfl) ⟨18, rfl, by decide⟩ (Or.inr rfl)) ?_
  refine pk_c (pk_0 (Or.inr rfl) ⟨22, rfl, by decide⟩ (Or.inr rfl)) ?_
  refine pk_c (pk_0 (Or.inr rfl) ⟨23, rfl, by decide⟩ (Or.inr rfl)) ?_
  refine pk_c (pk_4 lm_D_61) ?_
  refine pk_c (pk_0 (Or.inr rfl) ⟨0, 5, rfl, lf_D_46⟩ (Or.inr rfl)) ?_
  refine pk_c (pk_0 (Or.inr rfl) ⟨7, 0, rfl, lf_D_107⟩ (Or.inr rfl)) ?_
  refine pk_c (pk_0 (Or.inr rfl) ⟨43, rfl, by decide⟩ (Or.inr rfl)) ?_
  refine pk_c (pk_0 (Or.inr rfl) ⟨44, rfl, by decide⟩ (Or.inr rfl)) ?_
  refine pk_c (pk_4 lm_D_117) ?_
  refine pk_c (pk_0 (Or.inr rfl) ⟨0, 5, rfl, lf_D_46⟩ (Or.inr rfl)) ?_
  refine pk_c (pk_4 lm_D_147) ?_
  refine pk_c (pk_4 lm_D_151) ?_
  refine pk_c (pk_4 lm_D_155) ?_
  refine pk_c (pk_2 rfl rfl) ?_
  exact pk_n
theorem ok_D_isFieldSize {s0 : State} (hS : pm_Str s0) : pm_OKI s0 mi_D_isFieldSize := by
  refine ⟨Or.inl ⟨w_596, rfl⟩, w_1, by decide +kernel, ⟨by decide +kernel, by decide +kernel⟩, by decide, by decide +kernel, pk_i (by decide +kernel) (pk_all (ks := [(2, .if_icmp .eq 27, 3, ([29], .null)), (8, .if_icmp .eq 21, 3, ([29], .null)), (14, .if_icmp .eq 15, 3, ([29], .null)), (20, .if_icmp .eq 9, 3, ([29], .null)), (26, .if_icmp .ne 7, 3, ([33], .null)), (30, .goto 4, 3, ([34], .null)), (34, .ireturn, 1, ([1], .null))]) (by decide +kernel) ?_)⟩
  refine pk_c (pk_0 (Or.inr rfl) ⟨29, rfl, by decide⟩ (Or.inr rfl)) ?_
  refine pk_c (pk_0 (Or.inr rfl) ⟨29, rfl, by decide⟩ (Or.inr rfl)) ?_
  refine pk_c (pk_0 (Or.inr rfl) ⟨29, rfl, by decide⟩ (Or.inr rfl)) ?_
  refine pk_c (pk_0 (Or.inr rfl) ⟨29, rfl, by decide⟩ (Or.inr rfl)) ?_
  refine pk_c (pk_0 (Or.inr rfl) ⟨33, rfl, by decide⟩ (Or.inr rfl)) ?_
  refine pk_c (pk_0 (Or.inr rfl) ⟨34, rfl, by decide⟩ (Or.inr rfl)) ?_
  refine pk_c (pk_2 rfl (Or.inr ⟨rfl, rfl⟩)) ?_
  exact pk_n
theorem ok_D_fieldOf {s0 : State} (hS : pm_Str s0) : pm_OKI s0 mi_D_fieldOf := by
  refine ⟨Or.inl ⟨w_600, rfl⟩, w_1, by decide +kernel, ⟨by decide +kernel, by decide +kernel⟩, by decide, by decide +kernel, pk_i (by decide +kernel) (pk_all (ks := [(3, .invokevirtual 242, 3, ([68, 3, 0, 8], .null)), (6, .ifCond .eq 24, 3, ([30], .null)), (10, .getfield 12, 3, ([0, 0], .null)), (14, .getfield 124, 3, ([7, 2], .null)), (20, .invokevirtual 175, 3, ([69, 3, 0, 8], .null)), (24, .invokevirtual 179, 3, ([70, 4, 0, 2], .null)), (27, .goto 4, 3, ([31], .null)), (31, .lreturn, 1, ([], .null))]) (by decide +kernel) ?_)⟩
  refine pk_c (pk_4 lm_D_242) ?_
  refine pk_c (pk_0 (Or.inr rfl) ⟨30, rfl, by decide⟩ (Or.inr rfl)) ?_
  refine pk_c (pk_0 (Or.inr rfl) ⟨0, 0, rfl, lf_D_12⟩ (Or.inr rfl)) ?_
  refine pk_c (pk_0 (Or.inr rfl) ⟨7, 2, rfl, lf_D_124⟩ (Or.inr rfl)) ?_
  refine pk_c (pk_4 lm_D_175) ?_
  refine pk_c (pk_4 lm_D_179) ?_
  refine pk_c (pk_0 (Or.inr rfl) ⟨31, rfl, by decide⟩ (Or.inr rfl)) ?_
  refine pk_c (pk_2 rfl rfl) ?_
  exact pk_n
theorem ok_Sp_hasPiece {s0 : State} (hS : pm_Str s0) : pm_OKI s0 mi_Sp_hasPiece := by
  refine ⟨Or.inl ⟨w_604, rfl⟩, w_8, by decide +kernel, ⟨by decide +kernel, by decide +kernel⟩, by decide, by decide +kernel, pk_i (by decide +kernel) (pk_all (ks := [(1, .getfield 49, 3, ([7, 0], .null)), (5, .if_icmp .ne 19, 3, ([24], .null)), (10, .getfield 25, 3, ([7, 7], .null)), (13, .if_icmp .ge 7, 3, ([20], .null)), (17, .goto 28, 3, ([45], .null)), (21, .goto 24, 3, ([45], .null)), (32, .getfield 15, 3, ([7, 5], .null)), (37, .ifCond .gt 7, 3, ([44], .null)), (41, .goto 4, 3, ([45], .null)), (45, .ireturn, 1, ([1], .null))]) (by decide +kernel) ?_)⟩
  refine pk_c (pk_0 (Or.inr rfl) ⟨7, 0, rfl, lf_Sp_49⟩ (Or.inr rfl)) ?_
  refine pk_c (pk_0 (Or.inr rfl) ⟨24, rfl, by decide⟩ (Or.inr rfl)) ?_
  refine pk_c (pk_0 (Or.inr rfl) ⟨7, 7, rfl, lf_Sp_25⟩ (Or.inr rfl)) ?_
  refine pk_c (pk_0 (Or.inr rfl) ⟨20, rfl, by decide⟩ (Or.inr rfl)) ?_
  refine pk_c (pk_0 (Or.inr rfl) ⟨45, rfl, by decide⟩ (Or.inr rfl)) ?_
  refine pk_c (pk_0 (Or.inr rfl) ⟨45, rfl, by decide⟩ (Or.inr rfl)) ?_
  refine pk_c (pk_0 (Or.inr rfl) ⟨7, 5, rfl, lf_Sp_15⟩ (Or.inr rfl)) ?_
  refine pk_c (pk_0 (Or.inr rfl) ⟨44, rfl, by decide⟩ (Or.inr rfl)) ?_
  refine pk_c (pk_0 (Or.inr rfl) ⟨45, rfl, by decide⟩ (Or.inr rfl)) ?_
  refine pk_c (pk_2 rfl (Or.inr ⟨rfl, rfl⟩)) ?_
  exact pk_n
theorem ok_Sp_pieceBit {s0 : State} (hS : pm_Str s0) : pm_OKI s0 mi_Sp_pieceBit := by
  refine ⟨Or.inl ⟨w_608, rfl⟩, w_8, by decide +kernel, ⟨by decide +kernel, by decide +kernel⟩, by decide, by decide +kernel, pk_i (by decide +kernel) (pk_all (ks := [(1, .getfield 52, 3, ([7, 3], .null)), (8, .getfield 46, 3, ([7, 4], .null)), (16, .ireturn, 1, ([], .null))]) (by decide +kernel) ?_)⟩
  refine pk_c (pk_0 (Or.inr rfl) ⟨7, 3, rfl, lf_Sp_52⟩ (Or.inr rfl)) ?_
  refine pk_c (pk_0 (Or.inr rfl) ⟨7, 4, rfl, lf_Sp_46⟩ (Or.inr rfl)) ?_
  refine pk_c (pk_2 rfl (Or.inl ⟨rfl, rfl⟩)) ?_
  exact pk_n
theorem ok_Me_piece {s0 : State} (hS : pm_Str s0) : pm_OKI s0 mi_Me_piece := by
  refine ⟨Or.inl ⟨w_612, rfl⟩, w_2, by decide +kernel, ⟨by decide +kernel, by decide +kernel⟩, by decide, by decide +kernel, pk_i (by decide +kernel) (pk_all (ks := [(1, .getfield 11, 3, ([1, 0], .null)), (17, .invokestatic 37, 3, ([71, 1, 0, 0], .null)), (21, .lreturn, 1, ([], .null))]) (by decide +kernel) ?_)⟩
  refine pk_c (pk_0 (Or.inr rfl) ⟨1, 0, rfl, lf_Me_11⟩ (Or.inr rfl)) ?_
  refine pk_c (pk_4 lm_Me_37) ?_
  refine pk_c (pk_2 rfl rfl) ?_
  exact pk_n
theorem ok_D_ones {s0 : State} (hS : pm_Str s0) : pm_OKI s0 mi_D_ones := by
  refine ⟨Or.inl ⟨w_615, rfl⟩, w_1, by decide +kernel, ⟨by decide +kernel, by decide +kernel⟩, by decide, by decide +kernel, pk_i (by decide +kernel) (pk_all (ks := [(3, .if_icmp .lt 9, 3, ([12], .null)), (6, .ldc2_w 309, 3, ([], .long (-1))), (9, .goto 8, 3, ([17], .null)), (17, .lreturn, 1, ([], .null))]) (by decide +kernel) ?_)⟩
  refine pk_c (pk_0 (Or.inr rfl) ⟨12, rfl, by decide⟩ (Or.inr rfl)) ?_
  refine pk_c (pk_0 (Or.inr rfl) w_616 (Or.inr rfl)) ?_
  refine pk_c (pk_0 (Or.inr rfl) ⟨17, rfl, by decide⟩ (Or.inr rfl)) ?_
  refine pk_c (pk_2 rfl rfl) ?_
  exact pk_n
theorem ok_D_signed {s0 : State} (hS : pm_Str s0) : pm_OKI s0 mi_D_signed := by
  refine ⟨Or.inl ⟨w_620, rfl⟩, w_1, by decide +kernel, ⟨by decide +kernel, by decide +kernel⟩, by decide, by decide +kernel, pk_i (by decide +kernel) (pk_all (ks := [(2, .if_icmp .ne 7, 3, ([9], .null)), (6, .goto 14, 3, ([20], .null)), (20, .lreturn, 1, ([], .null))]) (by decide +kernel) ?_)⟩
  refine pk_c (pk_0 (Or.inr rfl) ⟨9, rfl, by decide⟩ (Or.inr rfl)) ?_
  refine pk_c (pk_0 (Or.inr rfl) ⟨20, rfl, by decide⟩ (Or.inr rfl)) ?_
  refine pk_c (pk_2 rfl rfl) ?_
  exact pk_n
theorem ok_L_real {s0 : State} (hS : pm_Str s0) : pm_OKI s0 mi_L_real := by
  refine ⟨Or.inr ⟨_, w_623, pk_hs ⟨rfl, rfl, by decide, ⟨by decide, by decide⟩, by decide, w_281, w_291, Or.inl ⟨by decide +kernel, rfl⟩⟩ (pk_hs ⟨rfl, rfl, by decide, ⟨by decide, by decide⟩, by decide, w_531, w_545, Or.inl ⟨by decide +kernel, rfl⟩⟩ (pk_hs ⟨rfl, rfl, by decide, ⟨by decide, by decide⟩, by decide, w_624, w_646, Or.inl ⟨by decide +kernel, rfl⟩⟩ (pk_h0)))⟩, w_0, by decide +kernel, ⟨by decide +kernel, by decide +kernel⟩, by decide, by decide +kernel, pk_i (by decide +kernel) (pk_all (ks := [(7, .invokevirtual 46, 3, ([74, 4, 0, 1], .null)), (11, .goto 15, 3, ([26], .null)), (17, .ireturn, 1, ([], .null)), (21, .ireturn, 1, ([], .null)), (25, .ireturn, 1, ([], .null)), (27, .ireturn, 1, ([], .null))]) (by decide +kernel) ?_)⟩
  refine pk_c (pk_4 lm_L_46) ?_
  refine pk_c (pk_0 (Or.inr rfl) ⟨26, rfl, by decide⟩ (Or.inr rfl)) ?_
  refine pk_c (pk_2 rfl (Or.inl ⟨rfl, rfl⟩)) ?_
  refine pk_c (pk_2 rfl (Or.inl ⟨rfl, rfl⟩)) ?_
  refine pk_c (pk_2 rfl (Or.inl ⟨rfl, rfl⟩)) ?_
  refine pk_c (pk_2 rfl (Or.inl ⟨rfl, rfl⟩)) ?_
  exact pk_n
theorem ok_D_real {s0 : State} (hS : pm_Str s0) : pm_OKI s0 mi_D_real := by
  refine ⟨Or.inl ⟨w_628, rfl⟩, w_1, by decide +kernel, ⟨by decide +kernel, by decide +kernel⟩, by decide, by decide +kernel, pk_i (by decide +kernel) (pk_all (ks := [(1, .invokestatic 96, 3, ([28, 1, 0, 0], .null)), (4, .ifCond .eq 7, 3, ([11], .null)), (8, .ifCond .ge 7, 3, ([15], .null)), (12, .goto 4, 3, ([16], .null)), (16, .invokestatic 61, 3, ([12, 1, 0, 0], .null)), (20, .getfield 46, 3, ([0, 5], .null)), (25, .getfield 107, 3, ([7, 0], .null)), (29, .if_icmp .ne 7, 3, ([36], .null)), (33, .goto 4, 3, ([37], .null)), (37, .invokestatic 117, 3, ([56, 1, 0, 0], .null)), (42, .getfield 46, 3, ([0, 5], .null)), (48, .ifCond .eq 8, 3, ([56], .null)), (53, .goto 5, 3, ([58], .null)), (59, .invokevirtual 147, 3, ([67, 4, 0, 1], .null)), (67, .invokestatic 159, 3, ([75, 2, 0, 0], .null)), (70, .ifCond .ne 7, 3, ([77], .null)), (74, .goto 4, 3, ([78], .null)), (78, .invokestatic 165, 3, ([79, 1, 0, 0], .null)), (84, .invokestatic 168, 3, ([80, 2, 0, 0], .null)), (87, .dreturn, 1, ([], .null))]) (by decide +kernel) ?_)⟩
  refine pk_c (pk_4 lm_D_96) ?_
  refine pk_c (pk_0 (Or.inr rfl) ⟨11, rfl, by decide⟩ (Or.inr rfl)) ?_
  refine pk_c (pk_0 (Or.inr rfl) ⟨15, rfl, by decide⟩ (Or.inr rfl)) ?_
  refine pk_c (pk_0 (Or.inr rfl) ⟨16, rfl, by decide⟩ (Or.inr rfl)) ?_
  refine pk_c (pk_4 lm_D_61) ?_
  refine pk_c (pk_0 (Or.inr rfl) ⟨0, 5, rfl, lf_D_46⟩ (Or.inr rfl)) ?_
  refine pk_c (pk_0 (Or.inr rfl) ⟨7, 0, rfl, lf_D_107⟩ (Or.inr rfl)) ?_
  refine pk_c (pk_0 (Or.inr rfl) ⟨36, rfl, by decide⟩ (Or.inr rfl)) ?_
  refine pk_c (pk_0 (Or.inr rfl) ⟨37, rfl, by decide⟩ (Or.inr rfl)) ?_
  refine pk_c (pk_4 lm_D_117) ?_
  refine pk_c (pk_0 (Or.inr rfl) ⟨0, 5, rfl, lf_D_46⟩ (Or.inr rfl)) ?_
  refine pk_c (pk_0 (Or.inr rfl) ⟨56, rfl, by decide⟩ (Or.inr rfl)) ?_
  refine pk_c (pk_0 (Or.inr rfl) ⟨58, rfl, by decide⟩ (Or.inr rfl)) ?_
  refine pk_c (pk_4 lm_D_147) ?_
  refine pk_c (pk_4 lm_D_159) ?_
  refine pk_c (pk_0 (Or.inr rfl) ⟨77, rfl, by decide⟩ (Or.inr rfl)) ?_
  refine pk_c (pk_0 (Or.inr rfl) ⟨78, rfl, by decide⟩ (Or.inr rfl)) ?_
  refine pk_c (pk_4 lm_D_165) ?_
  refine pk_c (pk_4 lm_D_168) ?_
  refine pk_c (pk_2 rfl rfl) ?_
  exact pk_n
theorem ok_Ra_isFinite {s0 : State} (hS : pm_Str s0) : pm_OKI s0 mi_Ra_isFinite := by
  refine ⟨Or.inl ⟨w_631, rfl⟩, w_19, by decide +kernel, ⟨by decide +kernel, by decide +kernel⟩, by decide, by decide +kernel, pk_i (by decide +kernel) (pk_all (ks := [(2, .invokestatic 16, 3, ([76, 2, 0, 0], .null)), (6, .invokestatic 13, 3, ([78, 1, 0, 0], .null)), (9, .if_icmp .eq 7, 3, ([16], .null)), (13, .goto 4, 3, ([17], .null)), (17, .ireturn, 1, ([1], .null))]) (by decide +kernel) ?_)⟩
  refine pk_c (pk_4 lm_Ra_16) ?_
  refine pk_c (pk_4 lm_Ra_13) ?_
  refine pk_c (pk_0 (Or.inr rfl) ⟨16, rfl, by decide⟩ (Or.inr rfl)) ?_
  refine pk_c (pk_0 (Or.inr rfl) ⟨17, rfl, by decide⟩ (Or.inr rfl)) ?_
  refine pk_c (pk_2 rfl (Or.inr ⟨rfl, rfl⟩)) ?_
  exact pk_n
theorem ok_Ra_exponentOf {s0 : State} (hS : pm_Str s0) : pm_OKI s0 mi_Ra_exponentOf := by
  refine ⟨Or.inl ⟨w_634, rfl⟩, w_19, by decide +kernel, ⟨by decide +kernel, by decide +kernel⟩, by decide, by decide +kernel, pk_i (by decide +kernel) (pk_all (ks := [(2, .invokestatic 7, 3, ([77, 1, 0, 0], .null)), (8, .invokestatic 13, 3, ([78, 1, 0, 0], .null)), (12, .ireturn, 1, ([], .null))]) (by decide +kernel) ?_)⟩
  refine pk_c (pk_4 lm_Ra_7) ?_
  refine pk_c (pk_4 lm_Ra_13) ?_
  refine pk_c (pk_2 rfl (Or.inl ⟨rfl, rfl⟩)) ?_
  exact pk_n
theorem ok_Ra_fractionBits {s0 : State} (hS : pm_Str s0) : pm_OKI s0 mi_Ra_fractionBits := by
  refine ⟨Or.inl ⟨w_637, rfl⟩, w_19, by decide +kernel, ⟨by decide +kernel, by decide +kernel⟩, by decide, by decide +kernel, pk_i (by decide +kernel) (pk_all (ks := [(1, .ifCond .eq 8, 3, ([9], .null)), (6, .goto 5, 3, ([11], .null)), (11, .ireturn, 1, ([], .null))]) (by decide +kernel) ?_)⟩
  refine pk_c (pk_0 (Or.inr rfl) ⟨9, rfl, by decide⟩ (Or.inr rfl)) ?_
  refine pk_c (pk_0 (Or.inr rfl) ⟨11, rfl, by decide⟩ (Or.inr rfl)) ?_
  refine pk_c (pk_2 rfl (Or.inl ⟨rfl, rfl⟩)) ?_
  exact pk_n
theorem ok_Ra_mostExponent {s0 : State} (hS : pm_Str s0) : pm_OKI s0 mi_Ra_mostExponent := by
  refine ⟨Or.inl ⟨w_640, rfl⟩, w_19, by decide +kernel, ⟨by decide +kernel, by decide +kernel⟩, by decide, by decide +kernel, pk_i (by decide +kernel) (pk_all (ks := [(1, .ifCond .eq 9, 3, ([10], .null)), (7, .goto 6, 3, ([13], .null)), (13, .ireturn, 1, ([], .null))]) (by decide +kernel) ?_)⟩
  refine pk_c (pk_0 (Or.inr rfl) ⟨10, rfl, by decide⟩ (Or.inr rfl)) ?_
  refine pk_c (pk_0 (Or.inr rfl) ⟨13, rfl, by decide⟩ (Or.inr rfl)) ?_
  refine pk_c (pk_2 rfl (Or.inl ⟨rfl, rfl⟩)) ?_
  exact pk_n
theorem ok_D_notFiniteIf {s0 : State} (hS : pm_Str s0) : pm_OKI s0 mi_D_notFiniteIf := by
  refine ⟨Or.inl ⟨w_643, rfl⟩, w_1, by decide +kernel, ⟨by decide +kernel, by decide +kernel⟩, by decide, by decide +kernel, pk_i (by decide +kernel) (pk_all (ks := [(1, .ifCond .eq 14, 3, ([15], .null)), (4, .new 332, 3, ([5, 1, 6], .null)), (15, .return_, 1, ([], .null))]) (by decide +kernel) ?_)⟩
  refine pk_c (pk_0 (Or.inr rfl) ⟨15, rfl, by decide⟩ (Or.inr rfl)) ?_
  refine pk_c (pk_3 ⟨by decide, by decide⟩ rfl (pk_x (is := 334) (ic := 336) (wl := 3) (text := "no finite number") hS (List.mem_of_getElem? (i := 6) rfl) (by decide +kernel) w_644 w_20 (by decide +kernel) oa_5)) ?_
  refine pk_c (pk_2 rfl rfl) ?_
  exact pk_n
theorem ok_Ra_fromBits {s0 : State} (hS : pm_Str s0) : pm_OKI s0 mi_Ra_fromBits := by
  refine ⟨Or.inl ⟨w_662, rfl⟩, w_19, by decide +kernel, ⟨by decide +kernel, by decide +kernel⟩, by decide, by decide +kernel, pk_i (by decide +kernel) (pk_all (ks := [(1, .invokestatic 7, 3, ([77, 1, 0, 0], .null)), (7, .invokestatic 20, 3, ([71, 1, 0, 0], .null)), (15, .invokestatic 16, 3, ([76, 2, 0, 0], .null)), (22, .ifCond .ne 9, 3, ([31], .null)), (28, .goto 10, 3, ([38], .null)), (45, .invokestatic 26, 3, ([81, 2, 0, 0], .null)), (49, .invokestatic 32, 3, ([82, 1, 0, 0], .null)), (55, .invokestatic 35, 3, ([83, 2, 0, 0], .null)), (62, .ifCond .eq 8, 3, ([70], .null)), (67, .goto 5, 3, ([72], .null)), (77, .ifCond .eq 7, 3, ([84], .null)), (81, .goto 4, 3, ([85], .null)), (89, .ifCond .eq 9, 3, ([98], .null)), (95, .goto 5, 3, ([100], .null)), (100, .dreturn, 1, ([], .null))]) (by decide +kernel) ?_)⟩
  refine pk_c (pk_4 lm_Ra_7) ?_
  refine pk_c (pk_4 lm_Ra_20) ?_
  refine pk_c (pk_4 lm_Ra_16) ?_
  refine pk_c (pk_0 (Or.inr rfl) ⟨31, rfl, by decide⟩ (Or.inr rfl)) ?_
  refine pk_c (pk_0 (Or.inr rfl) ⟨38, rfl, by decide⟩ (Or.inr rfl)) ?_
  refine pk_c (pk_4 lm_Ra_26) ?_
  refine pk_c (pk_4 lm_Ra_32) ?_
  refine pk_c (pk_4 lm_Ra_35) ?_
  refine pk_c (pk_0 (Or.inr rfl) ⟨70, rfl, by decide⟩ (Or.inr rfl)) ?_
  refine pk_c (pk_0 (Or.inr rfl) ⟨72, rfl, by decide⟩ (Or.inr rfl)) ?_
  refine pk_c (pk_0 (Or.inr rfl) ⟨84, rfl, by decide⟩ (Or.inr rfl)) ?_
  refine pk_c (pk_0 (Or.inr rfl) ⟨85, rfl, by decide⟩ (Or.inr rfl)) ?_
  refine pk_c (pk_0 (Or.inr rfl) ⟨98, rfl, by decide⟩ (Or.inr rfl)) ?_
  refine pk_c (pk_0 (Or.inr rfl) ⟨100, rfl, by decide⟩ (Or.inr rfl)) ?_
  refine pk_c (pk_2 rfl rfl) ?_
  exact pk_n
theorem ok_JM_max {s0 : State} (hS : pm_Str s0) : pm_OKI s0 mi_JM_max := by
  refine ⟨Or.inl ⟨w_666, rfl⟩, w_21, by decide +kernel, ⟨by decide +kernel, by decide +kernel⟩, by decide, by decide +kernel, pk_i (by decide +kernel) (pk_all (ks := [(2, .if_icmp .lt 7, 3, ([9], .null)), (6, .goto 4, 3, ([10], .null)), (10, .ireturn, 1, ([], .null))]) (by decide +kernel) ?_)⟩
  refine pk_c (pk_0 (Or.inr rfl) ⟨9, rfl, by decide⟩ (Or.inr rfl)) ?_
  refine pk_c (pk_0 (Or.inr rfl) ⟨10, rfl, by decide⟩ (Or.inr rfl)) ?_
  refine pk_c (pk_2 rfl (Or.inl ⟨rfl, rfl⟩)) ?_
  exact pk_n
theorem ok_Ra_bias {s0 : State} (hS : pm_Str s0) : pm_OKI s0 mi_Ra_bias := by
  refine ⟨Or.inl ⟨w_669, rfl⟩, w_19, by decide +kernel, ⟨by decide +kernel, by decide +kernel⟩, by decide, by decide +kernel, pk_i (by decide +kernel) (pk_all (ks := [(1, .ifCond .eq 9, 3, ([10], .null)), (7, .goto 5, 3, ([12], .null)), (12, .ireturn, 1, ([], .null))]) (by decide +kernel) ?_)⟩
  refine pk_c (pk_0 (Or.inr rfl) ⟨10, rfl, by decide⟩ (Or.inr rfl)) ?_
  refine pk_c (pk_0 (Or.inr rfl) ⟨12, rfl, by decide⟩ (Or.inr rfl)) ?_
  refine pk_c (pk_2 rfl (Or.inl ⟨rfl, rfl⟩)) ?_
  exact pk_n
