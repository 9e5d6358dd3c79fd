/-! what is checked of each method (printed by gen5.py) -/
theorem ok_L_canonical {s0 : State} (hS : pm_Str s0) : pm_OKI s0 mi_L_canonical := by
  refine ⟨Or.inr ⟨_, w_956, pk_hs ⟨rfl, rfl, by decide, ⟨by decide, by decide⟩, by decide, w_409, w_422, Or.inr ⟨2, rfl, by decide +kernel, rfl⟩⟩ (pk_hs ⟨rfl, rfl, by decide, ⟨by decide, by decide⟩, by decide, w_703, w_772, Or.inr ⟨2, rfl, by decide +kernel, rfl⟩⟩ (pk_h0))⟩, w_0, by decide +kernel, ⟨by decide +kernel, by decide +kernel⟩, by decide, by decide +kernel, pk_i (by decide +kernel) (pk_all (ks := [(3, .invokevirtual 94, 3, ([151, 1, 0, 1], .null)), (8, .goto 9, 3, ([17], .null)), (13, .ireturn, 1, ([], .null)), (16, .ireturn, 1, ([], .null)), (18, .ireturn, 1, ([], .null))]) (by decide +kernel) ?_)⟩
  refine pk_c (pk_4 lm_L_94) ?_
  refine pk_c (pk_0 (Or.inr rfl) ⟨17, rfl, by decide⟩ (Or.inr rfl)) ?_
  refine pk_c (pk_2 rfl (Or.inl ⟨rfl, rfl⟩)) ?_
  refine pk_c (pk_2 rfl (Or.inl ⟨rfl, rfl⟩)) ?_
  refine pk_c (pk_2 rfl (Or.inl ⟨rfl, rfl⟩)) ?_
  exact pk_n
theorem ok_D_canonical {s0 : State} (hS : pm_Str s0) : pm_OKI s0 mi_D_canonical := by
  refine ⟨Or.inl ⟨w_960, rfl⟩, w_1, by decide +kernel, ⟨by decide +kernel, by decide +kernel⟩, by decide, by decide +kernel, pk_i (by decide +kernel) (pk_all (ks := [(1, .getfield 40, 3, ([0, 4], .null)), (5, .getfield 12, 3, ([0, 0], .null)), (9, .getfield 19, 3, ([0, 1], .null)), (12, .invokevirtual 292, 3, ([152, 3, 0, 6], .null)), (16, .getfield 12, 3, ([0, 0], .null)), (20, .invokevirtual 69, 3, ([14, 2, 0, 2], .null)), (24, .getfield 12, 3, ([0, 0], .null)), (27, .getfield 73, 3, ([1, 1], .null)), (32, .getfield 40, 3, ([0, 4], .null)), (35, .getfield 296, 3, ([5, 1], .null)), (40, .getfield 40, 3, ([0, 4], .null)), (43, .getfield 298, 3, ([5, 0], .null)), (48, .getfield 12, 3, ([0, 0], .null)), (51, .getfield 84, 3, ([1, 0], .null)), (58, .getfield 40, 3, ([0, 4], .null)), (61, .getfield 296, 3, ([5, 1], .null)), (64, .invokestatic 301, 3, ([4], .null)), (68, .invokevirtual 77, 3, ([16, 1, 0, 1], .null)), (72, .getfield 40, 3, ([0, 4], .null)), (75, .getfield 296, 3, ([5, 1], .null)), (78, .ireturn, 1, ([], .null))]) (by decide +kernel) ?_)⟩
  refine pk_c (pk_0 (Or.inr rfl) ⟨0, 4, rfl, lf_D_40⟩ (Or.inr rfl)) ?_
  refine pk_c (pk_0 (Or.inr rfl) ⟨0, 0, rfl, lf_D_12⟩ (Or.inr rfl)) ?_
  refine pk_c (pk_0 (Or.inr rfl) ⟨0, 1, rfl, lf_D_19⟩ (Or.inr rfl)) ?_
  refine pk_c (pk_4 lm_D_292) ?_
  refine pk_c (pk_0 (Or.inr rfl) ⟨0, 0, rfl, lf_D_12⟩ (Or.inr rfl)) ?_
  refine pk_c (pk_4 lm_D_69) ?_
  refine pk_c (pk_0 (Or.inr rfl) ⟨0, 0, rfl, lf_D_12⟩ (Or.inr rfl)) ?_
  refine pk_c (pk_0 (Or.inr rfl) ⟨1, 1, rfl, lf_D_73⟩ (Or.inr rfl)) ?_
  refine pk_c (pk_0 (Or.inr rfl) ⟨0, 4, rfl, lf_D_40⟩ (Or.inr rfl)) ?_
  refine pk_c (pk_0 (Or.inr rfl) ⟨5, 1, rfl, lf_D_296⟩ (Or.inr rfl)) ?_
  refine pk_c (pk_0 (Or.inr rfl) ⟨0, 4, rfl, lf_D_40⟩ (Or.inr rfl)) ?_
  refine pk_c (pk_0 (Or.inr rfl) ⟨5, 0, rfl, lf_D_298⟩ (Or.inr rfl)) ?_
  refine pk_c (pk_0 (Or.inr rfl) ⟨0, 0, rfl, lf_D_12⟩ (Or.inr rfl)) ?_
  refine pk_c (pk_0 (Or.inr rfl) ⟨1, 0, rfl, lf_D_84⟩ (Or.inr rfl)) ?_
  refine pk_c (pk_0 (Or.inr rfl) ⟨0, 4, rfl, lf_D_40⟩ (Or.inr rfl)) ?_
  refine pk_c (pk_0 (Or.inr rfl) ⟨5, 1, rfl, lf_D_296⟩ (Or.inr rfl)) ?_
  refine pk_c (pk_0 (Or.inr rfl) (Or.inr ⟨rfl, w_1032, w_864, w_863, w_23⟩) (Or.inr rfl)) ?_
  refine pk_c (pk_4 lm_D_77) ?_
  refine pk_c (pk_0 (Or.inr rfl) ⟨0, 4, rfl, lf_D_40⟩ (Or.inr rfl)) ?_
  refine pk_c (pk_0 (Or.inr rfl) ⟨5, 1, rfl, lf_D_296⟩ (Or.inr rfl)) ?_
  refine pk_c (pk_2 rfl (Or.inl ⟨rfl, rfl⟩)) ?_
  exact pk_n
theorem ok_Ca_make {s0 : State} (hS : pm_Str s0) : pm_OKI s0 mi_Ca_make := by
  refine ⟨Or.inl ⟨w_964, rfl⟩, w_6, by decide +kernel, ⟨by decide +kernel, by decide +kernel⟩, by decide, by decide +kernel, pk_i (by decide +kernel) (pk_all (ks := [(3, .invokevirtual 22, 3, ([21, 3, 0, 2], .null)), (6, .ifCond .ne 7, 3, ([13], .null)), (10, .goto 4, 3, ([14], .null)), (14, .invokestatic 28, 3, ([29, 1, 0, 0], .null)), (18, .getfield 9, 3, ([5, 0], .null)), (22, .invokestatic 32, 3, ([15, 2, 0, 0], .null)), (27, .putfield 38, 3, ([5, 1, 0], .null)), (38, .invokevirtual 42, 3, ([153, 7, 0, 6], .null)), (41, .return_, 1, ([], .null))]) (by decide +kernel) ?_)⟩
  refine pk_c (pk_4 lm_Ca_22) ?_
  refine pk_c (pk_0 (Or.inr rfl) ⟨13, rfl, by decide⟩ (Or.inr rfl)) ?_
  refine pk_c (pk_0 (Or.inr rfl) ⟨14, rfl, by decide⟩ (Or.inr rfl)) ?_
  refine pk_c (pk_4 lm_Ca_28) ?_
  refine pk_c (pk_0 (Or.inr rfl) ⟨5, 0, rfl, lf_Ca_9⟩ (Or.inr rfl)) ?_
  refine pk_c (pk_4 lm_Ca_32) ?_
  refine pk_c (pk_0 (Or.inr rfl) ⟨5, 1, 0, rfl, lp_Ca_38 _⟩ (Or.inr rfl)) ?_
  refine pk_c (pk_4 lm_Ca_42) ?_
  refine pk_c (pk_2 rfl rfl) ?_
  exact pk_n
theorem ok_Ca_copy {s0 : State} (hS : pm_Str s0) : pm_OKI s0 mi_Ca_copy := by
  refine ⟨Or.inl ⟨w_971, rfl⟩, w_6, by decide +kernel, ⟨by decide +kernel, by decide +kernel⟩, by decide, by decide +kernel, pk_i (by decide +kernel) (pk_all (ks := [(1, .getfield 17, 3, ([5, 2], .null)), (13, .getfield 46, 3, ([6, 0], .null)), (21, .invokevirtual 50, 3, ([30, 6, 0, 3], .null)), (26, .getfield 46, 3, ([6, 0], .null)), (29, .getfield 56, 3, ([7, 0], .null)), (32, .ifCond .ne 4, 3, ([36], .null)), (35, .return_, 1, ([], .null)), (38, .getfield 61, 3, ([1, 0], .null)), (43, .getfield 46, 3, ([6, 0], .null)), (46, .getfield 64, 3, ([7, 2], .null)), (54, .invokevirtual 67, 3, ([154, 4, 0, 6], .null)), (64, .getfield 71, 3, ([6, 1], .null)), (67, .if_icmp .ge 86, 3, ([153], .null)), (74, .invokevirtual 74, 3, ([158, 2, 0, 7], .null)), (79, .getfield 78, 3, ([6, 3], .null)), (89, .invokevirtual 81, 3, ([162, 2, 0, 7], .null)), (94, .getfield 84, 3, ([6, 6], .null)), (107, .getfield 87, 3, ([6, 7], .null)), (110, .if_icmp .ge 37, 3, ([147], .null)), (118, .getfield 46, 3, ([6, 0], .null)), (121, .getfield 64, 3, ([7, 2], .null)), (138, .invokevirtual 42, 3, ([153, 7, 0, 6], .null)), (144, .goto (-41), 3, ([103], .null)), (150, .goto (-90), 3, ([60], .null)), (153, .return_, 1, ([], .null))]) (by decide +kernel) ?_)⟩
  refine pk_c (pk_0 (Or.inr rfl) ⟨5, 2, rfl, lf_Ca_17⟩ (Or.inr rfl)) ?_
  refine pk_c (pk_0 (Or.inr rfl) ⟨6, 0, rfl, lf_Ca_46⟩ (Or.inr rfl)) ?_
  refine pk_c (pk_4 lm_Ca_50) ?_
  refine pk_c (pk_0 (Or.inr rfl) ⟨6, 0, rfl, lf_Ca_46⟩ (Or.inr rfl)) ?_
  refine pk_c (pk_0 (Or.inr rfl) ⟨7, 0, rfl, lf_Ca_56⟩ (Or.inr rfl)) ?_
  refine pk_c (pk_0 (Or.inr rfl) ⟨36, rfl, by decide⟩ (Or.inr rfl)) ?_
  refine pk_c (pk_2 rfl rfl) ?_
  refine pk_c (pk_0 (Or.inr rfl) ⟨1, 0, rfl, lf_Ca_61⟩ (Or.inr rfl)) ?_
  refine pk_c (pk_0 (Or.inr rfl) ⟨6, 0, rfl, lf_Ca_46⟩ (Or.inr rfl)) ?_
  refine pk_c (pk_0 (Or.inr rfl) ⟨7, 2, rfl, lf_Ca_64⟩ (Or.inr rfl)) ?_
  refine pk_c (pk_4 lm_Ca_67) ?_
  refine pk_c (pk_0 (Or.inr rfl) ⟨6, 1, rfl, lf_Ca_71⟩ (Or.inr rfl)) ?_
  refine pk_c (pk_0 (Or.inr rfl) ⟨153, rfl, by decide⟩ (Or.inr rfl)) ?_
  refine pk_c (pk_4 lm_Ca_74) ?_
  refine pk_c (pk_0 (Or.inr rfl) ⟨6, 3, rfl, lf_Ca_78⟩ (Or.inr rfl)) ?_
  refine pk_c (pk_4 lm_Ca_81) ?_
  refine pk_c (pk_0 (Or.inr rfl) ⟨6, 6, rfl, lf_Ca_84⟩ (Or.inr rfl)) ?_
  refine pk_c (pk_0 (Or.inr rfl) ⟨6, 7, rfl, lf_Ca_87⟩ (Or.inr rfl)) ?_
  refine pk_c (pk_0 (Or.inr rfl) ⟨147, rfl, by decide⟩ (Or.inr rfl)) ?_
  refine pk_c (pk_0 (Or.inr rfl) ⟨6, 0, rfl, lf_Ca_46⟩ (Or.inr rfl)) ?_
  refine pk_c (pk_0 (Or.inr rfl) ⟨7, 2, rfl, lf_Ca_64⟩ (Or.inr rfl)) ?_
  refine pk_c (pk_4 lm_Ca_42) ?_
  refine pk_c (pk_0 (Or.inr rfl) ⟨103, rfl, by decide⟩ (Or.inr rfl)) ?_
  refine pk_c (pk_0 (Or.inr rfl) ⟨60, rfl, by decide⟩ (Or.inr rfl)) ?_
  refine pk_c (pk_2 rfl rfl) ?_
  exact pk_n
theorem ok_Ca_lay {s0 : State} (hS : pm_Str s0) : pm_OKI s0 mi_Ca_lay := by
  refine ⟨Or.inl ⟨w_976, rfl⟩, w_6, by decide +kernel, ⟨by decide +kernel, by decide +kernel⟩, by decide, by decide +kernel, pk_i (by decide +kernel) (pk_all (ks := [(1, .getfield 46, 3, ([6, 0], .null)), (4, .getfield 56, 3, ([7, 0], .null)), (8, .if_icmp .ne 13, 3, ([21], .null)), (15, .invokevirtual 90, 3, ([155, 4, 0, 6], .null)), (18, .goto 53, 3, ([71], .null)), (22, .getfield 46, 3, ([6, 0], .null)), (25, .getfield 93, 3, ([7, 8], .null)), (30, .if_icmp .ne 13, 3, ([43], .null)), (37, .invokevirtual 96, 3, ([163, 4, 0, 6], .null)), (40, .goto 31, 3, ([71], .null)), (44, .getfield 46, 3, ([6, 0], .null)), (47, .getfield 93, 3, ([7, 8], .null)), (52, .if_icmp .ne 12, 3, ([64], .null)), (58, .invokevirtual 99, 3, ([164, 3, 0, 6], .null)), (61, .goto 10, 3, ([71], .null)), (68, .invokevirtual 103, 3, ([165, 4, 0, 6], .null)), (71, .return_, 1, ([], .null))]) (by decide +kernel) ?_)⟩
  refine pk_c (pk_0 (Or.inr rfl) ⟨6, 0, rfl, lf_Ca_46⟩ (Or.inr rfl)) ?_
  refine pk_c (pk_0 (Or.inr rfl) ⟨7, 0, rfl, lf_Ca_56⟩ (Or.inr rfl)) ?_
  refine pk_c (pk_0 (Or.inr rfl) ⟨21, rfl, by decide⟩ (Or.inr rfl)) ?_
  refine pk_c (pk_4 lm_Ca_90) ?_
  refine pk_c (pk_0 (Or.inr rfl) ⟨71, rfl, by decide⟩ (Or.inr rfl)) ?_
  refine pk_c (pk_0 (Or.inr rfl) ⟨6, 0, rfl, lf_Ca_46⟩ (Or.inr rfl)) ?_
  refine pk_c (pk_0 (Or.inr rfl) ⟨7, 8, rfl, lf_Ca_93⟩ (Or.inr rfl)) ?_
  refine pk_c (pk_0 (Or.inr rfl) ⟨43, rfl, by decide⟩ (Or.inr rfl)) ?_
  refine pk_c (pk_4 lm_Ca_96) ?_
  refine pk_c (pk_0 (Or.inr rfl) ⟨71, rfl, by decide⟩ (Or.inr rfl)) ?_
  refine pk_c (pk_0 (Or.inr rfl) ⟨6, 0, rfl, lf_Ca_46⟩ (Or.inr rfl)) ?_
  refine pk_c (pk_0 (Or.inr rfl) ⟨7, 8, rfl, lf_Ca_93⟩ (Or.inr rfl)) ?_
  refine pk_c (pk_0 (Or.inr rfl) ⟨64, rfl, by decide⟩ (Or.inr rfl)) ?_
  refine pk_c (pk_4 lm_Ca_99) ?_
  refine pk_c (pk_0 (Or.inr rfl) ⟨71, rfl, by decide⟩ (Or.inr rfl)) ?_
  refine pk_c (pk_4 lm_Ca_103) ?_
  refine pk_c (pk_2 rfl rfl) ?_
  exact pk_n
theorem ok_Ca_layStruct {s0 : State} (hS : pm_Str s0) : pm_OKI s0 mi_Ca_layStruct := by
  refine ⟨Or.inl ⟨w_980, rfl⟩, w_6, by decide +kernel, ⟨by decide +kernel, by decide +kernel⟩, by decide, by decide +kernel, pk_i (by decide +kernel) (pk_all (ks := [(3, .getfield 46, 3, ([6, 0], .null)), (6, .getfield 106, 3, ([7, 3], .null)), (9, .invokevirtual 109, 3, ([156, 3, 0, 7], .null)), (14, .invokevirtual 113, 3, ([157, 2, 0, 7], .null)), (18, .getfield 84, 3, ([6, 6], .null)), (22, .getfield 87, 3, ([6, 7], .null)), (32, .invokevirtual 117, 3, ([160, 2, 0, 6], .null)), (35, .putfield 120, 3, ([6, 5, 0], .null)), (40, .ifCond .ne 7, 3, ([47], .null)), (44, .goto 11, 3, ([55], .null)), (48, .getfield 120, 3, ([6, 5], .null)), (58, .getfield 9, 3, ([5, 0], .null)), (63, .getfield 84, 3, ([6, 6], .null)), (67, .getfield 87, 3, ([6, 7], .null)), (70, .invokestatic 123, 3, ([99, 2, 0, 0], .null)), (75, .invokestatic 129, 3, ([100, 2, 0, 0], .null)), (82, .invokevirtual 133, 3, ([161, 3, 0, 6], .null)), (85, .return_, 1, ([], .null))]) (by decide +kernel) ?_)⟩
  refine pk_c (pk_0 (Or.inr rfl) ⟨6, 0, rfl, lf_Ca_46⟩ (Or.inr rfl)) ?_
  refine pk_c (pk_0 (Or.inr rfl) ⟨7, 3, rfl, lf_Ca_106⟩ (Or.inr rfl)) ?_
  refine pk_c (pk_4 lm_Ca_109) ?_
  refine pk_c (pk_4 lm_Ca_113) ?_
  refine pk_c (pk_0 (Or.inr rfl) ⟨6, 6, rfl, lf_Ca_84⟩ (Or.inr rfl)) ?_
  refine pk_c (pk_0 (Or.inr rfl) ⟨6, 7, rfl, lf_Ca_87⟩ (Or.inr rfl)) ?_
  refine pk_c (pk_4 lm_Ca_117) ?_
  refine pk_c (pk_0 (Or.inr rfl) ⟨6, 5, 0, rfl, lp_Ca_120 _⟩ (Or.inr rfl)) ?_
  refine pk_c (pk_0 (Or.inr rfl) ⟨47, rfl, by decide⟩ (Or.inr rfl)) ?_
  refine pk_c (pk_0 (Or.inr rfl) ⟨55, rfl, by decide⟩ (Or.inr rfl)) ?_
  refine pk_c (pk_0 (Or.inr rfl) ⟨6, 5, rfl, lf_Ca_120⟩ (Or.inr rfl)) ?_
  refine pk_c (pk_0 (Or.inr rfl) ⟨5, 0, rfl, lf_Ca_9⟩ (Or.inr rfl)) ?_
  refine pk_c (pk_0 (Or.inr rfl) ⟨6, 6, rfl, lf_Ca_84⟩ (Or.inr rfl)) ?_
  refine pk_c (pk_0 (Or.inr rfl) ⟨6, 7, rfl, lf_Ca_87⟩ (Or.inr rfl)) ?_
  refine pk_c (pk_4 lm_Ca_123) ?_
  refine pk_c (pk_4 lm_Ca_129) ?_
  refine pk_c (pk_4 lm_Ca_133) ?_
  refine pk_c (pk_2 rfl rfl) ?_
  exact pk_n
theorem ok_Le_span {s0 : State} (hS : pm_Str s0) : pm_OKI s0 mi_Le_span := by
  refine ⟨Or.inl ⟨w_984, rfl⟩, w_7, by decide +kernel, ⟨by decide +kernel, by decide +kernel⟩, by decide, by decide +kernel, pk_i (by decide +kernel) (pk_all (ks := [(2, .putfield 16, 3, ([6, 1, 0], .null)), (7, .putfield 20, 3, ([6, 2, 0], .null)), (12, .getfield 10, 3, ([6, 0], .null)), (15, .invokevirtual 23, 3, ([59, 1, 0, 8], .null)), (18, .putfield 27, 3, ([6, 3, 0], .null)), (23, .getfield 10, 3, ([6, 0], .null)), (26, .getfield 30, 3, ([7, 6], .null)), (29, .putfield 33, 3, ([6, 4, 0], .null)), (34, .putfield 36, 3, ([6, 6, 0], .null)), (39, .putfield 39, 3, ([6, 7, 0], .null)), (42, .return_, 1, ([], .null))]) (by decide +kernel) ?_)⟩
  refine pk_c (pk_0 (Or.inr rfl) ⟨6, 1, 0, rfl, lp_Le_16 _⟩ (Or.inr rfl)) ?_
  refine pk_c (pk_0 (Or.inr rfl) ⟨6, 2, 0, rfl, lp_Le_20 _⟩ (Or.inr rfl)) ?_
  refine pk_c (pk_0 (Or.inr rfl) ⟨6, 0, rfl, lf_Le_10⟩ (Or.inr rfl)) ?_
  refine pk_c (pk_4 lm_Le_23) ?_
  refine pk_c (pk_0 (Or.inr rfl) ⟨6, 3, 0, rfl, lp_Le_27 _⟩ (Or.inr rfl)) ?_
  refine pk_c (pk_0 (Or.inr rfl) ⟨6, 0, rfl, lf_Le_10⟩ (Or.inr rfl)) ?_
  refine pk_c (pk_0 (Or.inr rfl) ⟨7, 6, rfl, lf_Le_30⟩ (Or.inr rfl)) ?_
  refine pk_c (pk_0 (Or.inr rfl) ⟨6, 4, 0, rfl, lp_Le_33 _⟩ (Or.inr rfl)) ?_
  refine pk_c (pk_0 (Or.inr rfl) ⟨6, 6, 0, rfl, lp_Le_36 _⟩ (Or.inr rfl)) ?_
  refine pk_c (pk_0 (Or.inr rfl) ⟨6, 7, 0, rfl, lp_Le_39 _⟩ (Or.inr rfl)) ?_
  refine pk_c (pk_2 rfl rfl) ?_
  exact pk_n
theorem ok_Le_measure {s0 : State} (hS : pm_Str s0) : pm_OKI s0 mi_Le_measure := by
  refine ⟨Or.inl ⟨w_989, rfl⟩, w_7, by decide +kernel, ⟨by decide +kernel, by decide +kernel⟩, by decide, by decide +kernel, pk_i (by decide +kernel) (pk_all (ks := [(4, .getfield 16, 3, ([6, 1], .null)), (7, .if_icmp .ge 60, 3, ([67], .null)), (12, .invokevirtual 43, 3, ([158, 2, 0, 7], .null)), (18, .getfield 36, 3, ([6, 6], .null)), (24, .getfield 27, 3, ([6, 3], .null)), (27, .invokestatic 47, 3, ([159, 3, 0, 0], .null)), (30, .invokestatic 51, 3, ([81, 2, 0, 0], .null)), (33, .putfield 36, 3, ([6, 6, 0], .null)), (38, .getfield 39, 3, ([6, 7], .null)), (44, .getfield 27, 3, ([6, 3], .null)), (49, .getfield 33, 3, ([6, 4], .null)), (52, .invokestatic 47, 3, ([159, 3, 0, 0], .null)), (55, .invokestatic 51, 3, ([81, 2, 0, 0], .null)), (58, .putfield 39, 3, ([6, 7, 0], .null)), (64, .goto (-62), 3, ([2], .null)), (67, .return_, 1, ([], .null))]) (by decide +kernel) ?_)⟩
  refine pk_c (pk_0 (Or.inr rfl) ⟨6, 1, rfl, lf_Le_16⟩ (Or.inr rfl)) ?_
  refine pk_c (pk_0 (Or.inr rfl) ⟨67, rfl, by decide⟩ (Or.inr rfl)) ?_
  refine pk_c (pk_4 lm_Le_43) ?_
  refine pk_c (pk_0 (Or.inr rfl) ⟨6, 6, rfl, lf_Le_36⟩ (Or.inr rfl)) ?_
  refine pk_c (pk_0 (Or.inr rfl) ⟨6, 3, rfl, lf_Le_27⟩ (Or.inr rfl)) ?_
  refine pk_c (pk_4 lm_Le_47) ?_
  refine pk_c (pk_4 lm_Le_51) ?_
  refine pk_c (pk_0 (Or.inr rfl) ⟨6, 6, 0, rfl, lp_Le_36 _⟩ (Or.inr rfl)) ?_
  refine pk_c (pk_0 (Or.inr rfl) ⟨6, 7, rfl, lf_Le_39⟩ (Or.inr rfl)) ?_
  refine pk_c (pk_0 (Or.inr rfl) ⟨6, 3, rfl, lf_Le_27⟩ (Or.inr rfl)) ?_
  refine pk_c (pk_0 (Or.inr rfl) ⟨6, 4, rfl, lf_Le_33⟩ (Or.inr rfl)) ?_
  refine pk_c (pk_4 lm_Le_47) ?_
  refine pk_c (pk_4 lm_Le_51) ?_
  refine pk_c (pk_0 (Or.inr rfl) ⟨6, 7, 0, rfl, lp_Le_39 _⟩ (Or.inr rfl)) ?_
  refine pk_c (pk_0 (Or.inr rfl) ⟨2, rfl, by decide⟩ (Or.inr rfl)) ?_
  refine pk_c (pk_2 rfl rfl) ?_
  exact pk_n
theorem ok_Le_elementFrom {s0 : State} (hS : pm_Str s0) : pm_OKI s0 mi_Le_elementFrom := by
  refine ⟨Or.inl ⟨w_993, rfl⟩, w_7, by decide +kernel, ⟨by decide +kernel, by decide +kernel⟩, by decide, by decide +kernel, pk_i (by decide +kernel) (pk_all (ks := [(1, .getfield 20, 3, ([6, 2], .null)), (6, .getfield 27, 3, ([6, 3], .null)), (10, .getfield 33, 3, ([6, 4], .null)), (16, .ireturn, 1, ([], .null))]) (by decide +kernel) ?_)⟩
  refine pk_c (pk_0 (Or.inr rfl) ⟨6, 2, rfl, lf_Le_20⟩ (Or.inr rfl)) ?_
  refine pk_c (pk_0 (Or.inr rfl) ⟨6, 3, rfl, lf_Le_27⟩ (Or.inr rfl)) ?_
  refine pk_c (pk_0 (Or.inr rfl) ⟨6, 4, rfl, lf_Le_33⟩ (Or.inr rfl)) ?_
  refine pk_c (pk_2 rfl (Or.inl ⟨rfl, rfl⟩)) ?_
  exact pk_n
theorem ok_Le_needed {s0 : State} (hS : pm_Str s0) : pm_OKI s0 mi_Le_needed := by
  refine ⟨Or.inl ⟨w_996, rfl⟩, w_7, by decide +kernel, ⟨by decide +kernel, by decide +kernel⟩, by decide, by decide +kernel, pk_i (by decide +kernel) (pk_all (ks := [(3, .ifCond .le 21, 3, ([24], .null)), (15, .ifCond .ne 9, 3, ([24], .null)), (21, .goto (-19), 3, ([2], .null)), (25, .ireturn, 1, ([], .null))]) (by decide +kernel) ?_)⟩
  refine pk_c (pk_0 (Or.inr rfl) ⟨24, rfl, by decide⟩ (Or.inr rfl)) ?_
  refine pk_c (pk_0 (Or.inr rfl) ⟨24, rfl, by decide⟩ (Or.inr rfl)) ?_
  refine pk_c (pk_0 (Or.inr rfl) ⟨2, rfl, by decide⟩ (Or.inr rfl)) ?_
  refine pk_c (pk_2 rfl (Or.inl ⟨rfl, rfl⟩)) ?_
  exact pk_n
theorem ok_Ca_claim {s0 : State} (hS : pm_Str s0) : pm_OKI s0 mi_Ca_claim := by
  refine ⟨Or.inl ⟨w_1001, rfl⟩, w_6, by decide +kernel, ⟨by decide +kernel, by decide +kernel⟩, by decide, by decide +kernel, pk_i (by decide +kernel) (pk_all (ks := [(1, .getfield 38, 3, ([5, 1], .null)), (8, .if_icmp .le 7, 3, ([15], .null)), (12, .goto 4, 3, ([16], .null)), (16, .invokestatic 169, 3, ([108, 1, 0, 0], .null)), (20, .getfield 38, 3, ([5, 1], .null)), (26, .getfield 38, 3, ([5, 1], .null)), (31, .putfield 38, 3, ([5, 1, 0], .null)), (35, .ireturn, 1, ([], .null))]) (by decide +kernel) ?_)⟩
  refine pk_c (pk_0 (Or.inr rfl) ⟨5, 1, rfl, lf_Ca_38⟩ (Or.inr rfl)) ?_
  refine pk_c (pk_0 (Or.inr rfl) ⟨15, rfl, by decide⟩ (Or.inr rfl)) ?_
  refine pk_c (pk_0 (Or.inr rfl) ⟨16, rfl, by decide⟩ (Or.inr rfl)) ?_
  refine pk_c (pk_4 lm_Ca_169) ?_
  refine pk_c (pk_0 (Or.inr rfl) ⟨5, 1, rfl, lf_Ca_38⟩ (Or.inr rfl)) ?_
  refine pk_c (pk_0 (Or.inr rfl) ⟨5, 1, rfl, lf_Ca_38⟩ (Or.inr rfl)) ?_
  refine pk_c (pk_0 (Or.inr rfl) ⟨5, 1, 0, rfl, lp_Ca_38 _⟩ (Or.inr rfl)) ?_
  refine pk_c (pk_2 rfl (Or.inl ⟨rfl, rfl⟩)) ?_
  exact pk_n
theorem ok_Ca_copyData {s0 : State} (hS : pm_Str s0) : pm_OKI s0 mi_Ca_copyData := by
  refine ⟨Or.inl ⟨w_1008, rfl⟩, w_6, by decide +kernel, ⟨by decide +kernel, by decide +kernel⟩, by decide, by decide +kernel, pk_i (by decide +kernel) (pk_all (ks := [(4, .getfield 71, 3, ([6, 1], .null)), (7, .if_icmp .ge 31, 3, ([38], .null)), (13, .invokevirtual 74, 3, ([158, 2, 0, 7], .null)), (17, .getfield 9, 3, ([5, 0], .null)), (22, .invokevirtual 81, 3, ([162, 2, 0, 7], .null)), (26, .getfield 84, 3, ([6, 6], .null)), (29, .invokestatic 155, 3, ([4], .null)), (35, .goto (-33), 3, ([2], .null)), (38, .return_, 1, ([], .null))]) (by decide +kernel) ?_)⟩
  refine pk_c (pk_0 (Or.inr rfl) ⟨6, 1, rfl, lf_Ca_71⟩ (Or.inr rfl)) ?_
  refine pk_c (pk_0 (Or.inr rfl) ⟨38, rfl, by decide⟩ (Or.inr rfl)) ?_
  refine pk_c (pk_4 lm_Ca_74) ?_
  refine pk_c (pk_0 (Or.inr rfl) ⟨5, 0, rfl, lf_Ca_9⟩ (Or.inr rfl)) ?_
  refine pk_c (pk_4 lm_Ca_81) ?_
  refine pk_c (pk_0 (Or.inr rfl) ⟨6, 6, rfl, lf_Ca_84⟩ (Or.inr rfl)) ?_
  refine pk_c (pk_0 (Or.inr rfl) (Or.inr ⟨rfl, w_1014, w_864, w_863, w_23⟩) (Or.inr rfl)) ?_
  refine pk_c (pk_0 (Or.inr rfl) ⟨2, rfl, by decide⟩ (Or.inr rfl)) ?_
  refine pk_c (pk_2 rfl rfl) ?_
  exact pk_n
theorem ok_Le_elementTo {s0 : State} (hS : pm_Str s0) : pm_OKI s0 mi_Le_elementTo := by
  refine ⟨Or.inl ⟨w_1013, rfl⟩, w_7, by decide +kernel, ⟨by decide +kernel, by decide +kernel⟩, by decide, by decide +kernel, pk_i (by decide +kernel) (pk_all (ks := [(1, .getfield 40, 3, ([6, 5], .null)), (6, .getfield 36, 3, ([6, 6], .null)), (10, .getfield 39, 3, ([6, 7], .null)), (16, .ireturn, 1, ([], .null))]) (by decide +kernel) ?_)⟩
  refine pk_c (pk_0 (Or.inr rfl) ⟨6, 5, rfl, lf_Le_40⟩ (Or.inr rfl)) ?_
  refine pk_c (pk_0 (Or.inr rfl) ⟨6, 6, rfl, lf_Le_36⟩ (Or.inr rfl)) ?_
  refine pk_c (pk_0 (Or.inr rfl) ⟨6, 7, rfl, lf_Le_39⟩ (Or.inr rfl)) ?_
  refine pk_c (pk_2 rfl (Or.inl ⟨rfl, rfl⟩)) ?_
  exact pk_n
theorem ok_Ca_layStructs {s0 : State} (hS : pm_Str s0) : pm_OKI s0 mi_Ca_layStructs := by
  refine ⟨Or.inl ⟨w_1018, rfl⟩, w_6, by decide +kernel, ⟨by decide +kernel, by decide +kernel⟩, by decide, by decide +kernel, pk_i (by decide +kernel) (pk_all (ks := [(1, .getfield 46, 3, ([6, 0], .null)), (9, .getfield 137, 3, ([7, 5], .null)), (14, .getfield 140, 3, ([7, 6], .null)), (18, .ifCond .ne 7, 3, ([25], .null)), (22, .goto 8, 3, ([30], .null)), (27, .getfield 141, 3, ([7, 7], .null)), (32, .invokevirtual 144, 3, ([63, 1, 0, 8], .null)), (35, .invokevirtual 109, 3, ([156, 3, 0, 7], .null)), (40, .invokevirtual 113, 3, ([157, 2, 0, 7], .null)), (44, .getfield 71, 3, ([6, 1], .null)), (48, .getfield 84, 3, ([6, 6], .null)), (52, .getfield 87, 3, ([6, 7], .null)), (64, .invokevirtual 117, 3, ([160, 2, 0, 6], .null)), (74, .putfield 120, 3, ([6, 5, 0], .null)), (78, .getfield 9, 3, ([5, 0], .null)), (86, .invokestatic 148, 3, ([112, 2, 0, 0], .null)), (95, .invokestatic 129, 3, ([100, 2, 0, 0], .null)), (100, .getfield 9, 3, ([5, 0], .null)), (106, .getfield 84, 3, ([6, 6], .null)), (110, .getfield 87, 3, ([6, 7], .null)), (113, .invokestatic 123, 3, ([99, 2, 0, 0], .null)), (118, .getfield 141, 3, ([7, 7], .null)), (121, .invokestatic 129, 3, ([100, 2, 0, 0], .null)), (128, .invokevirtual 133, 3, ([161, 3, 0, 6], .null)), (131, .return_, 1, ([], .null))]) (by decide +kernel) ?_)⟩
  refine pk_c (pk_0 (Or.inr rfl) ⟨6, 0, rfl, lf_Ca_46⟩ (Or.inr rfl)) ?_
  refine pk_c (pk_0 (Or.inr rfl) ⟨7, 5, rfl, lf_Ca_137⟩ (Or.inr rfl)) ?_
  refine pk_c (pk_0 (Or.inr rfl) ⟨7, 6, rfl, lf_Ca_140⟩ (Or.inr rfl)) ?_
  refine pk_c (pk_0 (Or.inr rfl) ⟨25, rfl, by decide⟩ (Or.inr rfl)) ?_
  refine pk_c (pk_0 (Or.inr rfl) ⟨30, rfl, by decide⟩ (Or.inr rfl)) ?_
  refine pk_c (pk_0 (Or.inr rfl) ⟨7, 7, rfl, lf_Ca_141⟩ (Or.inr rfl)) ?_
  refine pk_c (pk_4 lm_Ca_144) ?_
  refine pk_c (pk_4 lm_Ca_109) ?_
  refine pk_c (pk_4 lm_Ca_113) ?_
  refine pk_c (pk_0 (Or.inr rfl) ⟨6, 1, rfl, lf_Ca_71⟩ (Or.inr rfl)) ?_
  refine pk_c (pk_0 (Or.inr rfl) ⟨6, 6, rfl, lf_Ca_84⟩ (Or.inr rfl)) ?_
  refine pk_c (pk_0 (Or.inr rfl) ⟨6, 7, rfl, lf_Ca_87⟩ (Or.inr rfl)) ?_
  refine pk_c (pk_4 lm_Ca_117) ?_
  refine pk_c (pk_0 (Or.inr rfl) ⟨6, 5, 0, rfl, lp_Ca_120 _⟩ (Or.inr rfl)) ?_
  refine pk_c (pk_0 (Or.inr rfl) ⟨5, 0, rfl, lf_Ca_9⟩ (Or.inr rfl)) ?_
  refine pk_c (pk_4 lm_Ca_148) ?_
  refine pk_c (pk_4 lm_Ca_129) ?_
  refine pk_c (pk_0 (Or.inr rfl) ⟨5, 0, rfl, lf_Ca_9⟩ (Or.inr rfl)) ?_
  refine pk_c (pk_0 (Or.inr rfl) ⟨6, 6, rfl, lf_Ca_84⟩ (Or.inr rfl)) ?_
  refine pk_c (pk_0 (Or.inr rfl) ⟨6, 7, rfl, lf_Ca_87⟩ (Or.inr rfl)) ?_
  refine pk_c (pk_4 lm_Ca_123) ?_
  refine pk_c (pk_0 (Or.inr rfl) ⟨7, 7, rfl, lf_Ca_141⟩ (Or.inr rfl)) ?_
  refine pk_c (pk_4 lm_Ca_129) ?_
  refine pk_c (pk_4 lm_Ca_133) ?_
  refine pk_c (pk_2 rfl rfl) ?_
  exact pk_n
theorem ok_Ca_layPointers {s0 : State} (hS : pm_Str s0) : pm_OKI s0 mi_Ca_layPointers := by
  refine ⟨Or.inl ⟨w_1024, rfl⟩, w_6, by decide +kernel, ⟨by decide +kernel, by decide +kernel⟩, by decide, by decide +kernel, pk_i (by decide +kernel) (pk_all (ks := [(2, .getfield 46, 3, ([6, 0], .null)), (5, .getfield 141, 3, ([7, 7], .null)), (9, .getfield 46, 3, ([6, 0], .null)), (12, .getfield 106, 3, ([7, 3], .null)), (15, .invokevirtual 109, 3, ([156, 3, 0, 7], .null)), (20, .putfield 87, 3, ([6, 7, 0], .null)), (26, .getfield 71, 3, ([6, 1], .null)), (29, .invokevirtual 117, 3, ([160, 2, 0, 6], .null)), (32, .putfield 120, 3, ([6, 5, 0], .null)), (36, .getfield 9, 3, ([5, 0], .null)), (43, .getfield 71, 3, ([6, 1], .null)), (46, .invokestatic 148, 3, ([112, 2, 0, 0], .null)), (50, .getfield 120, 3, ([6, 5], .null)), (57, .invokestatic 129, 3, ([100, 2, 0, 0], .null)), (61, .return_, 1, ([], .null))]) (by decide +kernel) ?_)⟩
  refine pk_c (pk_0 (Or.inr rfl) ⟨6, 0, rfl, lf_Ca_46⟩ (Or.inr rfl)) ?_
  refine pk_c (pk_0 (Or.inr rfl) ⟨7, 7, rfl, lf_Ca_141⟩ (Or.inr rfl)) ?_
  refine pk_c (pk_0 (Or.inr rfl) ⟨6, 0, rfl, lf_Ca_46⟩ (Or.inr rfl)) ?_
  refine pk_c (pk_0 (Or.inr rfl) ⟨7, 3, rfl, lf_Ca_106⟩ (Or.inr rfl)) ?_
  refine pk_c (pk_4 lm_Ca_109) ?_
  refine pk_c (pk_0 (Or.inr rfl) ⟨6, 7, 0, rfl, lp_Ca_87 _⟩ (Or.inr rfl)) ?_
  refine pk_c (pk_0 (Or.inr rfl) ⟨6, 1, rfl, lf_Ca_71⟩ (Or.inr rfl)) ?_
  refine pk_c (pk_4 lm_Ca_117) ?_
  refine pk_c (pk_0 (Or.inr rfl) ⟨6, 5, 0, rfl, lp_Ca_120 _⟩ (Or.inr rfl)) ?_
  refine pk_c (pk_0 (Or.inr rfl) ⟨5, 0, rfl, lf_Ca_9⟩ (Or.inr rfl)) ?_
  refine pk_c (pk_0 (Or.inr rfl) ⟨6, 1, rfl, lf_Ca_71⟩ (Or.inr rfl)) ?_
  refine pk_c (pk_4 lm_Ca_148) ?_
  refine pk_c (pk_0 (Or.inr rfl) ⟨6, 5, rfl, lf_Ca_120⟩ (Or.inr rfl)) ?_
  refine pk_c (pk_4 lm_Ca_129) ?_
  refine pk_c (pk_2 rfl rfl) ?_
  exact pk_n
theorem ok_Ca_layNumbers {s0 : State} (hS : pm_Str s0) : pm_OKI s0 mi_Ca_layNumbers := by
  refine ⟨Or.inl ⟨w_1028, rfl⟩, w_6, by decide +kernel, ⟨by decide +kernel, by decide +kernel⟩, by decide, by decide +kernel, pk_i (by decide +kernel) (pk_all (ks := [(1, .getfield 46, 3, ([6, 0], .null)), (10, .getfield 106, 3, ([7, 3], .null)), (13, .invokevirtual 109, 3, ([156, 3, 0, 7], .null)), (18, .getfield 93, 3, ([7, 8], .null)), (23, .getfield 141, 3, ([7, 7], .null)), (26, .invokestatic 151, 3, ([51, 2, 0, 0], .null)), (34, .invokevirtual 117, 3, ([160, 2, 0, 6], .null)), (40, .getfield 9, 3, ([5, 0], .null)), (46, .getfield 93, 3, ([7, 8], .null)), (51, .getfield 141, 3, ([7, 7], .null)), (54, .invokestatic 148, 3, ([112, 2, 0, 0], .null)), (63, .invokestatic 129, 3, ([100, 2, 0, 0], .null)), (70, .getfield 106, 3, ([7, 3], .null)), (74, .getfield 9, 3, ([5, 0], .null)), (81, .invokestatic 155, 3, ([4], .null)), (86, .getfield 141, 3, ([7, 7], .null)), (89, .getstatic 161, 3, ([], .retAddr 1)), (94, .getfield 93, 3, ([7, 8], .null)), (106, .ifCond .eq 23, 3, ([129], .null)), (110, .getfield 9, 3, ([5, 0], .null)), (124, .invokestatic 165, 3, ([71, 1, 0, 0], .null)), (129, .return_, 1, ([], .null))]) (by decide +kernel) ?_)⟩
  refine pk_c (pk_0 (Or.inr rfl) ⟨6, 0, rfl, lf_Ca_46⟩ (Or.inr rfl)) ?_
  refine pk_c (pk_0 (Or.inr rfl) ⟨7, 3, rfl, lf_Ca_106⟩ (Or.inr rfl)) ?_
  refine pk_c (pk_4 lm_Ca_109) ?_
  refine pk_c (pk_0 (Or.inr rfl) ⟨7, 8, rfl, lf_Ca_93⟩ (Or.inr rfl)) ?_
  refine pk_c (pk_0 (Or.inr rfl) ⟨7, 7, rfl, lf_Ca_141⟩ (Or.inr rfl)) ?_
  refine pk_c (pk_4 lm_Ca_151) ?_
  refine pk_c (pk_4 lm_Ca_117) ?_
  refine pk_c (pk_0 (Or.inr rfl) ⟨5, 0, rfl, lf_Ca_9⟩ (Or.inr rfl)) ?_
  refine pk_c (pk_0 (Or.inr rfl) ⟨7, 8, rfl, lf_Ca_93⟩ (Or.inr rfl)) ?_
  refine pk_c (pk_0 (Or.inr rfl) ⟨7, 7, rfl, lf_Ca_141⟩ (Or.inr rfl)) ?_
  refine pk_c (pk_4 lm_Ca_148) ?_
  refine pk_c (pk_4 lm_Ca_129) ?_
  refine pk_c (pk_0 (Or.inr rfl) ⟨7, 3, rfl, lf_Ca_106⟩ (Or.inr rfl)) ?_
  refine pk_c (pk_0 (Or.inr rfl) ⟨5, 0, rfl, lf_Ca_9⟩ (Or.inr rfl)) ?_
  refine pk_c (pk_0 (Or.inr rfl) (Or.inr ⟨rfl, w_1014, w_864, w_863, w_23⟩) (Or.inr rfl)) ?_
  refine pk_c (pk_0 (Or.inr rfl) ⟨7, 7, rfl, lf_Ca_141⟩ (Or.inr rfl)) ?_
  refine pk_c (pk_0 (Or.inr rfl) (Or.inr ⟨"SegmentDesk", w_1030⟩) (Or.inr rfl)) ?_
  refine pk_c (pk_0 (Or.inr rfl) ⟨7, 8, rfl, lf_Ca_93⟩ (Or.inr rfl)) ?_
  refine pk_c (pk_0 (Or.inr rfl) ⟨129, rfl, by decide⟩ (Or.inr rfl)) ?_
  refine pk_c (pk_0 (Or.inr rfl) ⟨5, 0, rfl, lf_Ca_9⟩ (Or.inr rfl)) ?_
  refine pk_c (pk_4 lm_Ca_165) ?_
  refine pk_c (pk_2 rfl rfl) ?_
  exact pk_n
theorem ok_L_count {s0 : State} (hS : pm_Str s0) : pm_OKI s0 mi_L_count := by
  refine ⟨Or.inr ⟨_, w_1035, pk_hs ⟨rfl, rfl, by decide, ⟨by decide, by decide⟩, by decide, w_281, w_291, Or.inr ⟨3, rfl, by decide +kernel, rfl⟩⟩ (pk_h0)⟩, w_0, by decide +kernel, ⟨by decide +kernel, by decide +kernel⟩, by decide, by decide +kernel, pk_i (by decide +kernel) (pk_all (ks := [(4, .invokevirtual 97, 3, ([167, 2, 0, 1], .null)), (9, .goto 6, 3, ([15], .null)), (14, .ireturn, 1, ([], .null)), (16, .ireturn, 1, ([], .null))]) (by decide +kernel) ?_)⟩
  refine pk_c (pk_4 lm_L_97) ?_
  refine pk_c (pk_0 (Or.inr rfl) ⟨15, rfl, by decide⟩ (Or.inr rfl)) ?_
  refine pk_c (pk_2 rfl (Or.inl ⟨rfl, rfl⟩)) ?_
  refine pk_c (pk_2 rfl (Or.inl ⟨rfl, rfl⟩)) ?_
  exact pk_n
theorem ok_D_count {s0 : State} (hS : pm_Str s0) : pm_OKI s0 mi_D_count := by
  refine ⟨Or.inl ⟨w_1039, rfl⟩, w_1, by decide +kernel, ⟨by decide +kernel, by decide +kernel⟩, by decide, by decide +kernel, pk_i (by decide +kernel) (pk_all (ks := [(1, .tableswitch 111 0 8 #[51, 59, 67, 75, 91, 91, 91, 91, 103], 51, ([112, 52, 60, 68, 76, 92, 92, 92, 92, 104], .null)), (53, .getfield 12, 3, ([0, 0], .null)), (56, .getfield 289, 3, ([1, 2], .null)), (59, .ireturn, 1, ([], .null)), (61, .getfield 53, 3, ([0, 6], .null)), (64, .getfield 261, 3, ([8, 1], .null)), (67, .ireturn, 1, ([], .null)), (69, .getfield 19, 3, ([0, 1], .null)), (72, .getfield 93, 3, ([2, 0], .null)), (75, .ireturn, 1, ([], .null)), (77, .getfield 12, 3, ([0, 0], .null)), (80, .invokevirtual 202, 3, ([94, 1, 0, 2], .null)), (83, .ifCond .eq 7, 3, ([90], .null)), (87, .goto 4, 3, ([91], .null)), (91, .ireturn, 1, ([], .null)), (93, .getfield 12, 3, ([0, 0], .null)), (96, .getfield 73, 3, ([1, 1], .null)), (103, .ireturn, 1, ([], .null)), (105, .getfield 12, 3, ([0, 0], .null)), (108, .getfield 88, 3, ([1, 3], .null)), (111, .ireturn, 1, ([], .null)), (112, .new 192, 3, ([1, 1, 6], .null))]) (by decide +kernel) ?_)⟩
  refine pk_c (pk_0 (Or.inl rfl) ⟨112, _, rfl, by decide, by decide, by decide, pk_t (by decide +kernel)⟩ (Or.inr rfl)) ?_
  refine pk_c (pk_0 (Or.inr rfl) ⟨0, 0, rfl, lf_D_12⟩ (Or.inr rfl)) ?_
  refine pk_c (pk_0 (Or.inr rfl) ⟨1, 2, rfl, lf_D_289⟩ (Or.inr rfl)) ?_
  refine pk_c (pk_2 rfl (Or.inl ⟨rfl, rfl⟩)) ?_
  refine pk_c (pk_0 (Or.inr rfl) ⟨0, 6, rfl, lf_D_53⟩ (Or.inr rfl)) ?_
  refine pk_c (pk_0 (Or.inr rfl) ⟨8, 1, rfl, lf_D_261⟩ (Or.inr rfl)) ?_
  refine pk_c (pk_2 rfl (Or.inl ⟨rfl, rfl⟩)) ?_
  refine pk_c (pk_0 (Or.inr rfl) ⟨0, 1, rfl, lf_D_19⟩ (Or.inr rfl)) ?_
  refine pk_c (pk_0 (Or.inr rfl) ⟨2, 0, rfl, lf_D_93⟩ (Or.inr rfl)) ?_
  refine pk_c (pk_2 rfl (Or.inl ⟨rfl, rfl⟩)) ?_
  refine pk_c (pk_0 (Or.inr rfl) ⟨0, 0, rfl, lf_D_12⟩ (Or.inr rfl)) ?_
  refine pk_c (pk_4 lm_D_202) ?_
  refine pk_c (pk_0 (Or.inr rfl) ⟨90, rfl, by decide⟩ (Or.inr rfl)) ?_
  refine pk_c (pk_0 (Or.inr rfl) ⟨91, rfl, by decide⟩ (Or.inr rfl)) ?_
  refine pk_c (pk_2 rfl (Or.inl ⟨rfl, rfl⟩)) ?_
  refine pk_c (pk_0 (Or.inr rfl) ⟨0, 0, rfl, lf_D_12⟩ (Or.inr rfl)) ?_
  refine pk_c (pk_0 (Or.inr rfl) ⟨1, 1, rfl, lf_D_73⟩ (Or.inr rfl)) ?_
  refine pk_c (pk_2 rfl (Or.inl ⟨rfl, rfl⟩)) ?_
  refine pk_c (pk_0 (Or.inr rfl) ⟨0, 0, rfl, lf_D_12⟩ (Or.inr rfl)) ?_
  refine pk_c (pk_0 (Or.inr rfl) ⟨1, 3, rfl, lf_D_88⟩ (Or.inr rfl)) ?_
  refine pk_c (pk_2 rfl (Or.inl ⟨rfl, rfl⟩)) ?_
  refine pk_c (pk_3 ⟨by decide, by decide⟩ rfl (pk_x (is := 307) (ic := 196) (wl := 3) (text := "no such thing to count") hS (List.mem_of_getElem? (i := 1) rfl) (by decide +kernel) w_289 w_14 (by decide +kernel) oa_1)) ?_
  exact pk_n
theorem ok_M_init {s0 : State} (hS : pm_Str s0) : pm_OKI s0 mi_M_init := by
  refine ⟨Or.inl ⟨w_1045, rfl⟩, w_10, by decide +kernel, ⟨by decide +kernel, by decide +kernel⟩, by decide, by decide +kernel, pk_i (by decide +kernel) (pk_all (ks := [(1, .invokespecial 1, 3, ([0], .null)), (8, .newarray .long, 2, ([1], .null)), (10, .putfield 7, 3, ([9, 0, 2], .null)), (16, .newarray .long, 2, ([1], .null)), (18, .putfield 13, 3, ([9, 1, 2], .null)), (25, .newarray .long, 2, ([1], .null)), (27, .putfield 16, 3, ([9, 2, 2], .null)), (32, .newarray .int, 2, ([0], .null)), (34, .putfield 19, 3, ([9, 3, 2], .null)), (41, .newarray .int, 2, ([0], .null)), (43, .putfield 23, 3, ([9, 4, 2], .null)), (50, .newarray .int, 2, ([0], .null)), (52, .putfield 26, 3, ([9, 5, 2], .null)), (57, .putfield 29, 3, ([9, 6, 0], .null)), (64, .putfield 33, 3, ([9, 8, 0], .null)), (70, .newarray .int, 2, ([0], .null)), (72, .putfield 36, 3, ([9, 12, 2], .null)), (78, .newarray .int, 2, ([0], .null)), (80, .putfield 39, 3, ([9, 13, 2], .null)), (86, .newarray .int, 2, ([0], .null)), (88, .putfield 42, 3, ([9, 14, 2], .null)), (94, .newarray .int, 2, ([0], .null)), (96, .putfield 45, 3, ([9, 15, 2], .null)), (102, .newarray .int, 2, ([0], .null)), (104, .putfield 48, 3, ([9, 16, 2], .null)), (110, .newarray .int, 2, ([0], .null)), (112, .putfield 51, 3, ([9, 17, 2], .null)), (118, .newarray .int, 2, ([0], .null)), (120, .putfield 54, 3, ([9, 18, 2], .null)), (126, .newarray .int, 2, ([0], .null)), (128, .putfield 57, 3, ([9, 19, 2], .null)), (134, .newarray .int, 2, ([0], .null)), (136, .putfield 60, 3, ([9, 20, 2], .null)), (142, .newarray .int, 2, ([0], .null)), (144, .putfield 63, 3, ([9, 21, 2], .null)), (150, .newarray .int, 2, ([0], .null)), (152, .putfield 66, 3, ([9, 22, 2], .null)), (158, .newarray .int, 2, ([0], .null)), (160, .putfield 69, 3, ([9, 23, 2], .null)), (166, .newarray .int, 2, ([0], .null)), (168, .putfield 72, 3, ([9, 24, 2], .null)), (174, .newarray .int, 2, ([0], .null)), (176, .putfield 75, 3, ([9, 25, 2], .null)), (179, .return_, 1, ([], .null))]) (by decide +kernel) ?_)⟩
  refine pk_c (pk_0 (Or.inr rfl) (Or.inr ⟨rfl, w_1046, w_31, w_32⟩) (Or.inr rfl)) ?_
  refine pk_c (pk_0 (Or.inr rfl) ⟨1, rfl, rfl, w_69, by decide⟩ (Or.inr rfl)) ?_
  refine pk_c (pk_0 (Or.inr rfl) ⟨9, 0, 2, rfl, lp_M_7F⟩ (Or.inr rfl)) ?_
  refine pk_c (pk_0 (Or.inr rfl) ⟨1, rfl, rfl, w_69, by decide⟩ (Or.inr rfl)) ?_
  refine pk_c (pk_0 (Or.inr rfl) ⟨9, 1, 2, rfl, lp_M_13F⟩ (Or.inr rfl)) ?_
  refine pk_c (pk_0 (Or.inr rfl) ⟨1, rfl, rfl, w_69, by decide⟩ (Or.inr rfl)) ?_
  refine pk_c (pk_0 (Or.inr rfl) ⟨9, 2, 2, rfl, lp_M_16F⟩ (Or.inr rfl)) ?_
  refine pk_c (pk_0 (Or.inr rfl) ⟨0, rfl, rfl, w_70, by decide⟩ (Or.inr rfl)) ?_
  refine pk_c (pk_0 (Or.inr rfl) ⟨9, 3, 2, rfl, lp_M_19F⟩ (Or.inr rfl)) ?_
  refine pk_c (pk_0 (Or.inr rfl) ⟨0, rfl, rfl, w_70, by decide⟩ (Or.inr rfl)) ?_
  refine pk_c (pk_0 (Or.inr rfl) ⟨9, 4, 2, rfl, lp_M_23F⟩ (Or.inr rfl)) ?_
  refine pk_c (pk_0 (Or.inr rfl) ⟨0, rfl, rfl, w_70, by decide⟩ (Or.inr rfl)) ?_
  refine pk_c (pk_0 (Or.inr rfl) ⟨9, 5, 2, rfl, lp_M_26F⟩ (Or.inr rfl)) ?_
  refine pk_c (pk_0 (Or.inr rfl) ⟨9, 6, 0, rfl, lp_M_29 _⟩ (Or.inr rfl)) ?_
  refine pk_c (pk_0 (Or.inr rfl) ⟨9, 8, 0, rfl, lp_M_33 _⟩ (Or.inr rfl)) ?_
  refine pk_c (pk_0 (Or.inr rfl) ⟨0, rfl, rfl, w_70, by decide⟩ (Or.inr rfl)) ?_
  refine pk_c (pk_0 (Or.inr rfl) ⟨9, 12, 2, rfl, lp_M_36F⟩ (Or.inr rfl)) ?_
  refine pk_c (pk_0 (Or.inr rfl) ⟨0, rfl, rfl, w_70, by decide⟩ (Or.inr rfl)) ?_
  refine pk_c (pk_0 (Or.inr rfl) ⟨9, 13, 2, rfl, lp_M_39F⟩ (Or.inr rfl)) ?_
  refine pk_c (pk_0 (Or.inr rfl) ⟨0, rfl, rfl, w_70, by decide⟩ (Or.inr rfl)) ?_
  refine pk_c (pk_0 (Or.inr rfl) ⟨9, 14, 2, rfl, lp_M_42F⟩ (Or.inr rfl)) ?_
  refine pk_c (pk_0 (Or.inr rfl) ⟨0, rfl, rfl, w_70, by decide⟩ (Or.inr rfl)) ?_
  refine pk_c (pk_0 (Or.inr rfl) ⟨9, 15, 2, rfl, lp_M_45F⟩ (Or.inr rfl)) ?_
  refine pk_c (pk_0 (Or.inr rfl) ⟨0, rfl, rfl, w_70, by decide⟩ (Or.inr rfl)) ?_
  refine pk_c (pk_0 (Or.inr rfl) ⟨9, 16, 2, rfl, lp_M_48F⟩ (Or.inr rfl)) ?_
  refine pk_c (pk_0 (Or.inr rfl) ⟨0, rfl, rfl, w_70, by decide⟩ (Or.inr rfl)) ?_
  refine pk_c (pk_0 (Or.inr rfl) ⟨9, 17, 2, rfl, lp_M_51F⟩ (Or.inr rfl)) ?_
  refine pk_c (pk_0 (Or.inr rfl) ⟨0, rfl, rfl, w_70, by decide⟩ (Or.inr rfl)) ?_
  refine pk_c (pk_0 (Or.inr rfl) ⟨9, 18, 2, rfl, lp_M_54F⟩ (Or.inr rfl)) ?_
  refine pk_c (pk_0 (Or.inr rfl) ⟨0, rfl, rfl, w_70, by decide⟩ (Or.inr rfl)) ?_
  refine pk_c (pk_0 (Or.inr rfl) ⟨9, 19, 2, rfl, lp_M_57F⟩ (Or.inr rfl)) ?_
  refine pk_c (pk_0 (Or.inr rfl) ⟨0, rfl, rfl, w_70, by decide⟩ (Or.inr rfl)) ?_
  refine pk_c (pk_0 (Or.inr rfl) ⟨9, 20, 2, rfl, lp_M_60F⟩ (Or.inr rfl)) ?_
  refine pk_c (pk_0 (Or.inr rfl) ⟨0, rfl, rfl, w_70, by decide⟩ (Or.inr rfl)) ?_
  refine pk_c (pk_0 (Or.inr rfl) ⟨9, 21, 2, rfl, lp_M_63F⟩ (Or.inr rfl)) ?_
  refine pk_c (pk_0 (Or.inr rfl) ⟨0, rfl, rfl, w_70, by decide⟩ (Or.inr rfl)) ?_
  refine pk_c (pk_0 (Or.inr rfl) ⟨9, 22, 2, rfl, lp_M_66F⟩ (Or.inr rfl)) ?_
  refine pk_c (pk_0 (Or.inr rfl) ⟨0, rfl, rfl, w_70, by decide⟩ (Or.inr rfl)) ?_
  refine pk_c (pk_0 (Or.inr rfl) ⟨9, 23, 2, rfl, lp_M_69F⟩ (Or.inr rfl)) ?_
  refine pk_c (pk_0 (Or.inr rfl) ⟨0, rfl, rfl, w_70, by decide⟩ (Or.inr rfl)) ?_
  refine pk_c (pk_0 (Or.inr rfl) ⟨9, 24, 2, rfl, lp_M_72F⟩ (Or.inr rfl)) ?_
  refine pk_c (pk_0 (Or.inr rfl) ⟨0, rfl, rfl, w_70, by decide⟩ (Or.inr rfl)) ?_
  refine pk_c (pk_0 (Or.inr rfl) ⟨9, 25, 2, rfl, lp_M_75F⟩ (Or.inr rfl)) ?_
  refine pk_c (pk_2 rfl rfl) ?_
  exact pk_n
theorem ok_M_thrown {s0 : State} (hS : pm_Str s0) : pm_OKI s0 mi_M_thrown := by
  refine ⟨Or.inl ⟨w_1132, rfl⟩, w_10, by decide +kernel, ⟨by decide +kernel, by decide +kernel⟩, by decide, by decide +kernel, pk_i (by decide +kernel) (pk_all (ks := [(1, .getfield 78, 3, ([9, 10], .null)), (4, .ireturn, 1, ([], .null))]) (by decide +kernel) ?_)⟩
  refine pk_c (pk_0 (Or.inr rfl) ⟨9, 10, rfl, lf_M_78⟩ (Or.inr rfl)) ?_
  refine pk_c (pk_2 rfl (Or.inl ⟨rfl, rfl⟩)) ?_
  exact pk_n
theorem ok_M_segment {s0 : State} (hS : pm_Str s0) : pm_OKI s0 mi_M_segment := by
  refine ⟨Or.inl ⟨w_1136, rfl⟩, w_10, by decide +kernel, ⟨by decide +kernel, by decide +kernel⟩, by decide, by decide +kernel, pk_i (by decide +kernel) (pk_all (ks := [(2, .putfield 78, 3, ([9, 10, 0], .null)), (8, .ldc2_w 85, 3, ([], .long 4)), (11, .invokestatic 87, 3, ([171, 3, 0, 0], .null)), (14, .ifCond .eq 72, 3, ([86], .null)), (20, .ldc2_w 91, 3, ([], .long 64)), (23, .invokestatic 87, 3, ([171, 3, 0, 0], .null)), (26, .ifCond .eq 60, 3, ([86], .null)), (31, .if_icmp .lt 15, 3, ([46], .null)), (37, .ldc2_w 91, 3, ([], .long 64)), (40, .invokestatic 87, 3, ([171, 3, 0, 0], .null)), (43, .ifCond .eq 43, 3, ([86], .null)), (48, .if_icmp .lt 16, 3, ([64], .null)), (55, .ldc2_w 91, 3, ([], .long 64)), (58, .invokestatic 87, 3, ([171, 3, 0, 0], .null)), (61, .ifCond .eq 25, 3, ([86], .null)), (66, .if_icmp .lt 16, 3, ([82], .null)), (73, .ldc2_w 91, 3, ([], .long 64)), (76, .invokestatic 87, 3, ([171, 3, 0, 0], .null)), (79, .ifCond .eq 7, 3, ([86], .null)), (83, .goto 4, 3, ([87], .null)), (92, .ifCond .ne 7, 3, ([99], .null)), (96, .goto 4, 3, ([100], .null)), (101, .invokevirtual 93, 3, ([172, 3, 0, 10], .null)), (104, .ifCond .eq 4, 3, ([108], .null)), (107, .return_, 1, ([], .null)), (110, .putfield 29, 3, ([9, 6, 0], .null)), (116, .invokevirtual 97, 3, ([173, 3, 0, 10], .null)), (123, .if_icmp .le 7, 3, ([130], .null)), (127, .goto 4, 3, ([131], .null)), (131, .invokevirtual 97, 3, ([173, 3, 0, 10], .null)), (138, .if_icmp .le 8, 3, ([146], .null)), (143, .goto 4, 3, ([147], .null)), (147, .invokevirtual 97, 3, ([173, 3, 0, 10], .null)), (154, .if_icmp .le 8, 3, ([162], .null)), (159, .goto 4, 3, ([163], .null)), (163, .invokevirtual 97, 3, ([173, 3, 0, 10], .null)), (168, .putfield 101, 3, ([9, 11, 4], .null)), (172, .invokevirtual 105, 3, ([174, 1, 0, 10], .null)), (175, .return_, 1, ([], .null))]) (by decide +kernel) ?_)⟩
  refine pk_c (pk_0 (Or.inr rfl) ⟨9, 10, 0, rfl, lp_M_78 _⟩ (Or.inr rfl)) ?_
  refine pk_c (pk_0 (Or.inr rfl) w_1137 (Or.inr rfl)) ?_
  refine pk_c (pk_4 lm_M_87) ?_
  refine pk_c (pk_0 (Or.inr rfl) ⟨86, rfl, by decide⟩ (Or.inr rfl)) ?_
  refine pk_c (pk_0 (Or.inr rfl) w_1141 (Or.inr rfl)) ?_
  refine pk_c (pk_4 lm_M_87) ?_
  refine pk_c (pk_0 (Or.inr rfl) ⟨86, rfl, by decide⟩ (Or.inr rfl)) ?_
  refine pk_c (pk_0 (Or.inr rfl) ⟨46, rfl, by decide⟩ (Or.inr rfl)) ?_
  refine pk_c (pk_0 (Or.inr rfl) w_1141 (Or.inr rfl)) ?_
  refine pk_c (pk_4 lm_M_87) ?_
  refine pk_c (pk_0 (Or.inr rfl) ⟨86, rfl, by decide⟩ (Or.inr rfl)) ?_
  refine pk_c (pk_0 (Or.inr rfl) ⟨64, rfl, by decide⟩ (Or.inr rfl)) ?_
  refine pk_c (pk_0 (Or.inr rfl) w_1141 (Or.inr rfl)) ?_
  refine pk_c (pk_4 lm_M_87) ?_
  refine pk_c (pk_0 (Or.inr rfl) ⟨86, rfl, by decide⟩ (Or.inr rfl)) ?_
  refine pk_c (pk_0 (Or.inr rfl) ⟨82, rfl, by decide⟩ (Or.inr rfl)) ?_
  refine pk_c (pk_0 (Or.inr rfl) w_1141 (Or.inr rfl)) ?_
  refine pk_c (pk_4 lm_M_87) ?_
  refine pk_c (pk_0 (Or.inr rfl) ⟨86, rfl, by decide⟩ (Or.inr rfl)) ?_
  refine pk_c (pk_0 (Or.inr rfl) ⟨87, rfl, by decide⟩ (Or.inr rfl)) ?_
  refine pk_c (pk_0 (Or.inr rfl) ⟨99, rfl, by decide⟩ (Or.inr rfl)) ?_
  refine pk_c (pk_0 (Or.inr rfl) ⟨100, rfl, by decide⟩ (Or.inr rfl)) ?_
  refine pk_c (pk_4 lm_M_93) ?_
  refine pk_c (pk_0 (Or.inr rfl) ⟨108, rfl, by decide⟩ (Or.inr rfl)) ?_
  refine pk_c (pk_2 rfl rfl) ?_
  refine pk_c (pk_0 (Or.inr rfl) ⟨9, 6, 0, rfl, lp_M_29 _⟩ (Or.inr rfl)) ?_
  refine pk_c (pk_4 lm_M_97) ?_
  refine pk_c (pk_0 (Or.inr rfl) ⟨130, rfl, by decide⟩ (Or.inr rfl)) ?_
  refine pk_c (pk_0 (Or.inr rfl) ⟨131, rfl, by decide⟩ (Or.inr rfl)) ?_
  refine pk_c (pk_4 lm_M_97) ?_
  refine pk_c (pk_0 (Or.inr rfl) ⟨146, rfl, by decide⟩ (Or.inr rfl)) ?_
  refine pk_c (pk_0 (Or.inr rfl) ⟨147, rfl, by decide⟩ (Or.inr rfl)) ?_
  refine pk_c (pk_4 lm_M_97) ?_
  refine pk_c (pk_0 (Or.inr rfl) ⟨162, rfl, by decide⟩ (Or.inr rfl)) ?_
  refine pk_c (pk_0 (Or.inr rfl) ⟨163, rfl, by decide⟩ (Or.inr rfl)) ?_
  refine pk_c (pk_4 lm_M_97) ?_
  refine pk_c (pk_0 (Or.inr rfl) ⟨9, 11, 4, rfl, lp_M_101 _⟩ (Or.inr rfl)) ?_
  refine pk_c (pk_4 lm_M_105) ?_
  refine pk_c (pk_2 rfl rfl) ?_
  exact pk_n
theorem ok_M_in {s0 : State} (hS : pm_Str s0) : pm_OKI s0 mi_M_in := by
  refine ⟨Or.inl ⟨w_1140, rfl⟩, w_10, by decide +kernel, ⟨by decide +kernel, by decide +kernel⟩, by decide, by decide +kernel, pk_i (by decide +kernel) (pk_all (ks := [(3, .ifCond .lt 14, 3, ([17], .null)), (10, .ifCond .gt 7, 3, ([17], .null)), (14, .goto 4, 3, ([18], .null)), (18, .ireturn, 1, ([1], .null))]) (by decide +kernel) ?_)⟩
  refine pk_c (pk_0 (Or.inr rfl) ⟨17, rfl, by decide⟩ (Or.inr rfl)) ?_
  refine pk_c (pk_0 (Or.inr rfl) ⟨17, rfl, by decide⟩ (Or.inr rfl)) ?_
  refine pk_c (pk_0 (Or.inr rfl) ⟨18, rfl, by decide⟩ (Or.inr rfl)) ?_
  refine pk_c (pk_2 rfl (Or.inr ⟨rfl, rfl⟩)) ?_
  exact pk_n
theorem ok_M_fails {s0 : State} (hS : pm_Str s0) : pm_OKI s0 mi_M_fails := by
  refine ⟨Or.inl ⟨w_1145, rfl⟩, w_10, by decide +kernel, ⟨by decide +kernel, by decide +kernel⟩, by decide, by decide +kernel, pk_i (by decide +kernel) (pk_all (ks := [(1, .ifCond .eq 15, 3, ([16], .null)), (5, .getfield 78, 3, ([9, 10], .null)), (8, .ifCond .ne 8, 3, ([16], .null)), (13, .putfield 78, 3, ([9, 10, 0], .null)), (17, .getfield 78, 3, ([9, 10], .null)), (20, .ifCond .eq 7, 3, ([27], .null)), (24, .goto 4, 3, ([28], .null)), (28, .ireturn, 1, ([1], .null))]) (by decide +kernel) ?_)⟩
  refine pk_c (pk_0 (Or.inr rfl) ⟨16, rfl, by decide⟩ (Or.inr rfl)) ?_
  refine pk_c (pk_0 (Or.inr rfl) ⟨9, 10, rfl, lf_M_78⟩ (Or.inr rfl)) ?_
  refine pk_c (pk_0 (Or.inr rfl) ⟨16, rfl, by decide⟩ (Or.inr rfl)) ?_
  refine pk_c (pk_0 (Or.inr rfl) ⟨9, 10, 0, rfl, lp_M_78 _⟩ (Or.inr rfl)) ?_
  refine pk_c (pk_0 (Or.inr rfl) ⟨9, 10, rfl, lf_M_78⟩ (Or.inr rfl)) ?_
  refine pk_c (pk_0 (Or.inr rfl) ⟨27, rfl, by decide⟩ (Or.inr rfl)) ?_
  refine pk_c (pk_0 (Or.inr rfl) ⟨28, rfl, by decide⟩ (Or.inr rfl)) ?_
  refine pk_c (pk_2 rfl (Or.inr ⟨rfl, rfl⟩)) ?_
  exact pk_n
theorem ok_M_lay {s0 : State} (hS : pm_Str s0) : pm_OKI s0 mi_M_lay := by
  refine ⟨Or.inl ⟨w_1149, rfl⟩, w_10, by decide +kernel, ⟨by decide +kernel, by decide +kernel⟩, by decide, by decide +kernel, pk_i (by decide +kernel) (pk_all (ks := [(1, .getfield 19, 3, ([9, 3], .null)), (12, .if_icmp .ge 21, 3, ([33], .null)), (16, .getfield 7, 3, ([9, 0], .null)), (30, .goto (-21), 3, ([9], .null)), (33, .return_, 1, ([], .null))]) (by decide +kernel) ?_)⟩
  refine pk_c (pk_0 (Or.inr rfl) ⟨9, 3, rfl, lf_M_19⟩ (Or.inr rfl)) ?_
  refine pk_c (pk_0 (Or.inr rfl) ⟨33, rfl, by decide⟩ (Or.inr rfl)) ?_
  refine pk_c (pk_0 (Or.inr rfl) ⟨9, 0, rfl, lf_M_7⟩ (Or.inr rfl)) ?_
  refine pk_c (pk_0 (Or.inr rfl) ⟨9, rfl, by decide⟩ (Or.inr rfl)) ?_
  refine pk_c (pk_2 rfl rfl) ?_
  exact pk_n
theorem ok_M_forget {s0 : State} (hS : pm_Str s0) : pm_OKI s0 mi_M_forget := by
  refine ⟨Or.inl ⟨w_1153, rfl⟩, w_10, by decide +kernel, ⟨by decide +kernel, by decide +kernel⟩, by decide, by decide +kernel, pk_i (by decide +kernel) (pk_all (ks := [(5, .if_icmp .ge 14, 3, ([19], .null)), (10, .invokevirtual 81, 3, ([175, 2, 0, 10], .null)), (16, .goto (-14), 3, ([2], .null)), (19, .return_, 1, ([], .null))]) (by decide +kernel) ?_)⟩
  refine pk_c (pk_0 (Or.inr rfl) ⟨19, rfl, by decide⟩ (Or.inr rfl)) ?_
  refine pk_c (pk_4 lm_M_81) ?_
  refine pk_c (pk_0 (Or.inr rfl) ⟨2, rfl, by decide⟩ (Or.inr rfl)) ?_
  refine pk_c (pk_2 rfl rfl) ?_
  exact pk_n
theorem ok_M_clear {s0 : State} (hS : pm_Str s0) : pm_OKI s0 mi_M_clear := by
  refine ⟨Or.inl ⟨w_1157, rfl⟩, w_10, by decide +kernel, ⟨by decide +kernel, by decide +kernel⟩, by decide, by decide +kernel, pk_i (by decide +kernel) (pk_all (ks := [(1, .getfield 36, 3, ([9, 12], .null)), (8, .getfield 39, 3, ([9, 13], .null)), (15, .getfield 42, 3, ([9, 14], .null)), (22, .getfield 45, 3, ([9, 15], .null)), (29, .getfield 48, 3, ([9, 16], .null)), (36, .getfield 51, 3, ([9, 17], .null)), (43, .getfield 54, 3, ([9, 18], .null)), (50, .getfield 57, 3, ([9, 19], .null)), (57, .getfield 60, 3, ([9, 20], .null)), (64, .getfield 63, 3, ([9, 21], .null)), (70, .return_, 1, ([], .null))]) (by decide +kernel) ?_)⟩
  refine pk_c (pk_0 (Or.inr rfl) ⟨9, 12, rfl, lf_M_36⟩ (Or.inr rfl)) ?_
  refine pk_c (pk_0 (Or.inr rfl) ⟨9, 13, rfl, lf_M_39⟩ (Or.inr rfl)) ?_
  refine pk_c (pk_0 (Or.inr rfl) ⟨9, 14, rfl, lf_M_42⟩ (Or.inr rfl)) ?_
  refine pk_c (pk_0 (Or.inr rfl) ⟨9, 15, rfl, lf_M_45⟩ (Or.inr rfl)) ?_
  refine pk_c (pk_0 (Or.inr rfl) ⟨9, 16, rfl, lf_M_48⟩ (Or.inr rfl)) ?_
  refine pk_c (pk_0 (Or.inr rfl) ⟨9, 17, rfl, lf_M_51⟩ (Or.inr rfl)) ?_
  refine pk_c (pk_0 (Or.inr rfl) ⟨9, 18, rfl, lf_M_54⟩ (Or.inr rfl)) ?_
  refine pk_c (pk_0 (Or.inr rfl) ⟨9, 19, rfl, lf_M_57⟩ (Or.inr rfl)) ?_
  refine pk_c (pk_0 (Or.inr rfl) ⟨9, 20, rfl, lf_M_60⟩ (Or.inr rfl)) ?_
  refine pk_c (pk_0 (Or.inr rfl) ⟨9, 21, rfl, lf_M_63⟩ (Or.inr rfl)) ?_
  refine pk_c (pk_2 rfl rfl) ?_
  exact pk_n
theorem ok_M_word {s0 : State} (hS : pm_Str s0) : pm_OKI s0 mi_M_word := by
  refine ⟨Or.inl ⟨w_1161, rfl⟩, w_10, by decide +kernel, ⟨by decide +kernel, by decide +kernel⟩, by decide, by decide +kernel, pk_i (by decide +kernel) (pk_all (ks := [(2, .putfield 78, 3, ([9, 10, 0], .null)), (10, .invokevirtual 110, 3, ([177, 3, 0, 10], .null)), (13, .ifCond .ne 7, 3, ([20], .null)), (17, .goto 4, 3, ([21], .null)), (22, .invokevirtual 93, 3, ([172, 3, 0, 10], .null)), (25, .ifCond .eq 5, 3, ([30], .null)), (29, .lreturn, 1, ([], .null)), (31, .getfield 7, 3, ([9, 0], .null)), (44, .getfield 7, 3, ([9, 0], .null)), (57, .putfield 101, 3, ([9, 11, 4], .null)), (62, .lreturn, 1, ([], .null))]) (by decide +kernel) ?_)⟩
  refine pk_c (pk_0 (Or.inr rfl) ⟨9, 10, 0, rfl, lp_M_78 _⟩ (Or.inr rfl)) ?_
  refine pk_c (pk_4 lm_M_110) ?_
  refine pk_c (pk_0 (Or.inr rfl) ⟨20, rfl, by decide⟩ (Or.inr rfl)) ?_
  refine pk_c (pk_0 (Or.inr rfl) ⟨21, rfl, by decide⟩ (Or.inr rfl)) ?_
  refine pk_c (pk_4 lm_M_93) ?_
  refine pk_c (pk_0 (Or.inr rfl) ⟨30, rfl, by decide⟩ (Or.inr rfl)) ?_
  refine pk_c (pk_2 rfl rfl) ?_
  refine pk_c (pk_0 (Or.inr rfl) ⟨9, 0, rfl, lf_M_7⟩ (Or.inr rfl)) ?_
  refine pk_c (pk_0 (Or.inr rfl) ⟨9, 0, rfl, lf_M_7⟩ (Or.inr rfl)) ?_
  refine pk_c (pk_0 (Or.inr rfl) ⟨9, 11, 4, rfl, lp_M_101 _⟩ (Or.inr rfl)) ?_
  refine pk_c (pk_2 rfl rfl) ?_
  exact pk_n
theorem ok_M_has {s0 : State} (hS : pm_Str s0) : pm_OKI s0 mi_M_has := by
  refine ⟨Or.inl ⟨w_1165, rfl⟩, w_10, by decide +kernel, ⟨by decide +kernel, by decide +kernel⟩, by decide, by decide +kernel, pk_i (by decide +kernel) (pk_all (ks := [(4, .getfield 29, 3, ([9, 6], .null)), (10, .invokestatic 87, 3, ([171, 3, 0, 0], .null)), (13, .ifCond .eq 40, 3, ([53], .null)), (19, .getfield 19, 3, ([9, 3], .null)), (25, .ldc2_w 108, 3, ([], .long 3)), (28, .invokestatic 87, 3, ([171, 3, 0, 0], .null)), (31, .ifCond .eq 7, 3, ([38], .null)), (35, .goto 4, 3, ([39], .null)), (43, .invokestatic 87, 3, ([171, 3, 0, 0], .null)), (46, .ifCond .eq 7, 3, ([53], .null)), (50, .goto 4, 3, ([54], .null)), (54, .ireturn, 1, ([1], .null))]) (by decide +kernel) ?_)⟩
  refine pk_c (pk_0 (Or.inr rfl) ⟨9, 6, rfl, lf_M_29⟩ (Or.inr rfl)) ?_
  refine pk_c (pk_4 lm_M_87) ?_
  refine pk_c (pk_0 (Or.inr rfl) ⟨53, rfl, by decide⟩ (Or.inr rfl)) ?_
  refine pk_c (pk_0 (Or.inr rfl) ⟨9, 3, rfl, lf_M_19⟩ (Or.inr rfl)) ?_
  refine pk_c (pk_0 (Or.inr rfl) w_1166 (Or.inr rfl)) ?_
  refine pk_c (pk_4 lm_M_87) ?_
  refine pk_c (pk_0 (Or.inr rfl) ⟨38, rfl, by decide⟩ (Or.inr rfl)) ?_
  refine pk_c (pk_0 (Or.inr rfl) ⟨39, rfl, by decide⟩ (Or.inr rfl)) ?_
  refine pk_c (pk_4 lm_M_87) ?_
  refine pk_c (pk_0 (Or.inr rfl) ⟨53, rfl, by decide⟩ (Or.inr rfl)) ?_
  refine pk_c (pk_0 (Or.inr rfl) ⟨54, rfl, by decide⟩ (Or.inr rfl)) ?_
  refine pk_c (pk_2 rfl (Or.inr ⟨rfl, rfl⟩)) ?_
  exact pk_n
theorem ok_M_at {s0 : State} (hS : pm_Str s0) : pm_OKI s0 mi_M_at := by
  refine ⟨Or.inl ⟨w_1170, rfl⟩, w_10, by decide +kernel, ⟨by decide +kernel, by decide +kernel⟩, by decide, by decide +kernel, pk_i (by decide +kernel) (pk_all (ks := [(2, .putfield 78, 3, ([9, 10, 0], .null)), (10, .invokevirtual 110, 3, ([177, 3, 0, 10], .null)), (13, .ifCond .ne 7, 3, ([20], .null)), (17, .goto 4, 3, ([21], .null)), (22, .invokevirtual 93, 3, ([172, 3, 0, 10], .null)), (25, .ifCond .eq 7, 3, ([32], .null)), (29, .goto 14, 3, ([43], .null)), (33, .getfield 7, 3, ([9, 0], .null)), (43, .lreturn, 1, ([], .null))]) (by decide +kernel) ?_)⟩
  refine pk_c (pk_0 (Or.inr rfl) ⟨9, 10, 0, rfl, lp_M_78 _⟩ (Or.inr rfl)) ?_
  refine pk_c (pk_4 lm_M_110) ?_
  refine pk_c (pk_0 (Or.inr rfl) ⟨20, rfl, by decide⟩ (Or.inr rfl)) ?_
  refine pk_c (pk_0 (Or.inr rfl) ⟨21, rfl, by decide⟩ (Or.inr rfl)) ?_
  refine pk_c (pk_4 lm_M_93) ?_
  refine pk_c (pk_0 (Or.inr rfl) ⟨32, rfl, by decide⟩ (Or.inr rfl)) ?_
  refine pk_c (pk_0 (Or.inr rfl) ⟨43, rfl, by decide⟩ (Or.inr rfl)) ?_
  refine pk_c (pk_0 (Or.inr rfl) ⟨9, 0, rfl, lf_M_7⟩ (Or.inr rfl)) ?_
  refine pk_c (pk_2 rfl rfl) ?_
  exact pk_n
theorem ok_M_allow {s0 : State} (hS : pm_Str s0) : pm_OKI s0 mi_M_allow := by
  refine ⟨Or.inl ⟨w_1174, rfl⟩, w_10, by decide +kernel, ⟨by decide +kernel, by decide +kernel⟩, by decide, by decide +kernel, pk_i (by decide +kernel) (pk_all (ks := [(2, .putfield 78, 3, ([9, 10, 0], .null)), (9, .ldc2_w 114, 3, ([], .long 100000)), (12, .invokestatic 87, 3, ([171, 3, 0, 0], .null)), (15, .ifCond .ne 7, 3, ([22], .null)), (19, .goto 4, 3, ([23], .null)), (24, .invokevirtual 93, 3, ([172, 3, 0, 10], .null)), (27, .ifCond .eq 5, 3, ([32], .null)), (31, .ireturn, 1, ([], .null)), (33, .getfield 33, 3, ([9, 8], .null)), (39, .putfield 33, 3, ([9, 8, 0], .null)), (43, .ireturn, 1, ([], .null))]) (by decide +kernel) ?_)⟩
  refine pk_c (pk_0 (Or.inr rfl) ⟨9, 10, 0, rfl, lp_M_78 _⟩ (Or.inr rfl)) ?_
  refine pk_c (pk_0 (Or.inr rfl) w_1175 (Or.inr rfl)) ?_
  refine pk_c (pk_4 lm_M_87) ?_
  refine pk_c (pk_0 (Or.inr rfl) ⟨22, rfl, by decide⟩ (Or.inr rfl)) ?_
  refine pk_c (pk_0 (Or.inr rfl) ⟨23, rfl, by decide⟩ (Or.inr rfl)) ?_
  refine pk_c (pk_4 lm_M_93) ?_
  refine pk_c (pk_0 (Or.inr rfl) ⟨32, rfl, by decide⟩ (Or.inr rfl)) ?_
  refine pk_c (pk_2 rfl (Or.inl ⟨rfl, rfl⟩)) ?_
  refine pk_c (pk_0 (Or.inr rfl) ⟨9, 8, rfl, lf_M_33⟩ (Or.inr rfl)) ?_
  refine pk_c (pk_0 (Or.inr rfl) ⟨9, 8, 0, rfl, lp_M_33 _⟩ (Or.inr rfl)) ?_
  refine pk_c (pk_2 rfl (Or.inl ⟨rfl, rfl⟩)) ?_
  exact pk_n
theorem ok_M_root {s0 : State} (hS : pm_Str s0) : pm_OKI s0 mi_M_root := by
  refine ⟨Or.inl ⟨w_1179, rfl⟩, w_10, by decide +kernel, ⟨by decide +kernel, by decide +kernel⟩, by decide, by decide +kernel, pk_i (by decide +kernel) (pk_all (ks := [(2, .putfield 78, 3, ([9, 10, 0], .null)), (8, .invokevirtual 157, 3, ([181, 2, 0, 10], .null)), (11, .ifCond .eq 15, 3, ([26], .null)), (17, .ldc2_w 91, 3, ([], .long 64)), (20, .invokestatic 87, 3, ([171, 3, 0, 0], .null)), (23, .ifCond .ne 7, 3, ([30], .null)), (27, .goto 4, 3, ([31], .null)), (32, .invokevirtual 93, 3, ([172, 3, 0, 10], .null)), (35, .ifCond .ne 25, 3, ([60], .null)), (40, .getfield 19, 3, ([9, 3], .null)), (45, .ifCond .ne 7, 3, ([52], .null)), (49, .goto 4, 3, ([53], .null)), (54, .invokevirtual 93, 3, ([172, 3, 0, 10], .null)), (57, .ifCond .eq 5, 3, ([62], .null)), (61, .ireturn, 1, ([], .null)), (68, .invokevirtual 161, 3, ([182, 5, 0, 10], .null)), (74, .ifCond .ne 7, 3, ([81], .null)), (78, .goto 4, 3, ([82], .null)), (83, .invokevirtual 93, 3, ([172, 3, 0, 10], .null)), (86, .ifCond .eq 5, 3, ([91], .null)), (90, .ireturn, 1, ([], .null)), (95, .invokevirtual 165, 3, ([191, 3, 0, 10], .null)), (99, .getfield 36, 3, ([9, 12], .null)), (104, .ireturn, 1, ([], .null))]) (by decide +kernel) ?_)⟩
  refine pk_c (pk_0 (Or.inr rfl) ⟨9, 10, 0, rfl, lp_M_78 _⟩ (Or.inr rfl)) ?_
  refine pk_c (pk_4 lm_M_157) ?_
  refine pk_c (pk_0 (Or.inr rfl) ⟨26, rfl, by decide⟩ (Or.inr rfl)) ?_
  refine pk_c (pk_0 (Or.inr rfl) w_1141 (Or.inr rfl)) ?_
  refine pk_c (pk_4 lm_M_87) ?_
  refine pk_c (pk_0 (Or.inr rfl) ⟨30, rfl, by decide⟩ (Or.inr rfl)) ?_
  refine pk_c (pk_0 (Or.inr rfl) ⟨31, rfl, by decide⟩ (Or.inr rfl)) ?_
  refine pk_c (pk_4 lm_M_93) ?_
  refine pk_c (pk_0 (Or.inr rfl) ⟨60, rfl, by decide⟩ (Or.inr rfl)) ?_
  refine pk_c (pk_0 (Or.inr rfl) ⟨9, 3, rfl, lf_M_19⟩ (Or.inr rfl)) ?_
  refine pk_c (pk_0 (Or.inr rfl) ⟨52, rfl, by decide⟩ (Or.inr rfl)) ?_
  refine pk_c (pk_0 (Or.inr rfl) ⟨53, rfl, by decide⟩ (Or.inr rfl)) ?_
  refine pk_c (pk_4 lm_M_93) ?_
  refine pk_c (pk_0 (Or.inr rfl) ⟨62, rfl, by decide⟩ (Or.inr rfl)) ?_
  refine pk_c (pk_2 rfl (Or.inl ⟨rfl, rfl⟩)) ?_
  refine pk_c (pk_4 lm_M_161) ?_
  refine pk_c (pk_0 (Or.inr rfl) ⟨81, rfl, by decide⟩ (Or.inr rfl)) ?_
  refine pk_c (pk_0 (Or.inr rfl) ⟨82, rfl, by decide⟩ (Or.inr rfl)) ?_
  refine pk_c (pk_4 lm_M_93) ?_
  refine pk_c (pk_0 (Or.inr rfl) ⟨91, rfl, by decide⟩ (Or.inr rfl)) ?_
  refine pk_c (pk_2 rfl (Or.inl ⟨rfl, rfl⟩)) ?_
  refine pk_c (pk_4 lm_M_165) ?_
  refine pk_c (pk_0 (Or.inr rfl) ⟨9, 12, rfl, lf_M_36⟩ (Or.inr rfl)) ?_
  refine pk_c (pk_2 rfl (Or.inl ⟨rfl, rfl⟩)) ?_
  exact pk_n
theorem ok_M_isCursor {s0 : State} (hS : pm_Str s0) : pm_OKI s0 mi_M_isCursor := by
  refine ⟨Or.inl ⟨w_1183, rfl⟩, w_10, by decide +kernel, ⟨by decide +kernel, by decide +kernel⟩, by decide, by decide +kernel, pk_i (by decide +kernel) (pk_all (ks := [(3, .ldc2_w 155, 3, ([], .long 15)), (6, .invokestatic 87, 3, ([171, 3, 0, 0], .null)), (9, .ireturn, 1, ([1], .null))]) (by decide +kernel) ?_)⟩
  refine pk_c (pk_0 (Or.inr rfl) w_1184 (Or.inr rfl)) ?_
  refine pk_c (pk_4 lm_M_87) ?_
  refine pk_c (pk_2 rfl (Or.inr ⟨rfl, rfl⟩)) ?_
  exact pk_n
theorem ok_M_followed {s0 : State} (hS : pm_Str s0) : pm_OKI s0 mi_M_followed := by
  refine ⟨Or.inl ⟨w_1188, rfl⟩, w_10, by decide +kernel, ⟨by decide +kernel, by decide +kernel⟩, by decide, by decide +kernel, pk_i (by decide +kernel) (pk_all (ks := [(1, .getfield 7, 3, ([9, 0], .null)), (21, .invokevirtual 81, 3, ([175, 2, 0, 10], .null)), (28, .ifCond .ne 5, 3, ([33], .null)), (32, .ireturn, 1, ([1], .null)), (35, .ldc2_w 108, 3, ([], .long 3)), (39, .ldc2_w 108, 3, ([], .long 3)), (43, .ifCond .ne 5, 3, ([48], .null)), (47, .ireturn, 1, ([1], .null)), (53, .ldc2_w 108, 3, ([], .long 3)), (57, .ldc2_w 126, 3, ([], .long 2)), (61, .ifCond .ne 223, 3, ([284], .null)), (68, .ldc2_w 128, 3, ([], .long 536870911)), (89, .ifCond .ne 7, 3, ([96], .null)), (93, .goto 4, 3, ([97], .null)), (102, .getfield 29, 3, ([9, 6], .null)), (107, .ifCond .ge 30, 3, ([137], .null)), (114, .ifCond .eq 7, 3, ([121], .null)), (118, .goto 4, 3, ([122], .null)), (125, .getfield 19, 3, ([9, 3], .null)), (134, .ifCond .lt 5, 3, ([139], .null)), (138, .ireturn, 1, ([1], .null)), (145, .getfield 7, 3, ([9, 0], .null)), (162, .ifCond .ne 36, 3, ([198], .null)), (169, .ifCond .eq 14, 3, ([183], .null)), (174, .ldc2_w 108, 3, ([], .long 3)), (180, .ifCond .le 5, 3, ([185], .null)), (184, .ireturn, 1, ([1], .null)), (195, .goto 89, 3, ([284], .null)), (200, .ldc2_w 118, 3, ([], .long 7)), (204, .ldc2_w 126, 3, ([], .long 2)), (208, .ifCond .ne 17, 3, ([225], .null)), (217, .getfield 29, 3, ([9, 6], .null)), (222, .ifCond .lt 5, 3, ([227], .null)), (226, .ireturn, 1, ([1], .null)), (228, .getfield 7, 3, ([9, 0], .null)), (247, .ldc2_w 108, 3, ([], .long 3)), (253, .ifCond .gt 11, 3, ([264], .null)), (258, .invokestatic 130, 3, ([183, 1, 0, 0], .null)), (261, .ifCond .eq 5, 3, ([266], .null)), (265, .ireturn, 1, ([1], .null)), (278, .ldc2_w 128, 3, ([], .long 536870911)), (292, .invokestatic 130, 3, ([183, 1, 0, 0], .null)), (301, .invokevirtual 134, 3, ([184, 6, 0, 10], .null)), (304, .ireturn, 1, ([1], .null))]) (by decide +kernel) ?_)⟩
  refine pk_c (pk_0 (Or.inr rfl) ⟨9, 0, rfl, lf_M_7⟩ (Or.inr rfl)) ?_
  refine pk_c (pk_4 lm_M_81) ?_
  refine pk_c (pk_0 (Or.inr rfl) ⟨33, rfl, by decide⟩ (Or.inr rfl)) ?_
  refine pk_c (pk_2 rfl (Or.inr ⟨rfl, rfl⟩)) ?_
  refine pk_c (pk_0 (Or.inr rfl) w_1166 (Or.inr rfl)) ?_
  refine pk_c (pk_0 (Or.inr rfl) w_1166 (Or.inr rfl)) ?_
  refine pk_c (pk_0 (Or.inr rfl) ⟨48, rfl, by decide⟩ (Or.inr rfl)) ?_
  refine pk_c (pk_2 rfl (Or.inr ⟨rfl, rfl⟩)) ?_
  refine pk_c (pk_0 (Or.inr rfl) w_1166 (Or.inr rfl)) ?_
  refine pk_c (pk_0 (Or.inr rfl) w_1189 (Or.inr rfl)) ?_
  refine pk_c (pk_0 (Or.inr rfl) ⟨284, rfl, by decide⟩ (Or.inr rfl)) ?_
  refine pk_c (pk_0 (Or.inr rfl) w_1190 (Or.inr rfl)) ?_
  refine pk_c (pk_0 (Or.inr rfl) ⟨96, rfl, by decide⟩ (Or.inr rfl)) ?_
  refine pk_c (pk_0 (Or.inr rfl) ⟨97, rfl, by decide⟩ (Or.inr rfl)) ?_
  refine pk_c (pk_0 (Or.inr rfl) ⟨9, 6, rfl, lf_M_29⟩ (Or.inr rfl)) ?_
  refine pk_c (pk_0 (Or.inr rfl) ⟨137, rfl, by decide⟩ (Or.inr rfl)) ?_
  refine pk_c (pk_0 (Or.inr rfl) ⟨121, rfl, by decide⟩ (Or.inr rfl)) ?_
  refine pk_c (pk_0 (Or.inr rfl) ⟨122, rfl, by decide⟩ (Or.inr rfl)) ?_
  refine pk_c (pk_0 (Or.inr rfl) ⟨9, 3, rfl, lf_M_19⟩ (Or.inr rfl)) ?_
  refine pk_c (pk_0 (Or.inr rfl) ⟨139, rfl, by decide⟩ (Or.inr rfl)) ?_
  refine pk_c (pk_2 rfl (Or.inr ⟨rfl, rfl⟩)) ?_
  refine pk_c (pk_0 (Or.inr rfl) ⟨9, 0, rfl, lf_M_7⟩ (Or.inr rfl)) ?_
  refine pk_c (pk_0 (Or.inr rfl) ⟨198, rfl, by decide⟩ (Or.inr rfl)) ?_
  refine pk_c (pk_0 (Or.inr rfl) ⟨183, rfl, by decide⟩ (Or.inr rfl)) ?_
  refine pk_c (pk_0 (Or.inr rfl) w_1166 (Or.inr rfl)) ?_
  refine pk_c (pk_0 (Or.inr rfl) ⟨185, rfl, by decide⟩ (Or.inr rfl)) ?_
  refine pk_c (pk_2 rfl (Or.inr ⟨rfl, rfl⟩)) ?_
  refine pk_c (pk_0 (Or.inr rfl) ⟨284, rfl, by decide⟩ (Or.inr rfl)) ?_
  refine pk_c (pk_0 (Or.inr rfl) w_1191 (Or.inr rfl)) ?_
  refine pk_c (pk_0 (Or.inr rfl) w_1189 (Or.inr rfl)) ?_
  refine pk_c (pk_0 (Or.inr rfl) ⟨225, rfl, by decide⟩ (Or.inr rfl)) ?_
  refine pk_c (pk_0 (Or.inr rfl) ⟨9, 6, rfl, lf_M_29⟩ (Or.inr rfl)) ?_
  refine pk_c (pk_0 (Or.inr rfl) ⟨227, rfl, by decide⟩ (Or.inr rfl)) ?_
  refine pk_c (pk_2 rfl (Or.inr ⟨rfl, rfl⟩)) ?_
  refine pk_c (pk_0 (Or.inr rfl) ⟨9, 0, rfl, lf_M_7⟩ (Or.inr rfl)) ?_
  refine pk_c (pk_0 (Or.inr rfl) w_1166 (Or.inr rfl)) ?_
  refine pk_c (pk_0 (Or.inr rfl) ⟨264, rfl, by decide⟩ (Or.inr rfl)) ?_
  refine pk_c (pk_4 lm_M_130) ?_
  refine pk_c (pk_0 (Or.inr rfl) ⟨266, rfl, by decide⟩ (Or.inr rfl)) ?_
  refine pk_c (pk_2 rfl (Or.inr ⟨rfl, rfl⟩)) ?_
  refine pk_c (pk_0 (Or.inr rfl) w_1190 (Or.inr rfl)) ?_
  refine pk_c (pk_4 lm_M_130) ?_
  refine pk_c (pk_4 lm_M_134) ?_
  refine pk_c (pk_2 rfl (Or.inr ⟨rfl, rfl⟩)) ?_
  exact pk_n
theorem ok_M_offset {s0 : State} (hS : pm_Str s0) : pm_OKI s0 mi_M_offset := by
  refine ⟨Or.inl ⟨w_1194, rfl⟩, w_10, by decide +kernel, ⟨by decide +kernel, by decide +kernel⟩, by decide, by decide +kernel, pk_i (by decide +kernel) (pk_all (ks := [(4, .ireturn, 1, ([], .null))]) (by decide +kernel) ?_)⟩
  refine pk_c (pk_2 rfl (Or.inl ⟨rfl, rfl⟩)) ?_
  exact pk_n
theorem ok_M_stands {s0 : State} (hS : pm_Str s0) : pm_OKI s0 mi_M_stands := by
  refine ⟨Or.inl ⟨w_1198, rfl⟩, w_10, by decide +kernel, ⟨by decide +kernel, by decide +kernel⟩, by decide, by decide +kernel, pk_i (by decide +kernel) (pk_all (ks := [(4, .ifCond .ge 5, 3, ([9], .null)), (8, .ireturn, 1, ([1], .null)), (10, .getfield 42, 3, ([9, 14], .null)), (18, .getfield 39, 3, ([9, 13], .null)), (28, .ldc2_w 108, 3, ([], .long 3)), (34, .ifCond .ne 67, 3, ([101], .null)), (38, .invokestatic 138, 3, ([185, 1, 0, 0], .null)), (42, .invokestatic 141, 3, ([186, 1, 0, 0], .null)), (55, .getfield 19, 3, ([9, 3], .null)), (63, .ifCond .le 5, 3, ([68], .null)), (67, .ireturn, 1, ([1], .null)), (69, .getfield 36, 3, ([9, 12], .null)), (76, .getfield 48, 3, ([9, 16], .null)), (83, .invokestatic 138, 3, ([185, 1, 0, 0], .null)), (89, .getfield 51, 3, ([9, 17], .null)), (94, .invokestatic 141, 3, ([186, 1, 0, 0], .null)), (98, .goto 205, 3, ([303], .null)), (102, .getfield 57, 3, ([9, 19], .null)), (107, .invokestatic 144, 3, ([187, 1, 0, 0], .null)), (112, .invokestatic 147, 3, ([188, 1, 0, 0], .null)), (118, .getfield 57, 3, ([9, 19], .null)), (125, .invokestatic 151, 3, ([189, 2, 0, 0], .null)), (136, .getfield 19, 3, ([9, 3], .null)), (144, .ifCond .le 5, 3, ([149], .null)), (148, .ireturn, 1, ([1], .null)), (150, .getfield 36, 3, ([9, 12], .null)), (157, .getfield 54, 3, ([9, 18], .null)), (166, .getfield 57, 3, ([9, 19], .null)), (171, .ifCond .ne 7, 3, ([178], .null)), (179, .getfield 57, 3, ([9, 19], .null)), (186, .if_icmp .ne 117, 3, ([303], .null)), (190, .getfield 7, 3, ([9, 0], .null)), (207, .invokestatic 130, 3, ([183, 1, 0, 0], .null)), (213, .getfield 60, 3, ([9, 20], .null)), (219, .invokestatic 138, 3, ([185, 1, 0, 0], .null)), (224, .getfield 63, 3, ([9, 21], .null)), (230, .invokestatic 141, 3, ([186, 1, 0, 0], .null)), (235, .getfield 60, 3, ([9, 20], .null)), (241, .getfield 63, 3, ([9, 21], .null)), (252, .ldc2_w 108, 3, ([], .long 3)), (258, .ifCond .ne 20, 3, ([278], .null)), (263, .ifCond .lt 15, 3, ([278], .null)), (275, .ifCond .le 5, 3, ([280], .null)), (279, .ireturn, 1, ([1], .null)), (281, .getfield 54, 3, ([9, 18], .null)), (292, .ifCond .ne 11, 3, ([303], .null)), (304, .getfield 45, 3, ([9, 15], .null)), (317, .ifCond .eq 14, 3, ([331], .null)), (323, .getfield 33, 3, ([9, 8], .null)), (328, .ifCond .le 5, 3, ([333], .null)), (332, .ireturn, 1, ([1], .null)), (335, .getfield 33, 3, ([9, 8], .null)), (342, .putfield 33, 3, ([9, 8, 0], .null)), (346, .ireturn, 1, ([1], .null))]) (by decide +kernel) ?_)⟩
  refine pk_c (pk_0 (Or.inr rfl) ⟨9, rfl, by decide⟩ (Or.inr rfl)) ?_
  refine pk_c (pk_2 rfl (Or.inr ⟨rfl, rfl⟩)) ?_
  refine pk_c (pk_0 (Or.inr rfl) ⟨9, 14, rfl, lf_M_42⟩ (Or.inr rfl)) ?_
  refine pk_c (pk_0 (Or.inr rfl) ⟨9, 13, rfl, lf_M_39⟩ (Or.inr rfl)) ?_
  refine pk_c (pk_0 (Or.inr rfl) w_1166 (Or.inr rfl)) ?_
  refine pk_c (pk_0 (Or.inr rfl) ⟨101, rfl, by decide⟩ (Or.inr rfl)) ?_
  refine pk_c (pk_4 lm_M_138) ?_
  refine pk_c (pk_4 lm_M_141) ?_
  refine pk_c (pk_0 (Or.inr rfl) ⟨9, 3, rfl, lf_M_19⟩ (Or.inr rfl)) ?_
  refine pk_c (pk_0 (Or.inr rfl) ⟨68, rfl, by decide⟩ (Or.inr rfl)) ?_
  refine pk_c (pk_2 rfl (Or.inr ⟨rfl, rfl⟩)) ?_
  refine pk_c (pk_0 (Or.inr rfl) ⟨9, 12, rfl, lf_M_36⟩ (Or.inr rfl)) ?_
  refine pk_c (pk_0 (Or.inr rfl) ⟨9, 16, rfl, lf_M_48⟩ (Or.inr rfl)) ?_
  refine pk_c (pk_4 lm_M_138) ?_
  refine pk_c (pk_0 (Or.inr rfl) ⟨9, 17, rfl, lf_M_51⟩ (Or.inr rfl)) ?_
  refine pk_c (pk_4 lm_M_141) ?_
  refine pk_c (pk_0 (Or.inr rfl) ⟨303, rfl, by decide⟩ (Or.inr rfl)) ?_
  refine pk_c (pk_0 (Or.inr rfl) ⟨9, 19, rfl, lf_M_57⟩ (Or.inr rfl)) ?_
  refine pk_c (pk_4 lm_M_144) ?_
  refine pk_c (pk_4 lm_M_147) ?_
  refine pk_c (pk_0 (Or.inr rfl) ⟨9, 19, rfl, lf_M_57⟩ (Or.inr rfl)) ?_
  refine pk_c (pk_4 lm_M_151) ?_
  refine pk_c (pk_0 (Or.inr rfl) ⟨9, 3, rfl, lf_M_19⟩ (Or.inr rfl)) ?_
  refine pk_c (pk_0 (Or.inr rfl) ⟨149, rfl, by decide⟩ (Or.inr rfl)) ?_
  refine pk_c (pk_2 rfl (Or.inr ⟨rfl, rfl⟩)) ?_
  refine pk_c (pk_0 (Or.inr rfl) ⟨9, 12, rfl, lf_M_36⟩ (Or.inr rfl)) ?_
  refine pk_c (pk_0 (Or.inr rfl) ⟨9, 18, rfl, lf_M_54⟩ (Or.inr rfl)) ?_
  refine pk_c (pk_0 (Or.inr rfl) ⟨9, 19, rfl, lf_M_57⟩ (Or.inr rfl)) ?_
  refine pk_c (pk_0 (Or.inr rfl) ⟨178, rfl, by decide⟩ (Or.inr rfl)) ?_
  refine pk_c (pk_0 (Or.inr rfl) ⟨9, 19, rfl, lf_M_57⟩ (Or.inr rfl)) ?_
  refine pk_c (pk_0 (Or.inr rfl) ⟨303, rfl, by decide⟩ (Or.inr rfl)) ?_
  refine pk_c (pk_0 (Or.inr rfl) ⟨9, 0, rfl, lf_M_7⟩ (Or.inr rfl)) ?_
  refine pk_c (pk_4 lm_M_130) ?_
  refine pk_c (pk_0 (Or.inr rfl) ⟨9, 20, rfl, lf_M_60⟩ (Or.inr rfl)) ?_
  refine pk_c (pk_4 lm_M_138) ?_
  refine pk_c (pk_0 (Or.inr rfl) ⟨9, 21, rfl, lf_M_63⟩ (Or.inr rfl)) ?_
  refine pk_c (pk_4 lm_M_141) ?_
  refine pk_c (pk_0 (Or.inr rfl) ⟨9, 20, rfl, lf_M_60⟩ (Or.inr rfl)) ?_
  refine pk_c (pk_0 (Or.inr rfl) ⟨9, 21, rfl, lf_M_63⟩ (Or.inr rfl)) ?_
  refine pk_c (pk_0 (Or.inr rfl) w_1166 (Or.inr rfl)) ?_
  refine pk_c (pk_0 (Or.inr rfl) ⟨278, rfl, by decide⟩ (Or.inr rfl)) ?_
  refine pk_c (pk_0 (Or.inr rfl) ⟨278, rfl, by decide⟩ (Or.inr rfl)) ?_
  refine pk_c (pk_0 (Or.inr rfl) ⟨280, rfl, by decide⟩ (Or.inr rfl)) ?_
  refine pk_c (pk_2 rfl (Or.inr ⟨rfl, rfl⟩)) ?_
  refine pk_c (pk_0 (Or.inr rfl) ⟨9, 18, rfl, lf_M_54⟩ (Or.inr rfl)) ?_
  refine pk_c (pk_0 (Or.inr rfl) ⟨303, rfl, by decide⟩ (Or.inr rfl)) ?_
  refine pk_c (pk_0 (Or.inr rfl) ⟨9, 15, rfl, lf_M_45⟩ (Or.inr rfl)) ?_
  refine pk_c (pk_0 (Or.inr rfl) ⟨331, rfl, by decide⟩ (Or.inr rfl)) ?_
  refine pk_c (pk_0 (Or.inr rfl) ⟨9, 8, rfl, lf_M_33⟩ (Or.inr rfl)) ?_
  refine pk_c (pk_0 (Or.inr rfl) ⟨333, rfl, by decide⟩ (Or.inr rfl)) ?_
  refine pk_c (pk_2 rfl (Or.inr ⟨rfl, rfl⟩)) ?_
  refine pk_c (pk_0 (Or.inr rfl) ⟨9, 8, rfl, lf_M_33⟩ (Or.inr rfl)) ?_
  refine pk_c (pk_0 (Or.inr rfl) ⟨9, 8, 0, rfl, lp_M_33 _⟩ (Or.inr rfl)) ?_
  refine pk_c (pk_2 rfl (Or.inr ⟨rfl, rfl⟩)) ?_
  exact pk_n
theorem ok_M_dataOf {s0 : State} (hS : pm_Str s0) : pm_OKI s0 mi_M_dataOf := by
  refine ⟨Or.inl ⟨w_1201, rfl⟩, w_10, by decide +kernel, ⟨by decide +kernel, by decide +kernel⟩, by decide, by decide +kernel, pk_i (by decide +kernel) (pk_all (ks := [(4, .ldc2_w 116, 3, ([], .long 65535)), (9, .ireturn, 1, ([], .null))]) (by decide +kernel) ?_)⟩
  refine pk_c (pk_0 (Or.inr rfl) w_1202 (Or.inr rfl)) ?_
  refine pk_c (pk_2 rfl (Or.inl ⟨rfl, rfl⟩)) ?_
  exact pk_n
theorem ok_M_pointersOf {s0 : State} (hS : pm_Str s0) : pm_OKI s0 mi_M_pointersOf := by
  refine ⟨Or.inl ⟨w_1205, rfl⟩, w_10, by decide +kernel, ⟨by decide +kernel, by decide +kernel⟩, by decide, by decide +kernel, pk_i (by decide +kernel) (pk_all (ks := [(5, .ireturn, 1, ([], .null))]) (by decide +kernel) ?_)⟩
  refine pk_c (pk_2 rfl (Or.inl ⟨rfl, rfl⟩)) ?_
  exact pk_n
theorem ok_M_codeOf {s0 : State} (hS : pm_Str s0) : pm_OKI s0 mi_M_codeOf := by
  refine ⟨Or.inl ⟨w_1208, rfl⟩, w_10, by decide +kernel, ⟨by decide +kernel, by decide +kernel⟩, by decide, by decide +kernel, pk_i (by decide +kernel) (pk_all (ks := [(4, .ldc2_w 118, 3, ([], .long 7)), (9, .ireturn, 1, ([], .null))]) (by decide +kernel) ?_)⟩
  refine pk_c (pk_0 (Or.inr rfl) w_1191 (Or.inr rfl)) ?_
  refine pk_c (pk_2 rfl (Or.inl ⟨rfl, rfl⟩)) ?_
  exact pk_n
theorem ok_M_countOf {s0 : State} (hS : pm_Str s0) : pm_OKI s0 mi_M_countOf := by
  refine ⟨Or.inl ⟨w_1211, rfl⟩, w_10, by decide +kernel, ⟨by decide +kernel, by decide +kernel⟩, by decide, by decide +kernel, pk_i (by decide +kernel) (pk_all (ks := [(4, .lreturn, 1, ([], .null))]) (by decide +kernel) ?_)⟩
  refine pk_c (pk_2 rfl rfl) ?_
  exact pk_n
theorem ok_M_wordsOf {s0 : State} (hS : pm_Str s0) : pm_OKI s0 mi_M_wordsOf := by
  refine ⟨Or.inl ⟨w_1214, rfl⟩, w_10, by decide +kernel, ⟨by decide +kernel, by decide +kernel⟩, by decide, by decide +kernel, pk_i (by decide +kernel) (pk_all (ks := [(3, .if_icmp .ne 9, 3, ([12], .null)), (9, .goto 28, 3, ([37], .null)), (15, .if_icmp .ne 7, 3, ([22], .null)), (19, .goto 18, 3, ([37], .null)), (24, .invokestatic 120, 3, ([190, 1, 0, 0], .null)), (29, .ldc2_w 124, 3, ([], .long 63)), (33, .ldc2_w 91, 3, ([], .long 64)), (37, .lreturn, 1, ([], .null))]) (by decide +kernel) ?_)⟩
  refine pk_c (pk_0 (Or.inr rfl) ⟨12, rfl, by decide⟩ (Or.inr rfl)) ?_
  refine pk_c (pk_0 (Or.inr rfl) ⟨37, rfl, by decide⟩ (Or.inr rfl)) ?_
  refine pk_c (pk_0 (Or.inr rfl) ⟨22, rfl, by decide⟩ (Or.inr rfl)) ?_
  refine pk_c (pk_0 (Or.inr rfl) ⟨37, rfl, by decide⟩ (Or.inr rfl)) ?_
  refine pk_c (pk_4 lm_M_120) ?_
  refine pk_c (pk_0 (Or.inr rfl) w_1218 (Or.inr rfl)) ?_
  refine pk_c (pk_0 (Or.inr rfl) w_1141 (Or.inr rfl)) ?_
  refine pk_c (pk_2 rfl rfl) ?_
  exact pk_n
theorem ok_M_bitsOf {s0 : State} (hS : pm_Str s0) : pm_OKI s0 mi_M_bitsOf := by
  refine ⟨Or.inl ⟨w_1217, rfl⟩, w_10, by decide +kernel, ⟨by decide +kernel, by decide +kernel⟩, by decide, by decide +kernel, pk_i (by decide +kernel) (pk_all (ks := [(1, .ifCond .eq 8, 3, ([9], .null)), (6, .if_icmp .le 7, 3, ([13], .null)), (10, .goto 17, 3, ([27], .null)), (15, .if_icmp .ne 7, 3, ([22], .null)), (19, .goto 8, 3, ([27], .null)), (27, .ireturn, 1, ([], .null))]) (by decide +kernel) ?_)⟩
  refine pk_c (pk_0 (Or.inr rfl) ⟨9, rfl, by decide⟩ (Or.inr rfl)) ?_
  refine pk_c (pk_0 (Or.inr rfl) ⟨13, rfl, by decide⟩ (Or.inr rfl)) ?_
  refine pk_c (pk_0 (Or.inr rfl) ⟨27, rfl, by decide⟩ (Or.inr rfl)) ?_
  refine pk_c (pk_0 (Or.inr rfl) ⟨22, rfl, by decide⟩ (Or.inr rfl)) ?_
  refine pk_c (pk_0 (Or.inr rfl) ⟨27, rfl, by decide⟩ (Or.inr rfl)) ?_
  refine pk_c (pk_2 rfl (Or.inl ⟨rfl, rfl⟩)) ?_
  exact pk_n
theorem ok_M_copy {s0 : State} (hS : pm_Str s0) : pm_OKI s0 mi_M_copy := by
  refine ⟨Or.inl ⟨w_1222, rfl⟩, w_10, by decide +kernel, ⟨by decide +kernel, by decide +kernel⟩, by decide, by decide +kernel, pk_i (by decide +kernel) (pk_all (ks := [(1, .getfield 36, 3, ([9, 12], .null)), (6, .getfield 36, 3, ([9, 12], .null)), (13, .getfield 39, 3, ([9, 13], .null)), (18, .getfield 39, 3, ([9, 13], .null)), (25, .getfield 42, 3, ([9, 14], .null)), (30, .getfield 42, 3, ([9, 14], .null)), (37, .getfield 45, 3, ([9, 15], .null)), (42, .getfield 45, 3, ([9, 15], .null)), (49, .getfield 48, 3, ([9, 16], .null)), (54, .getfield 48, 3, ([9, 16], .null)), (61, .getfield 51, 3, ([9, 17], .null)), (66, .getfield 51, 3, ([9, 17], .null)), (73, .getfield 54, 3, ([9, 18], .null)), (78, .getfield 54, 3, ([9, 18], .null)), (85, .getfield 57, 3, ([9, 19], .null)), (90, .getfield 57, 3, ([9, 19], .null)), (97, .getfield 60, 3, ([9, 20], .null)), (102, .getfield 60, 3, ([9, 20], .null)), (109, .getfield 63, 3, ([9, 21], .null)), (114, .getfield 63, 3, ([9, 21], .null)), (120, .return_, 1, ([], .null))]) (by decide +kernel) ?_)⟩
  refine pk_c (pk_0 (Or.inr rfl) ⟨9, 12, rfl, lf_M_36⟩ (Or.inr rfl)) ?_
  refine pk_c (pk_0 (Or.inr rfl) ⟨9, 12, rfl, lf_M_36⟩ (Or.inr rfl)) ?_
  refine pk_c (pk_0 (Or.inr rfl) ⟨9, 13, rfl, lf_M_39⟩ (Or.inr rfl)) ?_
  refine pk_c (pk_0 (Or.inr rfl) ⟨9, 13, rfl, lf_M_39⟩ (Or.inr rfl)) ?_
  refine pk_c (pk_0 (Or.inr rfl) ⟨9, 14, rfl, lf_M_42⟩ (Or.inr rfl)) ?_
  refine pk_c (pk_0 (Or.inr rfl) ⟨9, 14, rfl, lf_M_42⟩ (Or.inr rfl)) ?_
  refine pk_c (pk_0 (Or.inr rfl) ⟨9, 15, rfl, lf_M_45⟩ (Or.inr rfl)) ?_
  refine pk_c (pk_0 (Or.inr rfl) ⟨9, 15, rfl, lf_M_45⟩ (Or.inr rfl)) ?_
  refine pk_c (pk_0 (Or.inr rfl) ⟨9, 16, rfl, lf_M_48⟩ (Or.inr rfl)) ?_
  refine pk_c (pk_0 (Or.inr rfl) ⟨9, 16, rfl, lf_M_48⟩ (Or.inr rfl)) ?_
  refine pk_c (pk_0 (Or.inr rfl) ⟨9, 17, rfl, lf_M_51⟩ (Or.inr rfl)) ?_
  refine pk_c (pk_0 (Or.inr rfl) ⟨9, 17, rfl, lf_M_51⟩ (Or.inr rfl)) ?_
  refine pk_c (pk_0 (Or.inr rfl) ⟨9, 18, rfl, lf_M_54⟩ (Or.inr rfl)) ?_
  refine pk_c (pk_0 (Or.inr rfl) ⟨9, 18, rfl, lf_M_54⟩ (Or.inr rfl)) ?_
  refine pk_c (pk_0 (Or.inr rfl) ⟨9, 19, rfl, lf_M_57⟩ (Or.inr rfl)) ?_
  refine pk_c (pk_0 (Or.inr rfl) ⟨9, 19, rfl, lf_M_57⟩ (Or.inr rfl)) ?_
  refine pk_c (pk_0 (Or.inr rfl) ⟨9, 20, rfl, lf_M_60⟩ (Or.inr rfl)) ?_
  refine pk_c (pk_0 (Or.inr rfl) ⟨9, 20, rfl, lf_M_60⟩ (Or.inr rfl)) ?_
  refine pk_c (pk_0 (Or.inr rfl) ⟨9, 21, rfl, lf_M_63⟩ (Or.inr rfl)) ?_
  refine pk_c (pk_0 (Or.inr rfl) ⟨9, 21, rfl, lf_M_63⟩ (Or.inr rfl)) ?_
  refine pk_c (pk_2 rfl rfl) ?_
  exact pk_n
theorem ok_M_follow {s0 : State} (hS : pm_Str s0) : pm_OKI s0 mi_M_follow := by
  refine ⟨Or.inl ⟨w_1226, rfl⟩, w_10, by decide +kernel, ⟨by decide +kernel, by decide +kernel⟩, by decide, by decide +kernel, pk_i (by decide +kernel) (pk_all (ks := [(2, .putfield 78, 3, ([9, 10, 0], .null)), (8, .invokevirtual 157, 3, ([181, 2, 0, 10], .null)), (11, .ifCond .eq 15, 3, ([26], .null)), (16, .invokevirtual 157, 3, ([181, 2, 0, 10], .null)), (19, .ifCond .eq 7, 3, ([26], .null)), (23, .ifCond .ge 7, 3, ([30], .null)), (27, .goto 4, 3, ([31], .null)), (32, .invokevirtual 93, 3, ([172, 3, 0, 10], .null)), (35, .ifCond .eq 5, 3, ([40], .null)), (39, .ireturn, 1, ([], .null)), (41, .getfield 36, 3, ([9, 12], .null)), (47, .if_icmp .ne 7, 3, ([54], .null)), (51, .goto 4, 3, ([55], .null)), (60, .ifCond .eq 28, 3, ([88], .null)), (64, .getfield 57, 3, ([9, 19], .null)), (71, .if_icmp .ne 17, 3, ([88], .null)), (76, .getfield 54, 3, ([9, 18], .null)), (81, .if_icmp .lt 7, 3, ([88], .null)), (85, .goto 4, 3, ([89], .null)), (90, .invokevirtual 93, 3, ([172, 3, 0, 10], .null)), (93, .ifCond .ne 32, 3, ([125], .null)), (99, .ifCond .eq 18, 3, ([117], .null)), (103, .getfield 57, 3, ([9, 19], .null)), (110, .if_icmp .eq 7, 3, ([117], .null)), (114, .goto 4, 3, ([118], .null)), (119, .invokevirtual 93, 3, ([172, 3, 0, 10], .null)), (122, .ifCond .eq 5, 3, ([127], .null)), (126, .ireturn, 1, ([], .null)), (130, .invokevirtual 168, 3, ([193, 3, 0, 10], .null)), (137, .ifCond .ge 10, 3, ([147], .null)), (142, .invokevirtual 81, 3, ([175, 2, 0, 10], .null)), (146, .ireturn, 1, ([], .null)), (151, .getfield 42, 3, ([9, 14], .null)), (159, .getfield 39, 3, ([9, 13], .null)), (164, .invokevirtual 161, 3, ([182, 5, 0, 10], .null)), (172, .ifCond .ne 7, 3, ([179], .null)), (176, .goto 4, 3, ([180], .null)), (181, .invokevirtual 93, 3, ([172, 3, 0, 10], .null)), (184, .ifCond .eq 5, 3, ([189], .null)), (188, .ireturn, 1, ([], .null)), (193, .invokevirtual 165, 3, ([191, 3, 0, 10], .null)), (197, .getfield 36, 3, ([9, 12], .null)), (202, .ireturn, 1, ([], .null))]) (by decide +kernel) ?_)⟩
  refine pk_c (pk_0 (Or.inr rfl) ⟨9, 10, 0, rfl, lp_M_78 _⟩ (Or.inr rfl)) ?_
  refine pk_c (pk_4 lm_M_157) ?_
  refine pk_c (pk_0 (Or.inr rfl) ⟨26, rfl, by decide⟩ (Or.inr rfl)) ?_
  refine pk_c (pk_4 lm_M_157) ?_
  refine pk_c (pk_0 (Or.inr rfl) ⟨26, rfl, by decide⟩ (Or.inr rfl)) ?_
  refine pk_c (pk_0 (Or.inr rfl) ⟨30, rfl, by decide⟩ (Or.inr rfl)) ?_
  refine pk_c (pk_0 (Or.inr rfl) ⟨31, rfl, by decide⟩ (Or.inr rfl)) ?_
  refine pk_c (pk_4 lm_M_93) ?_
  refine pk_c (pk_0 (Or.inr rfl) ⟨40, rfl, by decide⟩ (Or.inr rfl)) ?_
  refine pk_c (pk_2 rfl (Or.inl ⟨rfl, rfl⟩)) ?_
  refine pk_c (pk_0 (Or.inr rfl) ⟨9, 12, rfl, lf_M_36⟩ (Or.inr rfl)) ?_
  refine pk_c (pk_0 (Or.inr rfl) ⟨54, rfl, by decide⟩ (Or.inr rfl)) ?_
  refine pk_c (pk_0 (Or.inr rfl) ⟨55, rfl, by decide⟩ (Or.inr rfl)) ?_
  refine pk_c (pk_0 (Or.inr rfl) ⟨88, rfl, by decide⟩ (Or.inr rfl)) ?_
  refine pk_c (pk_0 (Or.inr rfl) ⟨9, 19, rfl, lf_M_57⟩ (Or.inr rfl)) ?_
  refine pk_c (pk_0 (Or.inr rfl) ⟨88, rfl, by decide⟩ (Or.inr rfl)) ?_
  refine pk_c (pk_0 (Or.inr rfl) ⟨9, 18, rfl, lf_M_54⟩ (Or.inr rfl)) ?_
  refine pk_c (pk_0 (Or.inr rfl) ⟨88, rfl, by decide⟩ (Or.inr rfl)) ?_
  refine pk_c (pk_0 (Or.inr rfl) ⟨89, rfl, by decide⟩ (Or.inr rfl)) ?_
  refine pk_c (pk_4 lm_M_93) ?_
  refine pk_c (pk_0 (Or.inr rfl) ⟨125, rfl, by decide⟩ (Or.inr rfl)) ?_
  refine pk_c (pk_0 (Or.inr rfl) ⟨117, rfl, by decide⟩ (Or.inr rfl)) ?_
  refine pk_c (pk_0 (Or.inr rfl) ⟨9, 19, rfl, lf_M_57⟩ (Or.inr rfl)) ?_
  refine pk_c (pk_0 (Or.inr rfl) ⟨117, rfl, by decide⟩ (Or.inr rfl)) ?_
  refine pk_c (pk_0 (Or.inr rfl) ⟨118, rfl, by decide⟩ (Or.inr rfl)) ?_
  refine pk_c (pk_4 lm_M_93) ?_
  refine pk_c (pk_0 (Or.inr rfl) ⟨127, rfl, by decide⟩ (Or.inr rfl)) ?_
  refine pk_c (pk_2 rfl (Or.inl ⟨rfl, rfl⟩)) ?_
  refine pk_c (pk_4 lm_M_168) ?_
  refine pk_c (pk_0 (Or.inr rfl) ⟨147, rfl, by decide⟩ (Or.inr rfl)) ?_
  refine pk_c (pk_4 lm_M_81) ?_
  refine pk_c (pk_2 rfl (Or.inl ⟨rfl, rfl⟩)) ?_
  refine pk_c (pk_0 (Or.inr rfl) ⟨9, 14, rfl, lf_M_42⟩ (Or.inr rfl)) ?_
  refine pk_c (pk_0 (Or.inr rfl) ⟨9, 13, rfl, lf_M_39⟩ (Or.inr rfl)) ?_
  refine pk_c (pk_4 lm_M_161) ?_
  refine pk_c (pk_0 (Or.inr rfl) ⟨179, rfl, by decide⟩ (Or.inr rfl)) ?_
  refine pk_c (pk_0 (Or.inr rfl) ⟨180, rfl, by decide⟩ (Or.inr rfl)) ?_
  refine pk_c (pk_4 lm_M_93) ?_
  refine pk_c (pk_0 (Or.inr rfl) ⟨189, rfl, by decide⟩ (Or.inr rfl)) ?_
  refine pk_c (pk_2 rfl (Or.inl ⟨rfl, rfl⟩)) ?_
  refine pk_c (pk_4 lm_M_165) ?_
  refine pk_c (pk_0 (Or.inr rfl) ⟨9, 12, rfl, lf_M_36⟩ (Or.inr rfl)) ?_
  refine pk_c (pk_2 rfl (Or.inl ⟨rfl, rfl⟩)) ?_
  exact pk_n
theorem ok_M_pointerAt {s0 : State} (hS : pm_Str s0) : pm_OKI s0 mi_M_pointerAt := by
  refine ⟨Or.inl ⟨w_1230, rfl⟩, w_10, by decide +kernel, ⟨by decide +kernel, by decide +kernel⟩, by decide, by decide +kernel, pk_i (by decide +kernel) (pk_all (ks := [(1, .getfield 45, 3, ([9, 15], .null)), (11, .getfield 36, 3, ([9, 12], .null)), (17, .if_icmp .ne 39, 3, ([56], .null)), (24, .getfield 51, 3, ([9, 17], .null)), (32, .invokestatic 87, 3, ([171, 3, 0, 0], .null)), (35, .ifCond .eq 19, 3, ([54], .null)), (40, .getfield 48, 3, ([9, 16], .null)), (51, .goto 4, 3, ([55], .null)), (55, .ireturn, 1, ([], .null)), (57, .getfield 36, 3, ([9, 12], .null)), (63, .if_icmp .ne 38, 3, ([101], .null)), (67, .getfield 57, 3, ([9, 19], .null)), (74, .if_icmp .ne 27, 3, ([101], .null)), (81, .getfield 54, 3, ([9, 18], .null)), (89, .invokestatic 87, 3, ([171, 3, 0, 0], .null)), (92, .ifCond .eq 9, 3, ([101], .null)), (98, .goto 4, 3, ([102], .null)), (102, .ireturn, 1, ([], .null))]) (by decide +kernel) ?_)⟩
  refine pk_c (pk_0 (Or.inr rfl) ⟨9, 15, rfl, lf_M_45⟩ (Or.inr rfl)) ?_
  refine pk_c (pk_0 (Or.inr rfl) ⟨9, 12, rfl, lf_M_36⟩ (Or.inr rfl)) ?_
  refine pk_c (pk_0 (Or.inr rfl) ⟨56, rfl, by decide⟩ (Or.inr rfl)) ?_
  refine pk_c (pk_0 (Or.inr rfl) ⟨9, 17, rfl, lf_M_51⟩ (Or.inr rfl)) ?_
  refine pk_c (pk_4 lm_M_87) ?_
  refine pk_c (pk_0 (Or.inr rfl) ⟨54, rfl, by decide⟩ (Or.inr rfl)) ?_
  refine pk_c (pk_0 (Or.inr rfl) ⟨9, 16, rfl, lf_M_48⟩ (Or.inr rfl)) ?_
  refine pk_c (pk_0 (Or.inr rfl) ⟨55, rfl, by decide⟩ (Or.inr rfl)) ?_
  refine pk_c (pk_2 rfl (Or.inl ⟨rfl, rfl⟩)) ?_
  refine pk_c (pk_0 (Or.inr rfl) ⟨9, 12, rfl, lf_M_36⟩ (Or.inr rfl)) ?_
  refine pk_c (pk_0 (Or.inr rfl) ⟨101, rfl, by decide⟩ (Or.inr rfl)) ?_
  refine pk_c (pk_0 (Or.inr rfl) ⟨9, 19, rfl, lf_M_57⟩ (Or.inr rfl)) ?_
  refine pk_c (pk_0 (Or.inr rfl) ⟨101, rfl, by decide⟩ (Or.inr rfl)) ?_
  refine pk_c (pk_0 (Or.inr rfl) ⟨9, 18, rfl, lf_M_54⟩ (Or.inr rfl)) ?_
  refine pk_c (pk_4 lm_M_87) ?_
  refine pk_c (pk_0 (Or.inr rfl) ⟨101, rfl, by decide⟩ (Or.inr rfl)) ?_
  refine pk_c (pk_0 (Or.inr rfl) ⟨102, rfl, by decide⟩ (Or.inr rfl)) ?_
  refine pk_c (pk_2 rfl (Or.inl ⟨rfl, rfl⟩)) ?_
  exact pk_n
theorem ok_M_element {s0 : State} (hS : pm_Str s0) : pm_OKI s0 mi_M_element := by
  refine ⟨Or.inl ⟨w_1234, rfl⟩, w_10, by decide +kernel, ⟨by decide +kernel, by decide +kernel⟩, by decide, by decide +kernel, pk_i (by decide +kernel) (pk_all (ks := [(2, .putfield 78, 3, ([9, 10, 0], .null)), (8, .invokevirtual 157, 3, ([181, 2, 0, 10], .null)), (11, .ifCond .eq 11, 3, ([22], .null)), (16, .invokevirtual 157, 3, ([181, 2, 0, 10], .null)), (19, .ifCond .ne 7, 3, ([26], .null)), (23, .goto 4, 3, ([27], .null)), (28, .invokevirtual 93, 3, ([172, 3, 0, 10], .null)), (31, .ifCond .ne 80, 3, ([111], .null)), (36, .getfield 36, 3, ([9, 12], .null)), (42, .if_icmp .eq 7, 3, ([49], .null)), (46, .goto 4, 3, ([50], .null)), (51, .invokevirtual 93, 3, ([172, 3, 0, 10], .null)), (54, .ifCond .ne 57, 3, ([111], .null)), (62, .getfield 54, 3, ([9, 18], .null)), (70, .invokestatic 87, 3, ([171, 3, 0, 0], .null)), (73, .ifCond .ne 7, 3, ([80], .null)), (77, .goto 4, 3, ([81], .null)), (82, .invokevirtual 93, 3, ([172, 3, 0, 10], .null)), (85, .ifCond .ne 26, 3, ([111], .null)), (90, .getfield 57, 3, ([9, 19], .null)), (96, .if_icmp .ne 7, 3, ([103], .null)), (100, .goto 4, 3, ([104], .null)), (105, .invokevirtual 93, 3, ([172, 3, 0, 10], .null)), (108, .ifCond .eq 5, 3, ([113], .null)), (112, .ireturn, 1, ([], .null)), (117, .invokevirtual 165, 3, ([191, 3, 0, 10], .null)), (121, .getfield 57, 3, ([9, 19], .null)), (129, .getfield 60, 3, ([9, 20], .null)), (135, .getfield 63, 3, ([9, 21], .null)), (144, .getfield 45, 3, ([9, 15], .null)), (153, .invokevirtual 81, 3, ([175, 2, 0, 10], .null)), (157, .getfield 36, 3, ([9, 12], .null)), (164, .getfield 39, 3, ([9, 13], .null)), (169, .getfield 39, 3, ([9, 13], .null)), (177, .getfield 42, 3, ([9, 14], .null)), (182, .getfield 42, 3, ([9, 14], .null)), (190, .getfield 45, 3, ([9, 15], .null)), (198, .if_icmp .ne 19, 3, ([217], .null)), (214, .goto 30, 3, ([244], .null)), (221, .if_icmp .ne 13, 3, ([234], .null)), (231, .goto 13, 3, ([244], .null)), (238, .invokestatic 120, 3, ([190, 1, 0, 0], .null)), (246, .getfield 48, 3, ([9, 16], .null)), (254, .if_icmp .ne 16, 3, ([270], .null)), (260, .getfield 60, 3, ([9, 20], .null)), (267, .goto 8, 3, ([275], .null)), (272, .invokestatic 120, 3, ([190, 1, 0, 0], .null)), (277, .getfield 51, 3, ([9, 17], .null)), (285, .if_icmp .ne 13, 3, ([298], .null)), (289, .getfield 63, 3, ([9, 21], .null)), (295, .goto 15, 3, ([310], .null)), (302, .if_icmp .ne 7, 3, ([309], .null)), (306, .goto 4, 3, ([310], .null)), (312, .ireturn, 1, ([], .null))]) (by decide +kernel) ?_)⟩
  refine pk_c (pk_0 (Or.inr rfl) ⟨9, 10, 0, rfl, lp_M_78 _⟩ (Or.inr rfl)) ?_
  refine pk_c (pk_4 lm_M_157) ?_
  refine pk_c (pk_0 (Or.inr rfl) ⟨22, rfl, by decide⟩ (Or.inr rfl)) ?_
  refine pk_c (pk_4 lm_M_157) ?_
  refine pk_c (pk_0 (Or.inr rfl) ⟨26, rfl, by decide⟩ (Or.inr rfl)) ?_
  refine pk_c (pk_0 (Or.inr rfl) ⟨27, rfl, by decide⟩ (Or.inr rfl)) ?_
  refine pk_c (pk_4 lm_M_93) ?_
  refine pk_c (pk_0 (Or.inr rfl) ⟨111, rfl, by decide⟩ (Or.inr rfl)) ?_
  refine pk_c (pk_0 (Or.inr rfl) ⟨9, 12, rfl, lf_M_36⟩ (Or.inr rfl)) ?_
  refine pk_c (pk_0 (Or.inr rfl) ⟨49, rfl, by decide⟩ (Or.inr rfl)) ?_
  refine pk_c (pk_0 (Or.inr rfl) ⟨50, rfl, by decide⟩ (Or.inr rfl)) ?_
  refine pk_c (pk_4 lm_M_93) ?_
  refine pk_c (pk_0 (Or.inr rfl) ⟨111, rfl, by decide⟩ (Or.inr rfl)) ?_
  refine pk_c (pk_0 (Or.inr rfl) ⟨9, 18, rfl, lf_M_54⟩ (Or.inr rfl)) ?_
  refine pk_c (pk_4 lm_M_87) ?_
  refine pk_c (pk_0 (Or.inr rfl) ⟨80, rfl, by decide⟩ (Or.inr rfl)) ?_
  refine pk_c (pk_0 (Or.inr rfl) ⟨81, rfl, by decide⟩ (Or.inr rfl)) ?_
  refine pk_c (pk_4 lm_M_93) ?_
  refine pk_c (pk_0 (Or.inr rfl) ⟨111, rfl, by decide⟩ (Or.inr rfl)) ?_
  refine pk_c (pk_0 (Or.inr rfl) ⟨9, 19, rfl, lf_M_57⟩ (Or.inr rfl)) ?_
  refine pk_c (pk_0 (Or.inr rfl) ⟨103, rfl, by decide⟩ (Or.inr rfl)) ?_
  refine pk_c (pk_0 (Or.inr rfl) ⟨104, rfl, by decide⟩ (Or.inr rfl)) ?_
  refine pk_c (pk_4 lm_M_93) ?_
  refine pk_c (pk_0 (Or.inr rfl) ⟨113, rfl, by decide⟩ (Or.inr rfl)) ?_
  refine pk_c (pk_2 rfl (Or.inl ⟨rfl, rfl⟩)) ?_
  refine pk_c (pk_4 lm_M_165) ?_
  refine pk_c (pk_0 (Or.inr rfl) ⟨9, 19, rfl, lf_M_57⟩ (Or.inr rfl)) ?_
  refine pk_c (pk_0 (Or.inr rfl) ⟨9, 20, rfl, lf_M_60⟩ (Or.inr rfl)) ?_
  refine pk_c (pk_0 (Or.inr rfl) ⟨9, 21, rfl, lf_M_63⟩ (Or.inr rfl)) ?_
  refine pk_c (pk_0 (Or.inr rfl) ⟨9, 15, rfl, lf_M_45⟩ (Or.inr rfl)) ?_
  refine pk_c (pk_4 lm_M_81) ?_
  refine pk_c (pk_0 (Or.inr rfl) ⟨9, 12, rfl, lf_M_36⟩ (Or.inr rfl)) ?_
  refine pk_c (pk_0 (Or.inr rfl) ⟨9, 13, rfl, lf_M_39⟩ (Or.inr rfl)) ?_
  refine pk_c (pk_0 (Or.inr rfl) ⟨9, 13, rfl, lf_M_39⟩ (Or.inr rfl)) ?_
  refine pk_c (pk_0 (Or.inr rfl) ⟨9, 14, rfl, lf_M_42⟩ (Or.inr rfl)) ?_
  refine pk_c (pk_0 (Or.inr rfl) ⟨9, 14, rfl, lf_M_42⟩ (Or.inr rfl)) ?_
  refine pk_c (pk_0 (Or.inr rfl) ⟨9, 15, rfl, lf_M_45⟩ (Or.inr rfl)) ?_
  refine pk_c (pk_0 (Or.inr rfl) ⟨217, rfl, by decide⟩ (Or.inr rfl)) ?_
  refine pk_c (pk_0 (Or.inr rfl) ⟨244, rfl, by decide⟩ (Or.inr rfl)) ?_
  refine pk_c (pk_0 (Or.inr rfl) ⟨234, rfl, by decide⟩ (Or.inr rfl)) ?_
  refine pk_c (pk_0 (Or.inr rfl) ⟨244, rfl, by decide⟩ (Or.inr rfl)) ?_
  refine pk_c (pk_4 lm_M_120) ?_
  refine pk_c (pk_0 (Or.inr rfl) ⟨9, 16, rfl, lf_M_48⟩ (Or.inr rfl)) ?_
  refine pk_c (pk_0 (Or.inr rfl) ⟨270, rfl, by decide⟩ (Or.inr rfl)) ?_
  refine pk_c (pk_0 (Or.inr rfl) ⟨9, 20, rfl, lf_M_60⟩ (Or.inr rfl)) ?_
  refine pk_c (pk_0 (Or.inr rfl) ⟨275, rfl, by decide⟩ (Or.inr rfl)) ?_
  refine pk_c (pk_4 lm_M_120) ?_
  refine pk_c (pk_0 (Or.inr rfl) ⟨9, 17, rfl, lf_M_51⟩ (Or.inr rfl)) ?_
  refine pk_c (pk_0 (Or.inr rfl) ⟨298, rfl, by decide⟩ (Or.inr rfl)) ?_
  refine pk_c (pk_0 (Or.inr rfl) ⟨9, 21, rfl, lf_M_63⟩ (Or.inr rfl)) ?_
  refine pk_c (pk_0 (Or.inr rfl) ⟨310, rfl, by decide⟩ (Or.inr rfl)) ?_
  refine pk_c (pk_0 (Or.inr rfl) ⟨309, rfl, by decide⟩ (Or.inr rfl)) ?_
  refine pk_c (pk_0 (Or.inr rfl) ⟨310, rfl, by decide⟩ (Or.inr rfl)) ?_
  refine pk_c (pk_2 rfl (Or.inl ⟨rfl, rfl⟩)) ?_
  exact pk_n
theorem ok_M_number {s0 : State} (hS : pm_Str s0) : pm_OKI s0 mi_M_number := by
  refine ⟨Or.inl ⟨w_1238, rfl⟩, w_10, by decide +kernel, ⟨by decide +kernel, by decide +kernel⟩, by decide, by decide +kernel, pk_i (by decide +kernel) (pk_all (ks := [(2, .putfield 78, 3, ([9, 10, 0], .null)), (8, .invokevirtual 157, 3, ([181, 2, 0, 10], .null)), (11, .ifCond .eq 14, 3, ([25], .null)), (15, .invokestatic 186, 3, ([196, 1, 0, 0], .null)), (18, .ifCond .eq 7, 3, ([25], .null)), (22, .ifCond .ge 7, 3, ([29], .null)), (26, .goto 4, 3, ([30], .null)), (31, .invokevirtual 93, 3, ([172, 3, 0, 10], .null)), (34, .ifCond .ne 26, 3, ([60], .null)), (39, .getfield 36, 3, ([9, 12], .null)), (45, .if_icmp .ne 7, 3, ([52], .null)), (49, .goto 4, 3, ([53], .null)), (54, .invokevirtual 93, 3, ([172, 3, 0, 10], .null)), (57, .ifCond .eq 5, 3, ([62], .null)), (61, .lreturn, 1, ([], .null)), (66, .invokevirtual 189, 3, ([197, 4, 0, 10], .null)), (72, .invokestatic 172, 3, ([200, 2, 0, 0], .null)), (77, .invokestatic 192, 3, ([201, 2, 0, 0], .null)), (80, .lreturn, 1, ([], .null))]) (by decide +kernel) ?_)⟩
  refine pk_c (pk_0 (Or.inr rfl) ⟨9, 10, 0, rfl, lp_M_78 _⟩ (Or.inr rfl)) ?_
  refine pk_c (pk_4 lm_M_157) ?_
  refine pk_c (pk_0 (Or.inr rfl) ⟨25, rfl, by decide⟩ (Or.inr rfl)) ?_
  refine pk_c (pk_4 lm_M_186) ?_
  refine pk_c (pk_0 (Or.inr rfl) ⟨25, rfl, by decide⟩ (Or.inr rfl)) ?_
  refine pk_c (pk_0 (Or.inr rfl) ⟨29, rfl, by decide⟩ (Or.inr rfl)) ?_
  refine pk_c (pk_0 (Or.inr rfl) ⟨30, rfl, by decide⟩ (Or.inr rfl)) ?_
  refine pk_c (pk_4 lm_M_93) ?_
  refine pk_c (pk_0 (Or.inr rfl) ⟨60, rfl, by decide⟩ (Or.inr rfl)) ?_
  refine pk_c (pk_0 (Or.inr rfl) ⟨9, 12, rfl, lf_M_36⟩ (Or.inr rfl)) ?_
  refine pk_c (pk_0 (Or.inr rfl) ⟨52, rfl, by decide⟩ (Or.inr rfl)) ?_
  refine pk_c (pk_0 (Or.inr rfl) ⟨53, rfl, by decide⟩ (Or.inr rfl)) ?_
  refine pk_c (pk_4 lm_M_93) ?_
  refine pk_c (pk_0 (Or.inr rfl) ⟨62, rfl, by decide⟩ (Or.inr rfl)) ?_
  refine pk_c (pk_2 rfl rfl) ?_
  refine pk_c (pk_4 lm_M_189) ?_
  refine pk_c (pk_4 lm_M_172) ?_
  refine pk_c (pk_4 lm_M_192) ?_
  refine pk_c (pk_2 rfl rfl) ?_
  exact pk_n
theorem ok_M_isWidth {s0 : State} (hS : pm_Str s0) : pm_OKI s0 mi_M_isWidth := by
  refine ⟨Or.inl ⟨w_1241, rfl⟩, w_10, by decide +kernel, ⟨by decide +kernel, by decide +kernel⟩, by decide, by decide +kernel, pk_i (by decide +kernel) (pk_all (ks := [(2, .if_icmp .eq 27, 3, ([29], .null)), (8, .if_icmp .eq 21, 3, ([29], .null)), (14, .if_icmp .eq 15, 3, ([29], .null)), (20, .if_icmp .eq 9, 3, ([29], .null)), (26, .if_icmp .ne 7, 3, ([33], .null)), (30, .goto 4, 3, ([34], .null)), (34, .ireturn, 1, ([1], .null))]) (by decide +kernel) ?_)⟩
  refine pk_c (pk_0 (Or.inr rfl) ⟨29, rfl, by decide⟩ (Or.inr rfl)) ?_
  refine pk_c (pk_0 (Or.inr rfl) ⟨29, rfl, by decide⟩ (Or.inr rfl)) ?_
  refine pk_c (pk_0 (Or.inr rfl) ⟨29, rfl, by decide⟩ (Or.inr rfl)) ?_
  refine pk_c (pk_0 (Or.inr rfl) ⟨29, rfl, by decide⟩ (Or.inr rfl)) ?_
  refine pk_c (pk_0 (Or.inr rfl) ⟨33, rfl, by decide⟩ (Or.inr rfl)) ?_
  refine pk_c (pk_0 (Or.inr rfl) ⟨34, rfl, by decide⟩ (Or.inr rfl)) ?_
  refine pk_c (pk_2 rfl (Or.inr ⟨rfl, rfl⟩)) ?_
  exact pk_n
theorem ok_M_field {s0 : State} (hS : pm_Str s0) : pm_OKI s0 mi_M_field := by
  refine ⟨Or.inl ⟨w_1245, rfl⟩, w_10, by decide +kernel, ⟨by decide +kernel, by decide +kernel⟩, by decide, by decide +kernel, pk_i (by decide +kernel) (pk_all (ks := [(4, .invokevirtual 178, 3, ([198, 4, 0, 10], .null)), (7, .ifCond .eq 22, 3, ([29], .null)), (13, .getfield 45, 3, ([9, 15], .null)), (23, .invokevirtual 182, 3, ([199, 4, 0, 10], .null)), (26, .goto 4, 3, ([30], .null)), (30, .lreturn, 1, ([], .null))]) (by decide +kernel) ?_)⟩
  refine pk_c (pk_4 lm_M_178) ?_
  refine pk_c (pk_0 (Or.inr rfl) ⟨29, rfl, by decide⟩ (Or.inr rfl)) ?_
  refine pk_c (pk_0 (Or.inr rfl) ⟨9, 15, rfl, lf_M_45⟩ (Or.inr rfl)) ?_
  refine pk_c (pk_4 lm_M_182) ?_
  refine pk_c (pk_0 (Or.inr rfl) ⟨30, rfl, by decide⟩ (Or.inr rfl)) ?_
  refine pk_c (pk_2 rfl rfl) ?_
  exact pk_n
theorem ok_M_hasField {s0 : State} (hS : pm_Str s0) : pm_OKI s0 mi_M_hasField := by
  refine ⟨Or.inl ⟨w_1249, rfl⟩, w_10, by decide +kernel, ⟨by decide +kernel, by decide +kernel⟩, by decide, by decide +kernel, pk_i (by decide +kernel) (pk_all (ks := [(1, .getfield 36, 3, ([9, 12], .null)), (7, .if_icmp .ne 25, 3, ([32], .null)), (18, .getfield 48, 3, ([9, 16], .null)), (25, .ifCond .gt 7, 3, ([32], .null)), (29, .goto 4, 3, ([33], .null)), (33, .ireturn, 1, ([1], .null))]) (by decide +kernel) ?_)⟩
  refine pk_c (pk_0 (Or.inr rfl) ⟨9, 12, rfl, lf_M_36⟩ (Or.inr rfl)) ?_
  refine pk_c (pk_0 (Or.inr rfl) ⟨32, rfl, by decide⟩ (Or.inr rfl)) ?_
  refine pk_c (pk_0 (Or.inr rfl) ⟨9, 16, rfl, lf_M_48⟩ (Or.inr rfl)) ?_
  refine pk_c (pk_0 (Or.inr rfl) ⟨32, rfl, by decide⟩ (Or.inr rfl)) ?_
  refine pk_c (pk_0 (Or.inr rfl) ⟨33, rfl, by decide⟩ (Or.inr rfl)) ?_
  refine pk_c (pk_2 rfl (Or.inr ⟨rfl, rfl⟩)) ?_
  exact pk_n
theorem ok_M_piece {s0 : State} (hS : pm_Str s0) : pm_OKI s0 mi_M_piece := by
  refine ⟨Or.inl ⟨w_1253, rfl⟩, w_10, by decide +kernel, ⟨by decide +kernel, by decide +kernel⟩, by decide, by decide +kernel, pk_i (by decide +kernel) (pk_all (ks := [(1, .getfield 7, 3, ([9, 0], .null)), (7, .getfield 42, 3, ([9, 14], .null)), (25, .invokestatic 172, 3, ([200, 2, 0, 0], .null)), (28, .lreturn, 1, ([], .null))]) (by decide +kernel) ?_)⟩
  refine pk_c (pk_0 (Or.inr rfl) ⟨9, 0, rfl, lf_M_7⟩ (Or.inr rfl)) ?_
  refine pk_c (pk_0 (Or.inr rfl) ⟨9, 14, rfl, lf_M_42⟩ (Or.inr rfl)) ?_
  refine pk_c (pk_4 lm_M_172) ?_
  refine pk_c (pk_2 rfl rfl) ?_
  exact pk_n
theorem ok_M_cut {s0 : State} (hS : pm_Str s0) : pm_OKI s0 mi_M_cut := by
  refine ⟨Or.inl ⟨w_1256, rfl⟩, w_10, by decide +kernel, ⟨by decide +kernel, by decide +kernel⟩, by decide, by decide +kernel, pk_i (by decide +kernel) (pk_all (ks := [(3, .if_icmp .ne 7, 3, ([10], .null)), (7, .goto 10, 3, ([17], .null)), (17, .lreturn, 1, ([], .null))]) (by decide +kernel) ?_)⟩
  refine pk_c (pk_0 (Or.inr rfl) ⟨10, rfl, by decide⟩ (Or.inr rfl)) ?_
  refine pk_c (pk_0 (Or.inr rfl) ⟨17, rfl, by decide⟩ (Or.inr rfl)) ?_
  refine pk_c (pk_2 rfl rfl) ?_
  exact pk_n
theorem ok_M_signed {s0 : State} (hS : pm_Str s0) : pm_OKI s0 mi_M_signed := by
  refine ⟨Or.inl ⟨w_1259, rfl⟩, w_10, by decide +kernel, ⟨by decide +kernel, by decide +kernel⟩, by decide, by decide +kernel, pk_i (by decide +kernel) (pk_all (ks := [(2, .if_icmp .ne 7, 3, ([9], .null)), (6, .goto 14, 3, ([20], .null)), (20, .lreturn, 1, ([], .null))]) (by decide +kernel) ?_)⟩
  refine pk_c (pk_0 (Or.inr rfl) ⟨9, rfl, by decide⟩ (Or.inr rfl)) ?_
  refine pk_c (pk_0 (Or.inr rfl) ⟨20, rfl, by decide⟩ (Or.inr rfl)) ?_
  refine pk_c (pk_2 rfl rfl) ?_
  exact pk_n
