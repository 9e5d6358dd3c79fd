/-! what is checked of each method (printed by gen5.py) -/
theorem ok_M_real {s0 : State} (hS : pm_Str s0) : pm_OKI s0 mi_M_real := by
  refine ⟨Or.inl ⟨w_1263, rfl⟩, w_10, by decide +kernel, ⟨by decide +kernel, by decide +kernel⟩, by decide, by decide +kernel, pk_i (by decide +kernel) (pk_all (ks := [(2, .putfield 78, 3, ([9, 10, 0], .null)), (8, .invokevirtual 157, 3, ([181, 2, 0, 10], .null)), (11, .ifCond .eq 7, 3, ([18], .null)), (15, .ifCond .ge 7, 3, ([22], .null)), (19, .goto 4, 3, ([23], .null)), (24, .invokevirtual 93, 3, ([172, 3, 0, 10], .null)), (27, .ifCond .ne 26, 3, ([53], .null)), (32, .getfield 36, 3, ([9, 12], .null)), (38, .if_icmp .ne 7, 3, ([45], .null)), (42, .goto 4, 3, ([46], .null)), (47, .invokevirtual 93, 3, ([172, 3, 0, 10], .null)), (50, .ifCond .eq 5, 3, ([55], .null)), (54, .dreturn, 1, ([], .null)), (58, .ifCond .eq 8, 3, ([66], .null)), (63, .goto 5, 3, ([68], .null)), (69, .invokevirtual 189, 3, ([197, 4, 0, 10], .null)), (75, .ifCond .eq 27, 3, ([102], .null)), (83, .ldc2_w 197, 3, ([], .long 2047)), (87, .ldc2_w 197, 3, ([], .long 2047)), (91, .ifCond .ne 7, 3, ([98], .null)), (95, .goto 28, 3, ([123], .null)), (99, .goto 24, 3, ([123], .null)), (107, .ldc2_w 199, 3, ([], .long 255)), (111, .ldc2_w 199, 3, ([], .long 255)), (115, .ifCond .ne 7, 3, ([122], .null)), (119, .goto 4, 3, ([123], .null)), (129, .invokevirtual 93, 3, ([172, 3, 0, 10], .null)), (132, .ifCond .eq 5, 3, ([137], .null)), (136, .dreturn, 1, ([], .null)), (138, .ifCond .eq 15, 3, ([153], .null)), (147, .invokestatic 201, 3, ([203, 3, 0, 0], .null)), (150, .goto 12, 3, ([162], .null)), (159, .invokestatic 201, 3, ([203, 3, 0, 0], .null)), (162, .dreturn, 1, ([], .null))]) (by decide +kernel) ?_)⟩
  refine pk_c (pk_0 (Or.inr rfl) ⟨9, 10, 0, rfl, lp_M_78 _⟩ (Or.inr rfl)) ?_
  refine pk_c (pk_4 lm_M_157) ?_
  refine pk_c (pk_0 (Or.inr rfl) ⟨18, rfl, by decide⟩ (Or.inr rfl)) ?_
  refine pk_c (pk_0 (Or.inr rfl) ⟨22, rfl, by decide⟩ (Or.inr rfl)) ?_
  refine pk_c (pk_0 (Or.inr rfl) ⟨23, rfl, by decide⟩ (Or.inr rfl)) ?_
  refine pk_c (pk_4 lm_M_93) ?_
  refine pk_c (pk_0 (Or.inr rfl) ⟨53, rfl, by decide⟩ (Or.inr rfl)) ?_
  refine pk_c (pk_0 (Or.inr rfl) ⟨9, 12, rfl, lf_M_36⟩ (Or.inr rfl)) ?_
  refine pk_c (pk_0 (Or.inr rfl) ⟨45, rfl, by decide⟩ (Or.inr rfl)) ?_
  refine pk_c (pk_0 (Or.inr rfl) ⟨46, rfl, by decide⟩ (Or.inr rfl)) ?_
  refine pk_c (pk_4 lm_M_93) ?_
  refine pk_c (pk_0 (Or.inr rfl) ⟨55, rfl, by decide⟩ (Or.inr rfl)) ?_
  refine pk_c (pk_2 rfl rfl) ?_
  refine pk_c (pk_0 (Or.inr rfl) ⟨66, rfl, by decide⟩ (Or.inr rfl)) ?_
  refine pk_c (pk_0 (Or.inr rfl) ⟨68, rfl, by decide⟩ (Or.inr rfl)) ?_
  refine pk_c (pk_4 lm_M_189) ?_
  refine pk_c (pk_0 (Or.inr rfl) ⟨102, rfl, by decide⟩ (Or.inr rfl)) ?_
  refine pk_c (pk_0 (Or.inr rfl) w_1264 (Or.inr rfl)) ?_
  refine pk_c (pk_0 (Or.inr rfl) w_1264 (Or.inr rfl)) ?_
  refine pk_c (pk_0 (Or.inr rfl) ⟨98, rfl, by decide⟩ (Or.inr rfl)) ?_
  refine pk_c (pk_0 (Or.inr rfl) ⟨123, rfl, by decide⟩ (Or.inr rfl)) ?_
  refine pk_c (pk_0 (Or.inr rfl) ⟨123, rfl, by decide⟩ (Or.inr rfl)) ?_
  refine pk_c (pk_0 (Or.inr rfl) w_1265 (Or.inr rfl)) ?_
  refine pk_c (pk_0 (Or.inr rfl) w_1265 (Or.inr rfl)) ?_
  refine pk_c (pk_0 (Or.inr rfl) ⟨122, rfl, by decide⟩ (Or.inr rfl)) ?_
  refine pk_c (pk_0 (Or.inr rfl) ⟨123, rfl, by decide⟩ (Or.inr rfl)) ?_
  refine pk_c (pk_4 lm_M_93) ?_
  refine pk_c (pk_0 (Or.inr rfl) ⟨137, rfl, by decide⟩ (Or.inr rfl)) ?_
  refine pk_c (pk_2 rfl rfl) ?_
  refine pk_c (pk_0 (Or.inr rfl) ⟨153, rfl, by decide⟩ (Or.inr rfl)) ?_
  refine pk_c (pk_4 lm_M_201) ?_
  refine pk_c (pk_0 (Or.inr rfl) ⟨162, rfl, by decide⟩ (Or.inr rfl)) ?_
  refine pk_c (pk_4 lm_M_201) ?_
  refine pk_c (pk_2 rfl rfl) ?_
  exact pk_n
theorem ok_M_realOf {s0 : State} (hS : pm_Str s0) : pm_OKI s0 mi_M_realOf := by
  refine ⟨Or.inl ⟨w_1268, rfl⟩, w_10, by decide +kernel, ⟨by decide +kernel, by decide +kernel⟩, by decide, by decide +kernel, pk_i (by decide +kernel) (pk_all (ks := [(23, .ifCond .ne 8, 3, ([31], .null)), (28, .goto 9, 3, ([37], .null)), (42, .ifCond .ne 7, 3, ([49], .null)), (46, .goto 5, 3, ([51], .null)), (70, .if_icmp .ge 17, 3, ([87], .null)), (75, .ldc2_w 195, 3, ([], .double 4611686018427387904)), (84, .goto (-18), 3, ([66], .null)), (94, .if_icmp .le 17, 3, ([111], .null)), (99, .ldc2_w 195, 3, ([], .double 4611686018427387904)), (108, .goto (-18), 3, ([90], .null)), (120, .ifCond .ne 9, 3, ([129], .null)), (126, .goto 5, 3, ([131], .null)), (131, .dreturn, 1, ([], .null))]) (by decide +kernel) ?_)⟩
  refine pk_c (pk_0 (Or.inr rfl) ⟨31, rfl, by decide⟩ (Or.inr rfl)) ?_
  refine pk_c (pk_0 (Or.inr rfl) ⟨37, rfl, by decide⟩ (Or.inr rfl)) ?_
  refine pk_c (pk_0 (Or.inr rfl) ⟨49, rfl, by decide⟩ (Or.inr rfl)) ?_
  refine pk_c (pk_0 (Or.inr rfl) ⟨51, rfl, by decide⟩ (Or.inr rfl)) ?_
  refine pk_c (pk_0 (Or.inr rfl) ⟨87, rfl, by decide⟩ (Or.inr rfl)) ?_
  refine pk_c (pk_0 (Or.inr rfl) w_1269 (Or.inr rfl)) ?_
  refine pk_c (pk_0 (Or.inr rfl) ⟨66, rfl, by decide⟩ (Or.inr rfl)) ?_
  refine pk_c (pk_0 (Or.inr rfl) ⟨111, rfl, by decide⟩ (Or.inr rfl)) ?_
  refine pk_c (pk_0 (Or.inr rfl) w_1269 (Or.inr rfl)) ?_
  refine pk_c (pk_0 (Or.inr rfl) ⟨90, rfl, by decide⟩ (Or.inr rfl)) ?_
  refine pk_c (pk_0 (Or.inr rfl) ⟨129, rfl, by decide⟩ (Or.inr rfl)) ?_
  refine pk_c (pk_0 (Or.inr rfl) ⟨131, rfl, by decide⟩ (Or.inr rfl)) ?_
  refine pk_c (pk_2 rfl rfl) ?_
  exact pk_n
theorem ok_M_item {s0 : State} (hS : pm_Str s0) : pm_OKI s0 mi_M_item := by
  refine ⟨Or.inl ⟨w_1273, rfl⟩, w_10, by decide +kernel, ⟨by decide +kernel, by decide +kernel⟩, by decide, by decide +kernel, pk_i (by decide +kernel) (pk_all (ks := [(2, .putfield 78, 3, ([9, 10, 0], .null)), (8, .invokevirtual 157, 3, ([181, 2, 0, 10], .null)), (11, .ifCond .ne 7, 3, ([18], .null)), (15, .goto 4, 3, ([19], .null)), (20, .invokevirtual 93, 3, ([172, 3, 0, 10], .null)), (23, .ifCond .ne 67, 3, ([90], .null)), (28, .getfield 36, 3, ([9, 12], .null)), (34, .if_icmp .ne 13, 3, ([47], .null)), (38, .getfield 57, 3, ([9, 19], .null)), (44, .if_icmp .le 7, 3, ([51], .null)), (48, .goto 4, 3, ([52], .null)), (53, .invokevirtual 93, 3, ([172, 3, 0, 10], .null)), (56, .ifCond .ne 34, 3, ([90], .null)), (64, .getfield 54, 3, ([9, 18], .null)), (72, .invokestatic 87, 3, ([171, 3, 0, 0], .null)), (75, .ifCond .ne 7, 3, ([82], .null)), (79, .goto 4, 3, ([83], .null)), (84, .invokevirtual 93, 3, ([172, 3, 0, 10], .null)), (87, .ifCond .eq 5, 3, ([92], .null)), (91, .lreturn, 1, ([], .null)), (93, .getfield 57, 3, ([9, 19], .null)), (98, .invokestatic 120, 3, ([190, 1, 0, 0], .null)), (103, .ifCond .ne 7, 3, ([110], .null)), (107, .goto 23, 3, ([130], .null)), (113, .getfield 45, 3, ([9, 15], .null)), (123, .invokevirtual 182, 3, ([199, 4, 0, 10], .null)), (127, .invokestatic 192, 3, ([201, 2, 0, 0], .null)), (130, .lreturn, 1, ([], .null))]) (by decide +kernel) ?_)⟩
  refine pk_c (pk_0 (Or.inr rfl) ⟨9, 10, 0, rfl, lp_M_78 _⟩ (Or.inr rfl)) ?_
  refine pk_c (pk_4 lm_M_157) ?_
  refine pk_c (pk_0 (Or.inr rfl) ⟨18, rfl, by decide⟩ (Or.inr rfl)) ?_
  refine pk_c (pk_0 (Or.inr rfl) ⟨19, rfl, by decide⟩ (Or.inr rfl)) ?_
  refine pk_c (pk_4 lm_M_93) ?_
  refine pk_c (pk_0 (Or.inr rfl) ⟨90, rfl, by decide⟩ (Or.inr rfl)) ?_
  refine pk_c (pk_0 (Or.inr rfl) ⟨9, 12, rfl, lf_M_36⟩ (Or.inr rfl)) ?_
  refine pk_c (pk_0 (Or.inr rfl) ⟨47, rfl, by decide⟩ (Or.inr rfl)) ?_
  refine pk_c (pk_0 (Or.inr rfl) ⟨9, 19, rfl, lf_M_57⟩ (Or.inr rfl)) ?_
  refine pk_c (pk_0 (Or.inr rfl) ⟨51, rfl, by decide⟩ (Or.inr rfl)) ?_
  refine pk_c (pk_0 (Or.inr rfl) ⟨52, rfl, by decide⟩ (Or.inr rfl)) ?_
  refine pk_c (pk_4 lm_M_93) ?_
  refine pk_c (pk_0 (Or.inr rfl) ⟨90, rfl, by decide⟩ (Or.inr rfl)) ?_
  refine pk_c (pk_0 (Or.inr rfl) ⟨9, 18, rfl, lf_M_54⟩ (Or.inr rfl)) ?_
  refine pk_c (pk_4 lm_M_87) ?_
  refine pk_c (pk_0 (Or.inr rfl) ⟨82, rfl, by decide⟩ (Or.inr rfl)) ?_
  refine pk_c (pk_0 (Or.inr rfl) ⟨83, rfl, by decide⟩ (Or.inr rfl)) ?_
  refine pk_c (pk_4 lm_M_93) ?_
  refine pk_c (pk_0 (Or.inr rfl) ⟨92, rfl, by decide⟩ (Or.inr rfl)) ?_
  refine pk_c (pk_2 rfl rfl) ?_
  refine pk_c (pk_0 (Or.inr rfl) ⟨9, 19, rfl, lf_M_57⟩ (Or.inr rfl)) ?_
  refine pk_c (pk_4 lm_M_120) ?_
  refine pk_c (pk_0 (Or.inr rfl) ⟨110, rfl, by decide⟩ (Or.inr rfl)) ?_
  refine pk_c (pk_0 (Or.inr rfl) ⟨130, rfl, by decide⟩ (Or.inr rfl)) ?_
  refine pk_c (pk_0 (Or.inr rfl) ⟨9, 15, rfl, lf_M_45⟩ (Or.inr rfl)) ?_
  refine pk_c (pk_4 lm_M_182) ?_
  refine pk_c (pk_4 lm_M_192) ?_
  refine pk_c (pk_2 rfl rfl) ?_
  exact pk_n
theorem ok_M_look {s0 : State} (hS : pm_Str s0) : pm_OKI s0 mi_M_look := by
  refine ⟨Or.inl ⟨w_1277, rfl⟩, w_10, by decide +kernel, ⟨by decide +kernel, by decide +kernel⟩, by decide, by decide +kernel, pk_i (by decide +kernel) (pk_all (ks := [(2, .putfield 78, 3, ([9, 10, 0], .null)), (8, .invokevirtual 157, 3, ([181, 2, 0, 10], .null)), (11, .ifCond .eq 15, 3, ([26], .null)), (17, .ldc2_w 118, 3, ([], .long 7)), (20, .invokestatic 87, 3, ([171, 3, 0, 0], .null)), (23, .ifCond .ne 7, 3, ([30], .null)), (27, .goto 4, 3, ([31], .null)), (32, .invokevirtual 93, 3, ([172, 3, 0, 10], .null)), (35, .ifCond .ne 12, 3, ([47], .null)), (39, .getfield 36, 3, ([9, 12], .null)), (44, .ifCond .ne 5, 3, ([49], .null)), (48, .ireturn, 1, ([], .null)), (50, .getfield 36, 3, ([9, 12], .null)), (56, .if_icmp .ne 7, 3, ([63], .null)), (60, .goto 4, 3, ([64], .null)), (66, .tableswitch 118 0 6 #[42, 49, 56, 63, 73, 88, 103], 42, ([184, 108, 115, 122, 129, 139, 154, 169], .null)), (109, .getfield 36, 3, ([9, 12], .null)), (114, .ireturn, 1, ([], .null)), (116, .getfield 39, 3, ([9, 13], .null)), (121, .ireturn, 1, ([], .null)), (123, .getfield 42, 3, ([9, 14], .null)), (128, .ireturn, 1, ([], .null)), (130, .getfield 45, 3, ([9, 15], .null)), (138, .ireturn, 1, ([], .null)), (140, .ifCond .eq 7, 3, ([147], .null)), (144, .goto 9, 3, ([153], .null)), (148, .getfield 48, 3, ([9, 16], .null)), (153, .ireturn, 1, ([], .null)), (155, .ifCond .eq 7, 3, ([162], .null)), (159, .goto 9, 3, ([168], .null)), (163, .getfield 51, 3, ([9, 17], .null)), (168, .ireturn, 1, ([], .null)), (170, .ifCond .eq 12, 3, ([182], .null)), (174, .getfield 54, 3, ([9, 18], .null)), (179, .goto 4, 3, ([183], .null)), (183, .ireturn, 1, ([], .null)), (185, .ifCond .eq 12, 3, ([197], .null)), (189, .getfield 57, 3, ([9, 19], .null)), (194, .goto 4, 3, ([198], .null)), (198, .ireturn, 1, ([], .null))]) (by decide +kernel) ?_)⟩
  refine pk_c (pk_0 (Or.inr rfl) ⟨9, 10, 0, rfl, lp_M_78 _⟩ (Or.inr rfl)) ?_
  refine pk_c (pk_4 lm_M_157) ?_
  refine pk_c (pk_0 (Or.inr rfl) ⟨26, rfl, by decide⟩ (Or.inr rfl)) ?_
  refine pk_c (pk_0 (Or.inr rfl) w_1191 (Or.inr rfl)) ?_
  refine pk_c (pk_4 lm_M_87) ?_
  refine pk_c (pk_0 (Or.inr rfl) ⟨30, rfl, by decide⟩ (Or.inr rfl)) ?_
  refine pk_c (pk_0 (Or.inr rfl) ⟨31, rfl, by decide⟩ (Or.inr rfl)) ?_
  refine pk_c (pk_4 lm_M_93) ?_
  refine pk_c (pk_0 (Or.inr rfl) ⟨47, rfl, by decide⟩ (Or.inr rfl)) ?_
  refine pk_c (pk_0 (Or.inr rfl) ⟨9, 12, rfl, lf_M_36⟩ (Or.inr rfl)) ?_
  refine pk_c (pk_0 (Or.inr rfl) ⟨49, rfl, by decide⟩ (Or.inr rfl)) ?_
  refine pk_c (pk_2 rfl (Or.inl ⟨rfl, rfl⟩)) ?_
  refine pk_c (pk_0 (Or.inr rfl) ⟨9, 12, rfl, lf_M_36⟩ (Or.inr rfl)) ?_
  refine pk_c (pk_0 (Or.inr rfl) ⟨63, rfl, by decide⟩ (Or.inr rfl)) ?_
  refine pk_c (pk_0 (Or.inr rfl) ⟨64, rfl, by decide⟩ (Or.inr rfl)) ?_
  refine pk_c (pk_0 (Or.inl rfl) ⟨184, _, rfl, by decide, by decide, by decide, pk_t (by decide +kernel)⟩ (Or.inr rfl)) ?_
  refine pk_c (pk_0 (Or.inr rfl) ⟨9, 12, rfl, lf_M_36⟩ (Or.inr rfl)) ?_
  refine pk_c (pk_2 rfl (Or.inl ⟨rfl, rfl⟩)) ?_
  refine pk_c (pk_0 (Or.inr rfl) ⟨9, 13, rfl, lf_M_39⟩ (Or.inr rfl)) ?_
  refine pk_c (pk_2 rfl (Or.inl ⟨rfl, rfl⟩)) ?_
  refine pk_c (pk_0 (Or.inr rfl) ⟨9, 14, rfl, lf_M_42⟩ (Or.inr rfl)) ?_
  refine pk_c (pk_2 rfl (Or.inl ⟨rfl, rfl⟩)) ?_
  refine pk_c (pk_0 (Or.inr rfl) ⟨9, 15, rfl, lf_M_45⟩ (Or.inr rfl)) ?_
  refine pk_c (pk_2 rfl (Or.inl ⟨rfl, rfl⟩)) ?_
  refine pk_c (pk_0 (Or.inr rfl) ⟨147, rfl, by decide⟩ (Or.inr rfl)) ?_
  refine pk_c (pk_0 (Or.inr rfl) ⟨153, rfl, by decide⟩ (Or.inr rfl)) ?_
  refine pk_c (pk_0 (Or.inr rfl) ⟨9, 16, rfl, lf_M_48⟩ (Or.inr rfl)) ?_
  refine pk_c (pk_2 rfl (Or.inl ⟨rfl, rfl⟩)) ?_
  refine pk_c (pk_0 (Or.inr rfl) ⟨162, rfl, by decide⟩ (Or.inr rfl)) ?_
  refine pk_c (pk_0 (Or.inr rfl) ⟨168, rfl, by decide⟩ (Or.inr rfl)) ?_
  refine pk_c (pk_0 (Or.inr rfl) ⟨9, 17, rfl, lf_M_51⟩ (Or.inr rfl)) ?_
  refine pk_c (pk_2 rfl (Or.inl ⟨rfl, rfl⟩)) ?_
  refine pk_c (pk_0 (Or.inr rfl) ⟨182, rfl, by decide⟩ (Or.inr rfl)) ?_
  refine pk_c (pk_0 (Or.inr rfl) ⟨9, 18, rfl, lf_M_54⟩ (Or.inr rfl)) ?_
  refine pk_c (pk_0 (Or.inr rfl) ⟨183, rfl, by decide⟩ (Or.inr rfl)) ?_
  refine pk_c (pk_2 rfl (Or.inl ⟨rfl, rfl⟩)) ?_
  refine pk_c (pk_0 (Or.inr rfl) ⟨197, rfl, by decide⟩ (Or.inr rfl)) ?_
  refine pk_c (pk_0 (Or.inr rfl) ⟨9, 19, rfl, lf_M_57⟩ (Or.inr rfl)) ?_
  refine pk_c (pk_0 (Or.inr rfl) ⟨198, rfl, by decide⟩ (Or.inr rfl)) ?_
  refine pk_c (pk_2 rfl (Or.inl ⟨rfl, rfl⟩)) ?_
  exact pk_n
theorem ok_M_begin {s0 : State} (hS : pm_Str s0) : pm_OKI s0 mi_M_begin := by
  refine ⟨Or.inl ⟨w_1281, rfl⟩, w_10, by decide +kernel, ⟨by decide +kernel, by decide +kernel⟩, by decide, by decide +kernel, pk_i (by decide +kernel) (pk_all (ks := [(2, .putfield 78, 3, ([9, 10, 0], .null)), (9, .ldc2_w 91, 3, ([], .long 64)), (12, .invokestatic 87, 3, ([171, 3, 0, 0], .null)), (15, .ifCond .ne 7, 3, ([22], .null)), (19, .goto 4, 3, ([23], .null)), (24, .invokevirtual 93, 3, ([172, 3, 0, 10], .null)), (27, .ifCond .eq 4, 3, ([31], .null)), (30, .return_, 1, ([], .null)), (33, .putfield 205, 3, ([9, 9, 0], .null)), (38, .putfield 29, 3, ([9, 6, 0], .null)), (45, .if_icmp .ge 15, 3, ([60], .null)), (51, .invokevirtual 97, 3, ([173, 3, 0, 10], .null)), (57, .goto (-14), 3, ([43], .null)), (61, .getfield 19, 3, ([9, 3], .null)), (69, .putfield 101, 3, ([9, 11, 4], .null)), (73, .invokevirtual 105, 3, ([174, 1, 0, 10], .null)), (76, .return_, 1, ([], .null))]) (by decide +kernel) ?_)⟩
  refine pk_c (pk_0 (Or.inr rfl) ⟨9, 10, 0, rfl, lp_M_78 _⟩ (Or.inr rfl)) ?_
  refine pk_c (pk_0 (Or.inr rfl) w_1141 (Or.inr rfl)) ?_
  refine pk_c (pk_4 lm_M_87) ?_
  refine pk_c (pk_0 (Or.inr rfl) ⟨22, rfl, by decide⟩ (Or.inr rfl)) ?_
  refine pk_c (pk_0 (Or.inr rfl) ⟨23, rfl, by decide⟩ (Or.inr rfl)) ?_
  refine pk_c (pk_4 lm_M_93) ?_
  refine pk_c (pk_0 (Or.inr rfl) ⟨31, rfl, by decide⟩ (Or.inr rfl)) ?_
  refine pk_c (pk_2 rfl rfl) ?_
  refine pk_c (pk_0 (Or.inr rfl) ⟨9, 9, 0, rfl, lp_M_205 _⟩ (Or.inr rfl)) ?_
  refine pk_c (pk_0 (Or.inr rfl) ⟨9, 6, 0, rfl, lp_M_29 _⟩ (Or.inr rfl)) ?_
  refine pk_c (pk_0 (Or.inr rfl) ⟨60, rfl, by decide⟩ (Or.inr rfl)) ?_
  refine pk_c (pk_4 lm_M_97) ?_
  refine pk_c (pk_0 (Or.inr rfl) ⟨43, rfl, by decide⟩ (Or.inr rfl)) ?_
  refine pk_c (pk_0 (Or.inr rfl) ⟨9, 3, rfl, lf_M_19⟩ (Or.inr rfl)) ?_
  refine pk_c (pk_0 (Or.inr rfl) ⟨9, 11, 4, rfl, lp_M_101 _⟩ (Or.inr rfl)) ?_
  refine pk_c (pk_4 lm_M_105) ?_
  refine pk_c (pk_2 rfl rfl) ?_
  exact pk_n
theorem ok_M_struct {s0 : State} (hS : pm_Str s0) : pm_OKI s0 mi_M_struct := by
  refine ⟨Or.inl ⟨w_1285, rfl⟩, w_10, by decide +kernel, ⟨by decide +kernel, by decide +kernel⟩, by decide, by decide +kernel, pk_i (by decide +kernel) (pk_all (ks := [(2, .putfield 78, 3, ([9, 10, 0], .null)), (8, .invokevirtual 157, 3, ([181, 2, 0, 10], .null)), (11, .ifCond .eq 50, 3, ([61], .null)), (16, .ldc2_w 176, 3, ([], .long (-1))), (19, .ldc2_w 155, 3, ([], .long 15)), (22, .invokestatic 87, 3, ([171, 3, 0, 0], .null)), (25, .ifCond .eq 36, 3, ([61], .null)), (32, .ldc2_w 226, 3, ([], .long 20)), (35, .invokestatic 87, 3, ([171, 3, 0, 0], .null)), (38, .ifCond .eq 23, 3, ([61], .null)), (45, .ldc2_w 226, 3, ([], .long 20)), (48, .invokestatic 87, 3, ([171, 3, 0, 0], .null)), (51, .ifCond .eq 10, 3, ([61], .null)), (55, .getfield 101, 3, ([9, 11], .null)), (58, .ifCond .ne 7, 3, ([65], .null)), (62, .goto 4, 3, ([66], .null)), (67, .invokevirtual 93, 3, ([172, 3, 0, 10], .null)), (70, .ifCond .eq 5, 3, ([75], .null)), (74, .ireturn, 1, ([], .null)), (96, .invokevirtual 228, 3, ([208, 5, 0, 10], .null)), (102, .getfield 78, 3, ([9, 10], .null)), (105, .ifCond .eq 5, 3, ([110], .null)), (109, .ireturn, 1, ([], .null)), (115, .invokevirtual 231, 3, ([214, 4, 0, 10], .null)), (119, .getfield 48, 3, ([9, 16], .null)), (130, .getfield 51, 3, ([9, 17], .null)), (138, .ireturn, 1, ([], .null))]) (by decide +kernel) ?_)⟩
  refine pk_c (pk_0 (Or.inr rfl) ⟨9, 10, 0, rfl, lp_M_78 _⟩ (Or.inr rfl)) ?_
  refine pk_c (pk_4 lm_M_157) ?_
  refine pk_c (pk_0 (Or.inr rfl) ⟨61, rfl, by decide⟩ (Or.inr rfl)) ?_
  refine pk_c (pk_0 (Or.inr rfl) w_1286 (Or.inr rfl)) ?_
  refine pk_c (pk_0 (Or.inr rfl) w_1184 (Or.inr rfl)) ?_
  refine pk_c (pk_4 lm_M_87) ?_
  refine pk_c (pk_0 (Or.inr rfl) ⟨61, rfl, by decide⟩ (Or.inr rfl)) ?_
  refine pk_c (pk_0 (Or.inr rfl) w_1287 (Or.inr rfl)) ?_
  refine pk_c (pk_4 lm_M_87) ?_
  refine pk_c (pk_0 (Or.inr rfl) ⟨61, rfl, by decide⟩ (Or.inr rfl)) ?_
  refine pk_c (pk_0 (Or.inr rfl) w_1287 (Or.inr rfl)) ?_
  refine pk_c (pk_4 lm_M_87) ?_
  refine pk_c (pk_0 (Or.inr rfl) ⟨61, rfl, by decide⟩ (Or.inr rfl)) ?_
  refine pk_c (pk_0 (Or.inr rfl) ⟨9, 11, rfl, lf_M_101⟩ (Or.inr rfl)) ?_
  refine pk_c (pk_0 (Or.inr rfl) ⟨65, rfl, by decide⟩ (Or.inr rfl)) ?_
  refine pk_c (pk_0 (Or.inr rfl) ⟨66, rfl, by decide⟩ (Or.inr rfl)) ?_
  refine pk_c (pk_4 lm_M_93) ?_
  refine pk_c (pk_0 (Or.inr rfl) ⟨75, rfl, by decide⟩ (Or.inr rfl)) ?_
  refine pk_c (pk_2 rfl (Or.inl ⟨rfl, rfl⟩)) ?_
  refine pk_c (pk_4 lm_M_228) ?_
  refine pk_c (pk_0 (Or.inr rfl) ⟨9, 10, rfl, lf_M_78⟩ (Or.inr rfl)) ?_
  refine pk_c (pk_0 (Or.inr rfl) ⟨110, rfl, by decide⟩ (Or.inr rfl)) ?_
  refine pk_c (pk_2 rfl (Or.inl ⟨rfl, rfl⟩)) ?_
  refine pk_c (pk_4 lm_M_231) ?_
  refine pk_c (pk_0 (Or.inr rfl) ⟨9, 16, rfl, lf_M_48⟩ (Or.inr rfl)) ?_
  refine pk_c (pk_0 (Or.inr rfl) ⟨9, 17, rfl, lf_M_51⟩ (Or.inr rfl)) ?_
  refine pk_c (pk_2 rfl (Or.inl ⟨rfl, rfl⟩)) ?_
  exact pk_n
theorem ok_M_made {s0 : State} (hS : pm_Str s0) : pm_OKI s0 mi_M_made := by
  refine ⟨Or.inl ⟨w_1291, rfl⟩, w_10, by decide +kernel, ⟨by decide +kernel, by decide +kernel⟩, by decide, by decide +kernel, pk_i (by decide +kernel) (pk_all (ks := [(1, .ifCond .ge 33, 3, ([34], .null)), (10, .invokevirtual 222, 3, ([209, 5, 0, 10], .null)), (18, .ifCond .ge 7, 3, ([25], .null)), (22, .goto 4, 3, ([26], .null)), (27, .invokevirtual 93, 3, ([172, 3, 0, 10], .null)), (33, .ireturn, 1, ([], .null)), (36, .getfield 36, 3, ([9, 12], .null)), (41, .ifCond .eq 24, 3, ([65], .null)), (45, .getfield 36, 3, ([9, 12], .null)), (51, .if_icmp .ne 18, 3, ([69], .null)), (55, .getfield 57, 3, ([9, 19], .null)), (62, .if_icmp .eq 7, 3, ([69], .null)), (66, .goto 4, 3, ([70], .null)), (71, .invokevirtual 93, 3, ([172, 3, 0, 10], .null)), (74, .ifCond .eq 5, 3, ([79], .null)), (78, .ireturn, 1, ([], .null)), (82, .invokevirtual 168, 3, ([193, 3, 0, 10], .null)), (90, .ifCond .ge 7, 3, ([97], .null)), (94, .goto 4, 3, ([98], .null)), (99, .invokevirtual 93, 3, ([172, 3, 0, 10], .null)), (102, .ifCond .eq 5, 3, ([107], .null)), (106, .ireturn, 1, ([], .null)), (109, .getfield 42, 3, ([9, 14], .null)), (119, .invokevirtual 222, 3, ([209, 5, 0, 10], .null)), (127, .ifCond .ge 7, 3, ([134], .null)), (131, .goto 4, 3, ([135], .null)), (136, .invokevirtual 93, 3, ([172, 3, 0, 10], .null)), (142, .ireturn, 1, ([], .null))]) (by decide +kernel) ?_)⟩
  refine pk_c (pk_0 (Or.inr rfl) ⟨34, rfl, by decide⟩ (Or.inr rfl)) ?_
  refine pk_c (pk_4 lm_M_222) ?_
  refine pk_c (pk_0 (Or.inr rfl) ⟨25, rfl, by decide⟩ (Or.inr rfl)) ?_
  refine pk_c (pk_0 (Or.inr rfl) ⟨26, rfl, by decide⟩ (Or.inr rfl)) ?_
  refine pk_c (pk_4 lm_M_93) ?_
  refine pk_c (pk_2 rfl (Or.inl ⟨rfl, rfl⟩)) ?_
  refine pk_c (pk_0 (Or.inr rfl) ⟨9, 12, rfl, lf_M_36⟩ (Or.inr rfl)) ?_
  refine pk_c (pk_0 (Or.inr rfl) ⟨65, rfl, by decide⟩ (Or.inr rfl)) ?_
  refine pk_c (pk_0 (Or.inr rfl) ⟨9, 12, rfl, lf_M_36⟩ (Or.inr rfl)) ?_
  refine pk_c (pk_0 (Or.inr rfl) ⟨69, rfl, by decide⟩ (Or.inr rfl)) ?_
  refine pk_c (pk_0 (Or.inr rfl) ⟨9, 19, rfl, lf_M_57⟩ (Or.inr rfl)) ?_
  refine pk_c (pk_0 (Or.inr rfl) ⟨69, rfl, by decide⟩ (Or.inr rfl)) ?_
  refine pk_c (pk_0 (Or.inr rfl) ⟨70, rfl, by decide⟩ (Or.inr rfl)) ?_
  refine pk_c (pk_4 lm_M_93) ?_
  refine pk_c (pk_0 (Or.inr rfl) ⟨79, rfl, by decide⟩ (Or.inr rfl)) ?_
  refine pk_c (pk_2 rfl (Or.inl ⟨rfl, rfl⟩)) ?_
  refine pk_c (pk_4 lm_M_168) ?_
  refine pk_c (pk_0 (Or.inr rfl) ⟨97, rfl, by decide⟩ (Or.inr rfl)) ?_
  refine pk_c (pk_0 (Or.inr rfl) ⟨98, rfl, by decide⟩ (Or.inr rfl)) ?_
  refine pk_c (pk_4 lm_M_93) ?_
  refine pk_c (pk_0 (Or.inr rfl) ⟨107, rfl, by decide⟩ (Or.inr rfl)) ?_
  refine pk_c (pk_2 rfl (Or.inl ⟨rfl, rfl⟩)) ?_
  refine pk_c (pk_0 (Or.inr rfl) ⟨9, 14, rfl, lf_M_42⟩ (Or.inr rfl)) ?_
  refine pk_c (pk_4 lm_M_222) ?_
  refine pk_c (pk_0 (Or.inr rfl) ⟨134, rfl, by decide⟩ (Or.inr rfl)) ?_
  refine pk_c (pk_0 (Or.inr rfl) ⟨135, rfl, by decide⟩ (Or.inr rfl)) ?_
  refine pk_c (pk_4 lm_M_93) ?_
  refine pk_c (pk_2 rfl (Or.inl ⟨rfl, rfl⟩)) ?_
  exact pk_n
theorem ok_M_allocated {s0 : State} (hS : pm_Str s0) : pm_OKI s0 mi_M_allocated := by
  refine ⟨Or.inl ⟨w_1295, rfl⟩, w_10, by decide +kernel, ⟨by decide +kernel, by decide +kernel⟩, by decide, by decide +kernel, pk_i (by decide +kernel) (pk_all (ks := [(9, .ifCond .ne 35, 3, ([44], .null)), (14, .ldc2_w 108, 3, ([], .long 3)), (20, .ifCond .ne 24, 3, ([44], .null)), (24, .getfield 7, 3, ([9, 0], .null)), (32, .invokestatic 210, 3, ([210, 2, 0, 0], .null)), (43, .ireturn, 1, ([], .null)), (45, .getfield 205, 3, ([9, 9], .null)), (49, .getfield 19, 3, ([9, 3], .null)), (56, .if_icmp .lt 38, 3, ([94], .null)), (62, .invokevirtual 213, 3, ([211, 3, 0, 10], .null)), (68, .getfield 7, 3, ([9, 0], .null)), (81, .invokestatic 210, 3, ([210, 2, 0, 0], .null)), (93, .ireturn, 1, ([], .null)), (98, .invokevirtual 216, 3, ([212, 2, 0, 10], .null)), (105, .invokevirtual 216, 3, ([212, 2, 0, 10], .null)), (119, .getfield 29, 3, ([9, 6], .null)), (122, .if_icmp .ge 52, 3, ([174], .null)), (127, .ifCond .lt 47, 3, ([174], .null)), (132, .ifCond .ge 36, 3, ([168], .null)), (136, .getfield 205, 3, ([9, 9], .null)), (140, .getfield 19, 3, ([9, 3], .null)), (151, .if_icmp .ne 7, 3, ([158], .null)), (155, .goto 4, 3, ([159], .null)), (161, .if_icmp .lt 7, 3, ([168], .null)), (171, .goto (-55), 3, ([116], .null)), (176, .ifCond .ge 89, 3, ([265], .null)), (181, .ifCond .lt 84, 3, ([265], .null)), (188, .invokevirtual 213, 3, ([211, 3, 0, 10], .null)), (197, .invokevirtual 213, 3, ([211, 3, 0, 10], .null)), (203, .getfield 7, 3, ([9, 0], .null)), (219, .invokestatic 219, 3, ([213, 3, 0, 0], .null)), (224, .getfield 7, 3, ([9, 0], .null)), (241, .getfield 7, 3, ([9, 0], .null)), (251, .invokestatic 219, 3, ([213, 3, 0, 0], .null)), (264, .ireturn, 1, ([], .null)), (267, .ifCond .ge 37, 3, ([304], .null)), (271, .getfield 29, 3, ([9, 6], .null)), (275, .if_icmp .ge 29, 3, ([304], .null)), (282, .getfield 205, 3, ([9, 9], .null)), (285, .if_icmp .gt 19, 3, ([304], .null)), (289, .getfield 29, 3, ([9, 6], .null)), (296, .getfield 29, 3, ([9, 6], .null)), (301, .putfield 29, 3, ([9, 6, 0], .null)), (306, .ifCond .ge 5, 3, ([311], .null)), (310, .ireturn, 1, ([], .null)), (317, .invokevirtual 213, 3, ([211, 3, 0, 10], .null)), (323, .getfield 7, 3, ([9, 0], .null)), (338, .getfield 7, 3, ([9, 0], .null)), (348, .invokestatic 219, 3, ([213, 3, 0, 0], .null)), (363, .ireturn, 1, ([], .null))]) (by decide +kernel) ?_)⟩
  refine pk_c (pk_0 (Or.inr rfl) ⟨44, rfl, by decide⟩ (Or.inr rfl)) ?_
  refine pk_c (pk_0 (Or.inr rfl) w_1166 (Or.inr rfl)) ?_
  refine pk_c (pk_0 (Or.inr rfl) ⟨44, rfl, by decide⟩ (Or.inr rfl)) ?_
  refine pk_c (pk_0 (Or.inr rfl) ⟨9, 0, rfl, lf_M_7⟩ (Or.inr rfl)) ?_
  refine pk_c (pk_4 lm_M_210) ?_
  refine pk_c (pk_2 rfl (Or.inl ⟨rfl, rfl⟩)) ?_
  refine pk_c (pk_0 (Or.inr rfl) ⟨9, 9, rfl, lf_M_205⟩ (Or.inr rfl)) ?_
  refine pk_c (pk_0 (Or.inr rfl) ⟨9, 3, rfl, lf_M_19⟩ (Or.inr rfl)) ?_
  refine pk_c (pk_0 (Or.inr rfl) ⟨94, rfl, by decide⟩ (Or.inr rfl)) ?_
  refine pk_c (pk_4 lm_M_213) ?_
  refine pk_c (pk_0 (Or.inr rfl) ⟨9, 0, rfl, lf_M_7⟩ (Or.inr rfl)) ?_
  refine pk_c (pk_4 lm_M_210) ?_
  refine pk_c (pk_2 rfl (Or.inl ⟨rfl, rfl⟩)) ?_
  refine pk_c (pk_4 lm_M_216) ?_
  refine pk_c (pk_4 lm_M_216) ?_
  refine pk_c (pk_0 (Or.inr rfl) ⟨9, 6, rfl, lf_M_29⟩ (Or.inr rfl)) ?_
  refine pk_c (pk_0 (Or.inr rfl) ⟨174, rfl, by decide⟩ (Or.inr rfl)) ?_
  refine pk_c (pk_0 (Or.inr rfl) ⟨174, rfl, by decide⟩ (Or.inr rfl)) ?_
  refine pk_c (pk_0 (Or.inr rfl) ⟨168, rfl, by decide⟩ (Or.inr rfl)) ?_
  refine pk_c (pk_0 (Or.inr rfl) ⟨9, 9, rfl, lf_M_205⟩ (Or.inr rfl)) ?_
  refine pk_c (pk_0 (Or.inr rfl) ⟨9, 3, rfl, lf_M_19⟩ (Or.inr rfl)) ?_
  refine pk_c (pk_0 (Or.inr rfl) ⟨158, rfl, by decide⟩ (Or.inr rfl)) ?_
  refine pk_c (pk_0 (Or.inr rfl) ⟨159, rfl, by decide⟩ (Or.inr rfl)) ?_
  refine pk_c (pk_0 (Or.inr rfl) ⟨168, rfl, by decide⟩ (Or.inr rfl)) ?_
  refine pk_c (pk_0 (Or.inr rfl) ⟨116, rfl, by decide⟩ (Or.inr rfl)) ?_
  refine pk_c (pk_0 (Or.inr rfl) ⟨265, rfl, by decide⟩ (Or.inr rfl)) ?_
  refine pk_c (pk_0 (Or.inr rfl) ⟨265, rfl, by decide⟩ (Or.inr rfl)) ?_
  refine pk_c (pk_4 lm_M_213) ?_
  refine pk_c (pk_4 lm_M_213) ?_
  refine pk_c (pk_0 (Or.inr rfl) ⟨9, 0, rfl, lf_M_7⟩ (Or.inr rfl)) ?_
  refine pk_c (pk_4 lm_M_219) ?_
  refine pk_c (pk_0 (Or.inr rfl) ⟨9, 0, rfl, lf_M_7⟩ (Or.inr rfl)) ?_
  refine pk_c (pk_0 (Or.inr rfl) ⟨9, 0, rfl, lf_M_7⟩ (Or.inr rfl)) ?_
  refine pk_c (pk_4 lm_M_219) ?_
  refine pk_c (pk_2 rfl (Or.inl ⟨rfl, rfl⟩)) ?_
  refine pk_c (pk_0 (Or.inr rfl) ⟨304, rfl, by decide⟩ (Or.inr rfl)) ?_
  refine pk_c (pk_0 (Or.inr rfl) ⟨9, 6, rfl, lf_M_29⟩ (Or.inr rfl)) ?_
  refine pk_c (pk_0 (Or.inr rfl) ⟨304, rfl, by decide⟩ (Or.inr rfl)) ?_
  refine pk_c (pk_0 (Or.inr rfl) ⟨9, 9, rfl, lf_M_205⟩ (Or.inr rfl)) ?_
  refine pk_c (pk_0 (Or.inr rfl) ⟨304, rfl, by decide⟩ (Or.inr rfl)) ?_
  refine pk_c (pk_0 (Or.inr rfl) ⟨9, 6, rfl, lf_M_29⟩ (Or.inr rfl)) ?_
  refine pk_c (pk_0 (Or.inr rfl) ⟨9, 6, rfl, lf_M_29⟩ (Or.inr rfl)) ?_
  refine pk_c (pk_0 (Or.inr rfl) ⟨9, 6, 0, rfl, lp_M_29 _⟩ (Or.inr rfl)) ?_
  refine pk_c (pk_0 (Or.inr rfl) ⟨311, rfl, by decide⟩ (Or.inr rfl)) ?_
  refine pk_c (pk_2 rfl (Or.inl ⟨rfl, rfl⟩)) ?_
  refine pk_c (pk_4 lm_M_213) ?_
  refine pk_c (pk_0 (Or.inr rfl) ⟨9, 0, rfl, lf_M_7⟩ (Or.inr rfl)) ?_
  refine pk_c (pk_0 (Or.inr rfl) ⟨9, 0, rfl, lf_M_7⟩ (Or.inr rfl)) ?_
  refine pk_c (pk_4 lm_M_219) ?_
  refine pk_c (pk_2 rfl (Or.inl ⟨rfl, rfl⟩)) ?_
  exact pk_n
theorem ok_M_near {s0 : State} (hS : pm_Str s0) : pm_OKI s0 mi_M_near := by
  refine ⟨Or.inl ⟨w_1298, rfl⟩, w_10, by decide +kernel, ⟨by decide +kernel, by decide +kernel⟩, by decide, by decide +kernel, pk_i (by decide +kernel) (pk_all (ks := [(3, .ldc2_w 208, 3, ([], .long 1073741823)), (10, .lreturn, 1, ([], .null))]) (by decide +kernel) ?_)⟩
  refine pk_c (pk_0 (Or.inr rfl) w_1299 (Or.inr rfl)) ?_
  refine pk_c (pk_2 rfl rfl) ?_
  exact pk_n
theorem ok_M_takes {s0 : State} (hS : pm_Str s0) : pm_OKI s0 mi_M_takes := by
  refine ⟨Or.inl ⟨w_1303, rfl⟩, w_10, by decide +kernel, ⟨by decide +kernel, by decide +kernel⟩, by decide, by decide +kernel, pk_i (by decide +kernel) (pk_all (ks := [(1, .getfield 19, 3, ([9, 3], .null)), (11, .getfield 19, 3, ([9, 3], .null)), (18, .ireturn, 1, ([], .null))]) (by decide +kernel) ?_)⟩
  refine pk_c (pk_0 (Or.inr rfl) ⟨9, 3, rfl, lf_M_19⟩ (Or.inr rfl)) ?_
  refine pk_c (pk_0 (Or.inr rfl) ⟨9, 3, rfl, lf_M_19⟩ (Or.inr rfl)) ?_
  refine pk_c (pk_2 rfl (Or.inl ⟨rfl, rfl⟩)) ?_
  exact pk_n
theorem ok_M_withLeft {s0 : State} (hS : pm_Str s0) : pm_OKI s0 mi_M_withLeft := by
  refine ⟨Or.inl ⟨w_1307, rfl⟩, w_10, by decide +kernel, ⟨by decide +kernel, by decide +kernel⟩, by decide, by decide +kernel, pk_i (by decide +kernel) (pk_all (ks := [(4, .getfield 29, 3, ([9, 6], .null)), (7, .if_icmp .ge 26, 3, ([33], .null)), (11, .getfield 205, 3, ([9, 9], .null)), (15, .getfield 19, 3, ([9, 3], .null)), (22, .if_icmp .lt 5, 3, ([27], .null)), (26, .ireturn, 1, ([], .null)), (30, .goto (-28), 3, ([2], .null)), (34, .ireturn, 1, ([], .null))]) (by decide +kernel) ?_)⟩
  refine pk_c (pk_0 (Or.inr rfl) ⟨9, 6, rfl, lf_M_29⟩ (Or.inr rfl)) ?_
  refine pk_c (pk_0 (Or.inr rfl) ⟨33, rfl, by decide⟩ (Or.inr rfl)) ?_
  refine pk_c (pk_0 (Or.inr rfl) ⟨9, 9, rfl, lf_M_205⟩ (Or.inr rfl)) ?_
  refine pk_c (pk_0 (Or.inr rfl) ⟨9, 3, rfl, lf_M_19⟩ (Or.inr rfl)) ?_
  refine pk_c (pk_0 (Or.inr rfl) ⟨27, rfl, by decide⟩ (Or.inr rfl)) ?_
  refine pk_c (pk_2 rfl (Or.inl ⟨rfl, rfl⟩)) ?_
  refine pk_c (pk_0 (Or.inr rfl) ⟨2, rfl, by decide⟩ (Or.inr rfl)) ?_
  refine pk_c (pk_2 rfl (Or.inl ⟨rfl, rfl⟩)) ?_
  exact pk_n
theorem ok_M_far {s0 : State} (hS : pm_Str s0) : pm_OKI s0 mi_M_far := by
  refine ⟨Or.inl ⟨w_1310, rfl⟩, w_10, by decide +kernel, ⟨by decide +kernel, by decide +kernel⟩, by decide, by decide +kernel, pk_i (by decide +kernel) (pk_all (ks := [(0, .ldc2_w 126, 3, ([], .long 2)), (3, .ldc2_w 85, 3, ([], .long 4)), (21, .lreturn, 1, ([], .null))]) (by decide +kernel) ?_)⟩
  refine pk_c (pk_0 (Or.inr rfl) w_1189 (Or.inr rfl)) ?_
  refine pk_c (pk_0 (Or.inr rfl) w_1137 (Or.inr rfl)) ?_
  refine pk_c (pk_2 rfl rfl) ?_
  exact pk_n
theorem ok_M_sets {s0 : State} (hS : pm_Str s0) : pm_OKI s0 mi_M_sets := by
  refine ⟨Or.inl ⟨w_1314, rfl⟩, w_10, by decide +kernel, ⟨by decide +kernel, by decide +kernel⟩, by decide, by decide +kernel, pk_i (by decide +kernel) (pk_all (ks := [(2, .invokevirtual 81, 3, ([175, 2, 0, 10], .null)), (6, .getfield 36, 3, ([9, 12], .null)), (13, .getfield 39, 3, ([9, 13], .null)), (21, .getfield 42, 3, ([9, 14], .null)), (32, .getfield 45, 3, ([9, 15], .null)), (45, .return_, 1, ([], .null))]) (by decide +kernel) ?_)⟩
  refine pk_c (pk_4 lm_M_81) ?_
  refine pk_c (pk_0 (Or.inr rfl) ⟨9, 12, rfl, lf_M_36⟩ (Or.inr rfl)) ?_
  refine pk_c (pk_0 (Or.inr rfl) ⟨9, 13, rfl, lf_M_39⟩ (Or.inr rfl)) ?_
  refine pk_c (pk_0 (Or.inr rfl) ⟨9, 14, rfl, lf_M_42⟩ (Or.inr rfl)) ?_
  refine pk_c (pk_0 (Or.inr rfl) ⟨9, 15, rfl, lf_M_45⟩ (Or.inr rfl)) ?_
  refine pk_c (pk_2 rfl rfl) ?_
  exact pk_n
theorem ok_M_list {s0 : State} (hS : pm_Str s0) : pm_OKI s0 mi_M_list := by
  refine ⟨Or.inl ⟨w_1318, rfl⟩, w_10, by decide +kernel, ⟨by decide +kernel, by decide +kernel⟩, by decide, by decide +kernel, pk_i (by decide +kernel) (pk_all (ks := [(2, .putfield 78, 3, ([9, 10, 0], .null)), (8, .invokevirtual 157, 3, ([181, 2, 0, 10], .null)), (11, .ifCond .eq 83, 3, ([94], .null)), (16, .ldc2_w 176, 3, ([], .long (-1))), (19, .ldc2_w 155, 3, ([], .long 15)), (22, .invokestatic 87, 3, ([171, 3, 0, 0], .null)), (25, .ifCond .eq 69, 3, ([94], .null)), (32, .ldc2_w 118, 3, ([], .long 7)), (35, .invokestatic 87, 3, ([171, 3, 0, 0], .null)), (38, .ifCond .eq 56, 3, ([94], .null)), (45, .ldc2_w 91, 3, ([], .long 64)), (48, .invokestatic 87, 3, ([171, 3, 0, 0], .null)), (51, .ifCond .eq 43, 3, ([94], .null)), (58, .if_icmp .ne 29, 3, ([87], .null)), (65, .ldc2_w 235, 3, ([], .long 8)), (68, .invokestatic 87, 3, ([171, 3, 0, 0], .null)), (71, .ifCond .eq 23, 3, ([94], .null)), (78, .ldc2_w 235, 3, ([], .long 8)), (81, .invokestatic 87, 3, ([171, 3, 0, 0], .null)), (84, .ifCond .eq 10, 3, ([94], .null)), (88, .getfield 101, 3, ([9, 11], .null)), (91, .ifCond .ne 7, 3, ([98], .null)), (95, .goto 4, 3, ([99], .null)), (100, .invokevirtual 93, 3, ([172, 3, 0, 10], .null)), (103, .ifCond .eq 5, 3, ([108], .null)), (107, .ireturn, 1, ([], .null)), (112, .if_icmp .ne 14, 3, ([126], .null)), (123, .goto 5, 3, ([128], .null)), (138, .invokestatic 151, 3, ([189, 2, 0, 0], .null)), (157, .invokevirtual 228, 3, ([208, 5, 0, 10], .null)), (163, .getfield 78, 3, ([9, 10], .null)), (166, .ifCond .eq 5, 3, ([171], .null)), (170, .ireturn, 1, ([], .null)), (176, .invokevirtual 231, 3, ([214, 4, 0, 10], .null)), (180, .getfield 57, 3, ([9, 19], .null)), (188, .getfield 54, 3, ([9, 18], .null)), (199, .if_icmp .ne 59, 3, ([258], .null)), (203, .getfield 7, 3, ([9, 0], .null)), (243, .getfield 60, 3, ([9, 20], .null)), (251, .getfield 63, 3, ([9, 21], .null)), (259, .ireturn, 1, ([], .null))]) (by decide +kernel) ?_)⟩
  refine pk_c (pk_0 (Or.inr rfl) ⟨9, 10, 0, rfl, lp_M_78 _⟩ (Or.inr rfl)) ?_
  refine pk_c (pk_4 lm_M_157) ?_
  refine pk_c (pk_0 (Or.inr rfl) ⟨94, rfl, by decide⟩ (Or.inr rfl)) ?_
  refine pk_c (pk_0 (Or.inr rfl) w_1286 (Or.inr rfl)) ?_
  refine pk_c (pk_0 (Or.inr rfl) w_1184 (Or.inr rfl)) ?_
  refine pk_c (pk_4 lm_M_87) ?_
  refine pk_c (pk_0 (Or.inr rfl) ⟨94, rfl, by decide⟩ (Or.inr rfl)) ?_
  refine pk_c (pk_0 (Or.inr rfl) w_1191 (Or.inr rfl)) ?_
  refine pk_c (pk_4 lm_M_87) ?_
  refine pk_c (pk_0 (Or.inr rfl) ⟨94, rfl, by decide⟩ (Or.inr rfl)) ?_
  refine pk_c (pk_0 (Or.inr rfl) w_1141 (Or.inr rfl)) ?_
  refine pk_c (pk_4 lm_M_87) ?_
  refine pk_c (pk_0 (Or.inr rfl) ⟨94, rfl, by decide⟩ (Or.inr rfl)) ?_
  refine pk_c (pk_0 (Or.inr rfl) ⟨87, rfl, by decide⟩ (Or.inr rfl)) ?_
  refine pk_c (pk_0 (Or.inr rfl) w_1319 (Or.inr rfl)) ?_
  refine pk_c (pk_4 lm_M_87) ?_
  refine pk_c (pk_0 (Or.inr rfl) ⟨94, rfl, by decide⟩ (Or.inr rfl)) ?_
  refine pk_c (pk_0 (Or.inr rfl) w_1319 (Or.inr rfl)) ?_
  refine pk_c (pk_4 lm_M_87) ?_
  refine pk_c (pk_0 (Or.inr rfl) ⟨94, rfl, by decide⟩ (Or.inr rfl)) ?_
  refine pk_c (pk_0 (Or.inr rfl) ⟨9, 11, rfl, lf_M_101⟩ (Or.inr rfl)) ?_
  refine pk_c (pk_0 (Or.inr rfl) ⟨98, rfl, by decide⟩ (Or.inr rfl)) ?_
  refine pk_c (pk_0 (Or.inr rfl) ⟨99, rfl, by decide⟩ (Or.inr rfl)) ?_
  refine pk_c (pk_4 lm_M_93) ?_
  refine pk_c (pk_0 (Or.inr rfl) ⟨108, rfl, by decide⟩ (Or.inr rfl)) ?_
  refine pk_c (pk_2 rfl (Or.inl ⟨rfl, rfl⟩)) ?_
  refine pk_c (pk_0 (Or.inr rfl) ⟨126, rfl, by decide⟩ (Or.inr rfl)) ?_
  refine pk_c (pk_0 (Or.inr rfl) ⟨128, rfl, by decide⟩ (Or.inr rfl)) ?_
  refine pk_c (pk_4 lm_M_151) ?_
  refine pk_c (pk_4 lm_M_228) ?_
  refine pk_c (pk_0 (Or.inr rfl) ⟨9, 10, rfl, lf_M_78⟩ (Or.inr rfl)) ?_
  refine pk_c (pk_0 (Or.inr rfl) ⟨171, rfl, by decide⟩ (Or.inr rfl)) ?_
  refine pk_c (pk_2 rfl (Or.inl ⟨rfl, rfl⟩)) ?_
  refine pk_c (pk_4 lm_M_231) ?_
  refine pk_c (pk_0 (Or.inr rfl) ⟨9, 19, rfl, lf_M_57⟩ (Or.inr rfl)) ?_
  refine pk_c (pk_0 (Or.inr rfl) ⟨9, 18, rfl, lf_M_54⟩ (Or.inr rfl)) ?_
  refine pk_c (pk_0 (Or.inr rfl) ⟨258, rfl, by decide⟩ (Or.inr rfl)) ?_
  refine pk_c (pk_0 (Or.inr rfl) ⟨9, 0, rfl, lf_M_7⟩ (Or.inr rfl)) ?_
  refine pk_c (pk_0 (Or.inr rfl) ⟨9, 20, rfl, lf_M_60⟩ (Or.inr rfl)) ?_
  refine pk_c (pk_0 (Or.inr rfl) ⟨9, 21, rfl, lf_M_63⟩ (Or.inr rfl)) ?_
  refine pk_c (pk_2 rfl (Or.inl ⟨rfl, rfl⟩)) ?_
  exact pk_n
theorem ok_M_put {s0 : State} (hS : pm_Str s0) : pm_OKI s0 mi_M_put := by
  refine ⟨Or.inl ⟨w_1323, rfl⟩, w_10, by decide +kernel, ⟨by decide +kernel, by decide +kernel⟩, by decide, by decide +kernel, pk_i (by decide +kernel) (pk_all (ks := [(2, .putfield 78, 3, ([9, 10, 0], .null)), (8, .invokevirtual 157, 3, ([181, 2, 0, 10], .null)), (11, .ifCond .eq 21, 3, ([32], .null)), (15, .invokestatic 186, 3, ([196, 1, 0, 0], .null)), (18, .ifCond .eq 14, 3, ([32], .null)), (22, .ifCond .lt 10, 3, ([32], .null)), (26, .getfield 101, 3, ([9, 11], .null)), (29, .ifCond .ne 7, 3, ([36], .null)), (33, .goto 4, 3, ([37], .null)), (38, .invokevirtual 93, 3, ([172, 3, 0, 10], .null)), (41, .ifCond .eq 4, 3, ([45], .null)), (44, .return_, 1, ([], .null)), (46, .getfield 36, 3, ([9, 12], .null)), (52, .if_icmp .ne 7, 3, ([59], .null)), (56, .goto 4, 3, ([60], .null)), (64, .getfield 36, 3, ([9, 12], .null)), (69, .ifCond .eq 21, 3, ([90], .null)), (74, .ifCond .eq 20, 3, ([94], .null)), (78, .getfield 57, 3, ([9, 19], .null)), (83, .invokestatic 120, 3, ([190, 1, 0, 0], .null)), (87, .if_icmp .eq 7, 3, ([94], .null)), (91, .goto 4, 3, ([95], .null)), (96, .invokevirtual 93, 3, ([172, 3, 0, 10], .null)), (99, .ifCond .ne 49, 3, ([148], .null)), (105, .ifCond .eq 21, 3, ([126], .null)), (110, .getfield 54, 3, ([9, 18], .null)), (115, .if_icmp .lt 7, 3, ([122], .null)), (119, .goto 22, 3, ([141], .null)), (123, .goto 18, 3, ([141], .null)), (130, .invokevirtual 178, 3, ([198, 4, 0, 10], .null)), (133, .ifCond .ne 7, 3, ([140], .null)), (137, .goto 4, 3, ([141], .null)), (142, .invokevirtual 93, 3, ([172, 3, 0, 10], .null)), (145, .ifCond .eq 4, 3, ([149], .null)), (148, .return_, 1, ([], .null)), (152, .getfield 45, 3, ([9, 15], .null)), (164, .invokevirtual 237, 3, ([217, 5, 0, 10], .null)), (167, .return_, 1, ([], .null))]) (by decide +kernel) ?_)⟩
  refine pk_c (pk_0 (Or.inr rfl) ⟨9, 10, 0, rfl, lp_M_78 _⟩ (Or.inr rfl)) ?_
  refine pk_c (pk_4 lm_M_157) ?_
  refine pk_c (pk_0 (Or.inr rfl) ⟨32, rfl, by decide⟩ (Or.inr rfl)) ?_
  refine pk_c (pk_4 lm_M_186) ?_
  refine pk_c (pk_0 (Or.inr rfl) ⟨32, rfl, by decide⟩ (Or.inr rfl)) ?_
  refine pk_c (pk_0 (Or.inr rfl) ⟨32, rfl, by decide⟩ (Or.inr rfl)) ?_
  refine pk_c (pk_0 (Or.inr rfl) ⟨9, 11, rfl, lf_M_101⟩ (Or.inr rfl)) ?_
  refine pk_c (pk_0 (Or.inr rfl) ⟨36, rfl, by decide⟩ (Or.inr rfl)) ?_
  refine pk_c (pk_0 (Or.inr rfl) ⟨37, rfl, by decide⟩ (Or.inr rfl)) ?_
  refine pk_c (pk_4 lm_M_93) ?_
  refine pk_c (pk_0 (Or.inr rfl) ⟨45, rfl, by decide⟩ (Or.inr rfl)) ?_
  refine pk_c (pk_2 rfl rfl) ?_
  refine pk_c (pk_0 (Or.inr rfl) ⟨9, 12, rfl, lf_M_36⟩ (Or.inr rfl)) ?_
  refine pk_c (pk_0 (Or.inr rfl) ⟨59, rfl, by decide⟩ (Or.inr rfl)) ?_
  refine pk_c (pk_0 (Or.inr rfl) ⟨60, rfl, by decide⟩ (Or.inr rfl)) ?_
  refine pk_c (pk_0 (Or.inr rfl) ⟨9, 12, rfl, lf_M_36⟩ (Or.inr rfl)) ?_
  refine pk_c (pk_0 (Or.inr rfl) ⟨90, rfl, by decide⟩ (Or.inr rfl)) ?_
  refine pk_c (pk_0 (Or.inr rfl) ⟨94, rfl, by decide⟩ (Or.inr rfl)) ?_
  refine pk_c (pk_0 (Or.inr rfl) ⟨9, 19, rfl, lf_M_57⟩ (Or.inr rfl)) ?_
  refine pk_c (pk_4 lm_M_120) ?_
  refine pk_c (pk_0 (Or.inr rfl) ⟨94, rfl, by decide⟩ (Or.inr rfl)) ?_
  refine pk_c (pk_0 (Or.inr rfl) ⟨95, rfl, by decide⟩ (Or.inr rfl)) ?_
  refine pk_c (pk_4 lm_M_93) ?_
  refine pk_c (pk_0 (Or.inr rfl) ⟨148, rfl, by decide⟩ (Or.inr rfl)) ?_
  refine pk_c (pk_0 (Or.inr rfl) ⟨126, rfl, by decide⟩ (Or.inr rfl)) ?_
  refine pk_c (pk_0 (Or.inr rfl) ⟨9, 18, rfl, lf_M_54⟩ (Or.inr rfl)) ?_
  refine pk_c (pk_0 (Or.inr rfl) ⟨122, rfl, by decide⟩ (Or.inr rfl)) ?_
  refine pk_c (pk_0 (Or.inr rfl) ⟨141, rfl, by decide⟩ (Or.inr rfl)) ?_
  refine pk_c (pk_0 (Or.inr rfl) ⟨141, rfl, by decide⟩ (Or.inr rfl)) ?_
  refine pk_c (pk_4 lm_M_178) ?_
  refine pk_c (pk_0 (Or.inr rfl) ⟨140, rfl, by decide⟩ (Or.inr rfl)) ?_
  refine pk_c (pk_0 (Or.inr rfl) ⟨141, rfl, by decide⟩ (Or.inr rfl)) ?_
  refine pk_c (pk_4 lm_M_93) ?_
  refine pk_c (pk_0 (Or.inr rfl) ⟨149, rfl, by decide⟩ (Or.inr rfl)) ?_
  refine pk_c (pk_2 rfl rfl) ?_
  refine pk_c (pk_0 (Or.inr rfl) ⟨9, 15, rfl, lf_M_45⟩ (Or.inr rfl)) ?_
  refine pk_c (pk_4 lm_M_237) ?_
  refine pk_c (pk_2 rfl rfl) ?_
  exact pk_n
theorem ok_M_store {s0 : State} (hS : pm_Str s0) : pm_OKI s0 mi_M_store := by
  refine ⟨Or.inl ⟨w_1327, rfl⟩, w_10, by decide +kernel, ⟨by decide +kernel, by decide +kernel⟩, by decide, by decide +kernel, pk_i (by decide +kernel) (pk_all (ks := [(3, .getfield 42, 3, ([9, 14], .null)), (19, .if_icmp .ne 9, 3, ([28], .null)), (22, .ldc2_w 176, 3, ([], .long (-1))), (25, .goto 8, 3, ([33], .null)), (36, .getfield 7, 3, ([9, 0], .null)), (42, .getfield 7, 3, ([9, 0], .null)), (55, .ldc2_w 176, 3, ([], .long (-1))), (72, .return_, 1, ([], .null))]) (by decide +kernel) ?_)⟩
  refine pk_c (pk_0 (Or.inr rfl) ⟨9, 14, rfl, lf_M_42⟩ (Or.inr rfl)) ?_
  refine pk_c (pk_0 (Or.inr rfl) ⟨28, rfl, by decide⟩ (Or.inr rfl)) ?_
  refine pk_c (pk_0 (Or.inr rfl) w_1286 (Or.inr rfl)) ?_
  refine pk_c (pk_0 (Or.inr rfl) ⟨33, rfl, by decide⟩ (Or.inr rfl)) ?_
  refine pk_c (pk_0 (Or.inr rfl) ⟨9, 0, rfl, lf_M_7⟩ (Or.inr rfl)) ?_
  refine pk_c (pk_0 (Or.inr rfl) ⟨9, 0, rfl, lf_M_7⟩ (Or.inr rfl)) ?_
  refine pk_c (pk_0 (Or.inr rfl) w_1286 (Or.inr rfl)) ?_
  refine pk_c (pk_2 rfl rfl) ?_
  exact pk_n
theorem ok_M_putReal {s0 : State} (hS : pm_Str s0) : pm_OKI s0 mi_M_putReal := by
  refine ⟨Or.inl ⟨w_1331, rfl⟩, w_10, by decide +kernel, ⟨by decide +kernel, by decide +kernel⟩, by decide, by decide +kernel, pk_i (by decide +kernel) (pk_all (ks := [(2, .putfield 78, 3, ([9, 10, 0], .null)), (6, .ifCond .eq 8, 3, ([14], .null)), (11, .goto 5, 3, ([16], .null)), (21, .invokevirtual 157, 3, ([181, 2, 0, 10], .null)), (24, .ifCond .eq 14, 3, ([38], .null)), (28, .ifCond .lt 10, 3, ([38], .null)), (32, .getfield 101, 3, ([9, 11], .null)), (35, .ifCond .ne 7, 3, ([42], .null)), (39, .goto 4, 3, ([43], .null)), (44, .invokevirtual 93, 3, ([172, 3, 0, 10], .null)), (47, .ifCond .ne 50, 3, ([97], .null)), (52, .getfield 36, 3, ([9, 12], .null)), (58, .if_icmp .eq 7, 3, ([65], .null)), (62, .goto 4, 3, ([66], .null)), (67, .invokevirtual 93, 3, ([172, 3, 0, 10], .null)), (70, .ifCond .ne 27, 3, ([97], .null)), (79, .invokevirtual 178, 3, ([198, 4, 0, 10], .null)), (82, .ifCond .ne 7, 3, ([89], .null)), (86, .goto 4, 3, ([90], .null)), (91, .invokevirtual 93, 3, ([172, 3, 0, 10], .null)), (94, .ifCond .eq 4, 3, ([98], .null)), (97, .return_, 1, ([], .null)), (101, .getfield 45, 3, ([9, 15], .null)), (114, .ifCond .eq 15, 3, ([129], .null)), (123, .invokestatic 241, 3, ([219, 3, 0, 0], .null)), (126, .goto 14, 3, ([140], .null)), (137, .invokestatic 241, 3, ([219, 3, 0, 0], .null)), (140, .invokevirtual 237, 3, ([217, 5, 0, 10], .null)), (143, .return_, 1, ([], .null))]) (by decide +kernel) ?_)⟩
  refine pk_c (pk_0 (Or.inr rfl) ⟨9, 10, 0, rfl, lp_M_78 _⟩ (Or.inr rfl)) ?_
  refine pk_c (pk_0 (Or.inr rfl) ⟨14, rfl, by decide⟩ (Or.inr rfl)) ?_
  refine pk_c (pk_0 (Or.inr rfl) ⟨16, rfl, by decide⟩ (Or.inr rfl)) ?_
  refine pk_c (pk_4 lm_M_157) ?_
  refine pk_c (pk_0 (Or.inr rfl) ⟨38, rfl, by decide⟩ (Or.inr rfl)) ?_
  refine pk_c (pk_0 (Or.inr rfl) ⟨38, rfl, by decide⟩ (Or.inr rfl)) ?_
  refine pk_c (pk_0 (Or.inr rfl) ⟨9, 11, rfl, lf_M_101⟩ (Or.inr rfl)) ?_
  refine pk_c (pk_0 (Or.inr rfl) ⟨42, rfl, by decide⟩ (Or.inr rfl)) ?_
  refine pk_c (pk_0 (Or.inr rfl) ⟨43, rfl, by decide⟩ (Or.inr rfl)) ?_
  refine pk_c (pk_4 lm_M_93) ?_
  refine pk_c (pk_0 (Or.inr rfl) ⟨97, rfl, by decide⟩ (Or.inr rfl)) ?_
  refine pk_c (pk_0 (Or.inr rfl) ⟨9, 12, rfl, lf_M_36⟩ (Or.inr rfl)) ?_
  refine pk_c (pk_0 (Or.inr rfl) ⟨65, rfl, by decide⟩ (Or.inr rfl)) ?_
  refine pk_c (pk_0 (Or.inr rfl) ⟨66, rfl, by decide⟩ (Or.inr rfl)) ?_
  refine pk_c (pk_4 lm_M_93) ?_
  refine pk_c (pk_0 (Or.inr rfl) ⟨97, rfl, by decide⟩ (Or.inr rfl)) ?_
  refine pk_c (pk_4 lm_M_178) ?_
  refine pk_c (pk_0 (Or.inr rfl) ⟨89, rfl, by decide⟩ (Or.inr rfl)) ?_
  refine pk_c (pk_0 (Or.inr rfl) ⟨90, rfl, by decide⟩ (Or.inr rfl)) ?_
  refine pk_c (pk_4 lm_M_93) ?_
  refine pk_c (pk_0 (Or.inr rfl) ⟨98, rfl, by decide⟩ (Or.inr rfl)) ?_
  refine pk_c (pk_2 rfl rfl) ?_
  refine pk_c (pk_0 (Or.inr rfl) ⟨9, 15, rfl, lf_M_45⟩ (Or.inr rfl)) ?_
  refine pk_c (pk_0 (Or.inr rfl) ⟨129, rfl, by decide⟩ (Or.inr rfl)) ?_
  refine pk_c (pk_4 lm_M_241) ?_
  refine pk_c (pk_0 (Or.inr rfl) ⟨140, rfl, by decide⟩ (Or.inr rfl)) ?_
  refine pk_c (pk_4 lm_M_241) ?_
  refine pk_c (pk_4 lm_M_237) ?_
  refine pk_c (pk_2 rfl rfl) ?_
  exact pk_n
theorem ok_M_bitsOfReal {s0 : State} (hS : pm_Str s0) : pm_OKI s0 mi_M_bitsOfReal := by
  refine ⟨Or.inl ⟨w_1334, rfl⟩, w_10, by decide +kernel, ⟨by decide +kernel, by decide +kernel⟩, by decide, by decide +kernel, pk_i (by decide +kernel) (pk_all (ks := [(3, .ifCond .ne 5, 3, ([8], .null)), (7, .lreturn, 1, ([], .null)), (11, .ifCond .ge 8, 3, ([19], .null)), (16, .goto 4, 3, ([20], .null)), (27, .ldc2_w 195, 3, ([], .double 4611686018427387904)), (31, .ifCond .lt 17, 3, ([48], .null)), (36, .ldc2_w 195, 3, ([], .double 4611686018427387904)), (45, .goto (-20), 3, ([25], .null)), (52, .ifCond .ge 17, 3, ([69], .null)), (57, .ldc2_w 195, 3, ([], .double 4611686018427387904)), (66, .goto (-18), 3, ([48], .null)), (84, .ifCond .ge 7, 3, ([91], .null)), (88, .goto 4, 3, ([92], .null)), (113, .lreturn, 1, ([], .null))]) (by decide +kernel) ?_)⟩
  refine pk_c (pk_0 (Or.inr rfl) ⟨8, rfl, by decide⟩ (Or.inr rfl)) ?_
  refine pk_c (pk_2 rfl rfl) ?_
  refine pk_c (pk_0 (Or.inr rfl) ⟨19, rfl, by decide⟩ (Or.inr rfl)) ?_
  refine pk_c (pk_0 (Or.inr rfl) ⟨20, rfl, by decide⟩ (Or.inr rfl)) ?_
  refine pk_c (pk_0 (Or.inr rfl) w_1269 (Or.inr rfl)) ?_
  refine pk_c (pk_0 (Or.inr rfl) ⟨48, rfl, by decide⟩ (Or.inr rfl)) ?_
  refine pk_c (pk_0 (Or.inr rfl) w_1269 (Or.inr rfl)) ?_
  refine pk_c (pk_0 (Or.inr rfl) ⟨25, rfl, by decide⟩ (Or.inr rfl)) ?_
  refine pk_c (pk_0 (Or.inr rfl) ⟨69, rfl, by decide⟩ (Or.inr rfl)) ?_
  refine pk_c (pk_0 (Or.inr rfl) w_1269 (Or.inr rfl)) ?_
  refine pk_c (pk_0 (Or.inr rfl) ⟨48, rfl, by decide⟩ (Or.inr rfl)) ?_
  refine pk_c (pk_0 (Or.inr rfl) ⟨91, rfl, by decide⟩ (Or.inr rfl)) ?_
  refine pk_c (pk_0 (Or.inr rfl) ⟨92, rfl, by decide⟩ (Or.inr rfl)) ?_
  refine pk_c (pk_2 rfl rfl) ?_
  exact pk_n
theorem ok_M_pack {s0 : State} (hS : pm_Str s0) : pm_OKI s0 mi_M_pack := by
  refine ⟨Or.inl ⟨w_1338, rfl⟩, w_10, by decide +kernel, ⟨by decide +kernel, by decide +kernel⟩, by decide, by decide +kernel, pk_i (by decide +kernel) (pk_all (ks := [(2, .putfield 78, 3, ([9, 10, 0], .null)), (6, .invokevirtual 245, 3, ([221, 1, 0, 10], .null)), (16, .if_icmp .ge 207, 3, ([223], .null)), (20, .getfield 16, 3, ([9, 2], .null)), (46, .if_icmp .ge 57, 3, ([103], .null)), (57, .ldc2_w 199, 3, ([], .long 255)), (63, .ifCond .eq 34, 3, ([97], .null)), (76, .getfield 26, 3, ([9, 5], .null)), (88, .ldc2_w 199, 3, ([], .long 255)), (100, .goto (-58), 3, ([42], .null)), (104, .getfield 26, 3, ([9, 5], .null)), (117, .ifCond .eq 14, 3, ([131], .null)), (125, .if_icmp .eq 6, 3, ([131], .null)), (128, .goto (-114), 3, ([14], .null)), (139, .if_icmp .ge 72, 3, ([211], .null)), (147, .if_icmp .ge 64, 3, ([211], .null)), (152, .ifCond .ne 17, 3, ([169], .null)), (156, .getfield 16, 3, ([9, 2], .null)), (163, .ifCond .ne 48, 3, ([211], .null)), (166, .goto 16, 3, ([182], .null)), (170, .getfield 16, 3, ([9, 2], .null)), (175, .invokestatic 249, 3, ([222, 1, 0, 0], .null)), (179, .if_icmp .ge 32, 3, ([211], .null)), (187, .if_icmp .ne 15, 3, ([202], .null)), (193, .getfield 16, 3, ([9, 2], .null)), (198, .invokevirtual 252, 3, ([223, 3, 0, 10], .null)), (208, .goto (-71), 3, ([137], .null)), (212, .getfield 26, 3, ([9, 5], .null)), (220, .goto (-206), 3, ([14], .null)), (228, .if_icmp .le 7, 3, ([235], .null)), (232, .goto 4, 3, ([236], .null)), (237, .invokevirtual 93, 3, ([172, 3, 0, 10], .null)), (240, .ifCond .eq 5, 3, ([245], .null)), (244, .ireturn, 1, ([], .null)), (251, .if_icmp .ge 23, 3, ([274], .null)), (255, .getfield 23, 3, ([9, 4], .null)), (261, .getfield 26, 3, ([9, 5], .null)), (271, .goto (-23), 3, ([248], .null)), (276, .putfield 256, 3, ([9, 7, 0], .null)), (280, .getfield 256, 3, ([9, 7], .null)), (283, .ireturn, 1, ([], .null))]) (by decide +kernel) ?_)⟩
  refine pk_c (pk_0 (Or.inr rfl) ⟨9, 10, 0, rfl, lp_M_78 _⟩ (Or.inr rfl)) ?_
  refine pk_c (pk_4 lm_M_245) ?_
  refine pk_c (pk_0 (Or.inr rfl) ⟨223, rfl, by decide⟩ (Or.inr rfl)) ?_
  refine pk_c (pk_0 (Or.inr rfl) ⟨9, 2, rfl, lf_M_16⟩ (Or.inr rfl)) ?_
  refine pk_c (pk_0 (Or.inr rfl) ⟨103, rfl, by decide⟩ (Or.inr rfl)) ?_
  refine pk_c (pk_0 (Or.inr rfl) w_1265 (Or.inr rfl)) ?_
  refine pk_c (pk_0 (Or.inr rfl) ⟨97, rfl, by decide⟩ (Or.inr rfl)) ?_
  refine pk_c (pk_0 (Or.inr rfl) ⟨9, 5, rfl, lf_M_26⟩ (Or.inr rfl)) ?_
  refine pk_c (pk_0 (Or.inr rfl) w_1265 (Or.inr rfl)) ?_
  refine pk_c (pk_0 (Or.inr rfl) ⟨42, rfl, by decide⟩ (Or.inr rfl)) ?_
  refine pk_c (pk_0 (Or.inr rfl) ⟨9, 5, rfl, lf_M_26⟩ (Or.inr rfl)) ?_
  refine pk_c (pk_0 (Or.inr rfl) ⟨131, rfl, by decide⟩ (Or.inr rfl)) ?_
  refine pk_c (pk_0 (Or.inr rfl) ⟨131, rfl, by decide⟩ (Or.inr rfl)) ?_
  refine pk_c (pk_0 (Or.inr rfl) ⟨14, rfl, by decide⟩ (Or.inr rfl)) ?_
  refine pk_c (pk_0 (Or.inr rfl) ⟨211, rfl, by decide⟩ (Or.inr rfl)) ?_
  refine pk_c (pk_0 (Or.inr rfl) ⟨211, rfl, by decide⟩ (Or.inr rfl)) ?_
  refine pk_c (pk_0 (Or.inr rfl) ⟨169, rfl, by decide⟩ (Or.inr rfl)) ?_
  refine pk_c (pk_0 (Or.inr rfl) ⟨9, 2, rfl, lf_M_16⟩ (Or.inr rfl)) ?_
  refine pk_c (pk_0 (Or.inr rfl) ⟨211, rfl, by decide⟩ (Or.inr rfl)) ?_
  refine pk_c (pk_0 (Or.inr rfl) ⟨182, rfl, by decide⟩ (Or.inr rfl)) ?_
  refine pk_c (pk_0 (Or.inr rfl) ⟨9, 2, rfl, lf_M_16⟩ (Or.inr rfl)) ?_
  refine pk_c (pk_4 lm_M_249) ?_
  refine pk_c (pk_0 (Or.inr rfl) ⟨211, rfl, by decide⟩ (Or.inr rfl)) ?_
  refine pk_c (pk_0 (Or.inr rfl) ⟨202, rfl, by decide⟩ (Or.inr rfl)) ?_
  refine pk_c (pk_0 (Or.inr rfl) ⟨9, 2, rfl, lf_M_16⟩ (Or.inr rfl)) ?_
  refine pk_c (pk_4 lm_M_252) ?_
  refine pk_c (pk_0 (Or.inr rfl) ⟨137, rfl, by decide⟩ (Or.inr rfl)) ?_
  refine pk_c (pk_0 (Or.inr rfl) ⟨9, 5, rfl, lf_M_26⟩ (Or.inr rfl)) ?_
  refine pk_c (pk_0 (Or.inr rfl) ⟨14, rfl, by decide⟩ (Or.inr rfl)) ?_
  refine pk_c (pk_0 (Or.inr rfl) ⟨235, rfl, by decide⟩ (Or.inr rfl)) ?_
  refine pk_c (pk_0 (Or.inr rfl) ⟨236, rfl, by decide⟩ (Or.inr rfl)) ?_
  refine pk_c (pk_4 lm_M_93) ?_
  refine pk_c (pk_0 (Or.inr rfl) ⟨245, rfl, by decide⟩ (Or.inr rfl)) ?_
  refine pk_c (pk_2 rfl (Or.inl ⟨rfl, rfl⟩)) ?_
  refine pk_c (pk_0 (Or.inr rfl) ⟨274, rfl, by decide⟩ (Or.inr rfl)) ?_
  refine pk_c (pk_0 (Or.inr rfl) ⟨9, 4, rfl, lf_M_23⟩ (Or.inr rfl)) ?_
  refine pk_c (pk_0 (Or.inr rfl) ⟨9, 5, rfl, lf_M_26⟩ (Or.inr rfl)) ?_
  refine pk_c (pk_0 (Or.inr rfl) ⟨248, rfl, by decide⟩ (Or.inr rfl)) ?_
  refine pk_c (pk_0 (Or.inr rfl) ⟨9, 7, 0, rfl, lp_M_256 _⟩ (Or.inr rfl)) ?_
  refine pk_c (pk_0 (Or.inr rfl) ⟨9, 7, rfl, lf_M_256⟩ (Or.inr rfl)) ?_
  refine pk_c (pk_2 rfl (Or.inl ⟨rfl, rfl⟩)) ?_
  exact pk_n
theorem ok_M_framed {s0 : State} (hS : pm_Str s0) : pm_OKI s0 mi_M_framed := by
  refine ⟨Or.inl ⟨w_1342, rfl⟩, w_10, by decide +kernel, ⟨by decide +kernel, by decide +kernel⟩, by decide, by decide +kernel, pk_i (by decide +kernel) (pk_all (ks := [(3, .getfield 29, 3, ([9, 6], .null)), (16, .getfield 29, 3, ([9, 6], .null)), (19, .if_icmp .ge 52, 3, ([71], .null)), (26, .ifCond .ne 30, 3, ([56], .null)), (30, .getfield 16, 3, ([9, 2], .null)), (36, .getfield 19, 3, ([9, 3], .null)), (53, .goto 12, 3, ([65], .null)), (57, .getfield 19, 3, ([9, 3], .null)), (68, .goto (-55), 3, ([13], .null)), (72, .getfield 29, 3, ([9, 6], .null)), (77, .ifCond .ne 13, 3, ([90], .null)), (81, .getfield 16, 3, ([9, 2], .null)), (96, .getfield 29, 3, ([9, 6], .null)), (99, .if_icmp .ge 52, 3, ([151], .null)), (108, .getfield 19, 3, ([9, 3], .null)), (114, .if_icmp .ge 31, 3, ([145], .null)), (118, .getfield 16, 3, ([9, 2], .null)), (123, .getfield 7, 3, ([9, 0], .null)), (142, .goto (-37), 3, ([105], .null)), (148, .goto (-55), 3, ([93], .null)), (152, .ireturn, 1, ([], .null))]) (by decide +kernel) ?_)⟩
  refine pk_c (pk_0 (Or.inr rfl) ⟨9, 6, rfl, lf_M_29⟩ (Or.inr rfl)) ?_
  refine pk_c (pk_0 (Or.inr rfl) ⟨9, 6, rfl, lf_M_29⟩ (Or.inr rfl)) ?_
  refine pk_c (pk_0 (Or.inr rfl) ⟨71, rfl, by decide⟩ (Or.inr rfl)) ?_
  refine pk_c (pk_0 (Or.inr rfl) ⟨56, rfl, by decide⟩ (Or.inr rfl)) ?_
  refine pk_c (pk_0 (Or.inr rfl) ⟨9, 2, rfl, lf_M_16⟩ (Or.inr rfl)) ?_
  refine pk_c (pk_0 (Or.inr rfl) ⟨9, 3, rfl, lf_M_19⟩ (Or.inr rfl)) ?_
  refine pk_c (pk_0 (Or.inr rfl) ⟨65, rfl, by decide⟩ (Or.inr rfl)) ?_
  refine pk_c (pk_0 (Or.inr rfl) ⟨9, 3, rfl, lf_M_19⟩ (Or.inr rfl)) ?_
  refine pk_c (pk_0 (Or.inr rfl) ⟨13, rfl, by decide⟩ (Or.inr rfl)) ?_
  refine pk_c (pk_0 (Or.inr rfl) ⟨9, 6, rfl, lf_M_29⟩ (Or.inr rfl)) ?_
  refine pk_c (pk_0 (Or.inr rfl) ⟨90, rfl, by decide⟩ (Or.inr rfl)) ?_
  refine pk_c (pk_0 (Or.inr rfl) ⟨9, 2, rfl, lf_M_16⟩ (Or.inr rfl)) ?_
  refine pk_c (pk_0 (Or.inr rfl) ⟨9, 6, rfl, lf_M_29⟩ (Or.inr rfl)) ?_
  refine pk_c (pk_0 (Or.inr rfl) ⟨151, rfl, by decide⟩ (Or.inr rfl)) ?_
  refine pk_c (pk_0 (Or.inr rfl) ⟨9, 3, rfl, lf_M_19⟩ (Or.inr rfl)) ?_
  refine pk_c (pk_0 (Or.inr rfl) ⟨145, rfl, by decide⟩ (Or.inr rfl)) ?_
  refine pk_c (pk_0 (Or.inr rfl) ⟨9, 2, rfl, lf_M_16⟩ (Or.inr rfl)) ?_
  refine pk_c (pk_0 (Or.inr rfl) ⟨9, 0, rfl, lf_M_7⟩ (Or.inr rfl)) ?_
  refine pk_c (pk_0 (Or.inr rfl) ⟨105, rfl, by decide⟩ (Or.inr rfl)) ?_
  refine pk_c (pk_0 (Or.inr rfl) ⟨93, rfl, by decide⟩ (Or.inr rfl)) ?_
  refine pk_c (pk_2 rfl (Or.inl ⟨rfl, rfl⟩)) ?_
  exact pk_n
theorem ok_M_zeros {s0 : State} (hS : pm_Str s0) : pm_OKI s0 mi_M_zeros := by
  refine ⟨Or.inl ⟨w_1345, rfl⟩, w_10, by decide +kernel, ⟨by decide +kernel, by decide +kernel⟩, by decide, by decide +kernel, pk_i (by decide +kernel) (pk_all (ks := [(7, .if_icmp .ge 27, 3, ([34], .null)), (16, .ldc2_w 199, 3, ([], .long 255)), (22, .ifCond .ne 6, 3, ([28], .null)), (31, .goto (-27), 3, ([4], .null)), (35, .ireturn, 1, ([], .null))]) (by decide +kernel) ?_)⟩
  refine pk_c (pk_0 (Or.inr rfl) ⟨34, rfl, by decide⟩ (Or.inr rfl)) ?_
  refine pk_c (pk_0 (Or.inr rfl) w_1265 (Or.inr rfl)) ?_
  refine pk_c (pk_0 (Or.inr rfl) ⟨28, rfl, by decide⟩ (Or.inr rfl)) ?_
  refine pk_c (pk_0 (Or.inr rfl) ⟨4, rfl, by decide⟩ (Or.inr rfl)) ?_
  refine pk_c (pk_2 rfl (Or.inl ⟨rfl, rfl⟩)) ?_
  exact pk_n
theorem ok_M_whole {s0 : State} (hS : pm_Str s0) : pm_OKI s0 mi_M_whole := by
  refine ⟨Or.inl ⟨w_1349, rfl⟩, w_10, by decide +kernel, ⟨by decide +kernel, by decide +kernel⟩, by decide, by decide +kernel, pk_i (by decide +kernel) (pk_all (ks := [(7, .if_icmp .ge 30, 3, ([37], .null)), (11, .getfield 26, 3, ([9, 5], .null)), (25, .ldc2_w 199, 3, ([], .long 255)), (34, .goto (-31), 3, ([3], .null)), (41, .ireturn, 1, ([], .null))]) (by decide +kernel) ?_)⟩
  refine pk_c (pk_0 (Or.inr rfl) ⟨37, rfl, by decide⟩ (Or.inr rfl)) ?_
  refine pk_c (pk_0 (Or.inr rfl) ⟨9, 5, rfl, lf_M_26⟩ (Or.inr rfl)) ?_
  refine pk_c (pk_0 (Or.inr rfl) w_1265 (Or.inr rfl)) ?_
  refine pk_c (pk_0 (Or.inr rfl) ⟨3, rfl, by decide⟩ (Or.inr rfl)) ?_
  refine pk_c (pk_2 rfl (Or.inl ⟨rfl, rfl⟩)) ?_
  exact pk_n
theorem ok_M_octet {s0 : State} (hS : pm_Str s0) : pm_OKI s0 mi_M_octet := by
  refine ⟨Or.inl ⟨w_1353, rfl⟩, w_10, by decide +kernel, ⟨by decide +kernel, by decide +kernel⟩, by decide, by decide +kernel, pk_i (by decide +kernel) (pk_all (ks := [(2, .putfield 78, 3, ([9, 10, 0], .null)), (10, .getfield 256, 3, ([9, 7], .null)), (16, .invokestatic 87, 3, ([171, 3, 0, 0], .null)), (19, .ifCond .ne 7, 3, ([26], .null)), (23, .goto 4, 3, ([27], .null)), (28, .invokevirtual 93, 3, ([172, 3, 0, 10], .null)), (31, .ifCond .eq 7, 3, ([38], .null)), (35, .goto 9, 3, ([44], .null)), (39, .getfield 23, 3, ([9, 4], .null)), (44, .ireturn, 1, ([], .null))]) (by decide +kernel) ?_)⟩
  refine pk_c (pk_0 (Or.inr rfl) ⟨9, 10, 0, rfl, lp_M_78 _⟩ (Or.inr rfl)) ?_
  refine pk_c (pk_0 (Or.inr rfl) ⟨9, 7, rfl, lf_M_256⟩ (Or.inr rfl)) ?_
  refine pk_c (pk_4 lm_M_87) ?_
  refine pk_c (pk_0 (Or.inr rfl) ⟨26, rfl, by decide⟩ (Or.inr rfl)) ?_
  refine pk_c (pk_0 (Or.inr rfl) ⟨27, rfl, by decide⟩ (Or.inr rfl)) ?_
  refine pk_c (pk_4 lm_M_93) ?_
  refine pk_c (pk_0 (Or.inr rfl) ⟨38, rfl, by decide⟩ (Or.inr rfl)) ?_
  refine pk_c (pk_0 (Or.inr rfl) ⟨44, rfl, by decide⟩ (Or.inr rfl)) ?_
  refine pk_c (pk_0 (Or.inr rfl) ⟨9, 4, rfl, lf_M_23⟩ (Or.inr rfl)) ?_
  refine pk_c (pk_2 rfl (Or.inl ⟨rfl, rfl⟩)) ?_
  exact pk_n
theorem ok_M_feed {s0 : State} (hS : pm_Str s0) : pm_OKI s0 mi_M_feed := by
  refine ⟨Or.inl ⟨w_1357, rfl⟩, w_10, by decide +kernel, ⟨by decide +kernel, by decide +kernel⟩, by decide, by decide +kernel, pk_i (by decide +kernel) (pk_all (ks := [(2, .putfield 78, 3, ([9, 10, 0], .null)), (9, .ldc2_w 235, 3, ([], .long 8)), (12, .invokestatic 87, 3, ([171, 3, 0, 0], .null)), (15, .ifCond .ne 7, 3, ([22], .null)), (19, .goto 4, 3, ([23], .null)), (24, .invokevirtual 93, 3, ([172, 3, 0, 10], .null)), (27, .ifCond .ne 28, 3, ([55], .null)), (32, .getfield 256, 3, ([9, 7], .null)), (40, .if_icmp .le 7, 3, ([47], .null)), (44, .goto 4, 3, ([48], .null)), (49, .invokevirtual 93, 3, ([172, 3, 0, 10], .null)), (52, .ifCond .eq 5, 3, ([57], .null)), (56, .ireturn, 1, ([], .null)), (63, .if_icmp .ge 33, 3, ([96], .null)), (67, .getfield 23, 3, ([9, 4], .null)), (71, .getfield 256, 3, ([9, 7], .null)), (84, .ldc2_w 199, 3, ([], .long 255)), (93, .goto (-33), 3, ([60], .null)), (98, .getfield 256, 3, ([9, 7], .null)), (103, .putfield 256, 3, ([9, 7, 0], .null)), (107, .getfield 256, 3, ([9, 7], .null)), (110, .ireturn, 1, ([], .null))]) (by decide +kernel) ?_)⟩
  refine pk_c (pk_0 (Or.inr rfl) ⟨9, 10, 0, rfl, lp_M_78 _⟩ (Or.inr rfl)) ?_
  refine pk_c (pk_0 (Or.inr rfl) w_1319 (Or.inr rfl)) ?_
  refine pk_c (pk_4 lm_M_87) ?_
  refine pk_c (pk_0 (Or.inr rfl) ⟨22, rfl, by decide⟩ (Or.inr rfl)) ?_
  refine pk_c (pk_0 (Or.inr rfl) ⟨23, rfl, by decide⟩ (Or.inr rfl)) ?_
  refine pk_c (pk_4 lm_M_93) ?_
  refine pk_c (pk_0 (Or.inr rfl) ⟨55, rfl, by decide⟩ (Or.inr rfl)) ?_
  refine pk_c (pk_0 (Or.inr rfl) ⟨9, 7, rfl, lf_M_256⟩ (Or.inr rfl)) ?_
  refine pk_c (pk_0 (Or.inr rfl) ⟨47, rfl, by decide⟩ (Or.inr rfl)) ?_
  refine pk_c (pk_0 (Or.inr rfl) ⟨48, rfl, by decide⟩ (Or.inr rfl)) ?_
  refine pk_c (pk_4 lm_M_93) ?_
  refine pk_c (pk_0 (Or.inr rfl) ⟨57, rfl, by decide⟩ (Or.inr rfl)) ?_
  refine pk_c (pk_2 rfl (Or.inl ⟨rfl, rfl⟩)) ?_
  refine pk_c (pk_0 (Or.inr rfl) ⟨96, rfl, by decide⟩ (Or.inr rfl)) ?_
  refine pk_c (pk_0 (Or.inr rfl) ⟨9, 4, rfl, lf_M_23⟩ (Or.inr rfl)) ?_
  refine pk_c (pk_0 (Or.inr rfl) ⟨9, 7, rfl, lf_M_256⟩ (Or.inr rfl)) ?_
  refine pk_c (pk_0 (Or.inr rfl) w_1265 (Or.inr rfl)) ?_
  refine pk_c (pk_0 (Or.inr rfl) ⟨60, rfl, by decide⟩ (Or.inr rfl)) ?_
  refine pk_c (pk_0 (Or.inr rfl) ⟨9, 7, rfl, lf_M_256⟩ (Or.inr rfl)) ?_
  refine pk_c (pk_0 (Or.inr rfl) ⟨9, 7, 0, rfl, lp_M_256 _⟩ (Or.inr rfl)) ?_
  refine pk_c (pk_0 (Or.inr rfl) ⟨9, 7, rfl, lf_M_256⟩ (Or.inr rfl)) ?_
  refine pk_c (pk_2 rfl (Or.inl ⟨rfl, rfl⟩)) ?_
  exact pk_n
theorem ok_M_drop {s0 : State} (hS : pm_Str s0) : pm_OKI s0 mi_M_drop := by
  refine ⟨Or.inl ⟨w_1361, rfl⟩, w_10, by decide +kernel, ⟨by decide +kernel, by decide +kernel⟩, by decide, by decide +kernel, pk_i (by decide +kernel) (pk_all (ks := [(2, .putfield 78, 3, ([9, 10, 0], .null)), (6, .getfield 256, 3, ([9, 7], .null)), (12, .putfield 256, 3, ([9, 7, 0], .null)), (16, .ireturn, 1, ([], .null))]) (by decide +kernel) ?_)⟩
  refine pk_c (pk_0 (Or.inr rfl) ⟨9, 10, 0, rfl, lp_M_78 _⟩ (Or.inr rfl)) ?_
  refine pk_c (pk_0 (Or.inr rfl) ⟨9, 7, rfl, lf_M_256⟩ (Or.inr rfl)) ?_
  refine pk_c (pk_0 (Or.inr rfl) ⟨9, 7, 0, rfl, lp_M_256 _⟩ (Or.inr rfl)) ?_
  refine pk_c (pk_2 rfl (Or.inl ⟨rfl, rfl⟩)) ?_
  exact pk_n
theorem ok_M_take {s0 : State} (hS : pm_Str s0) : pm_OKI s0 mi_M_take := by
  refine ⟨Or.inl ⟨w_1365, rfl⟩, w_10, by decide +kernel, ⟨by decide +kernel, by decide +kernel⟩, by decide, by decide +kernel, pk_i (by decide +kernel) (pk_all (ks := [(2, .putfield 78, 3, ([9, 10, 0], .null)), (6, .invokevirtual 264, 3, ([228, 1, 0, 10], .null)), (13, .if_icmp .ge 7, 3, ([20], .null)), (17, .goto 4, 3, ([21], .null)), (22, .invokevirtual 93, 3, ([172, 3, 0, 10], .null)), (25, .ifCond .eq 5, 3, ([30], .null)), (29, .ireturn, 1, ([], .null)), (32, .invokevirtual 267, 3, ([230, 2, 0, 10], .null)), (40, .ldc2_w 85, 3, ([], .long 4)), (44, .ifCond .le 7, 3, ([51], .null)), (48, .goto 4, 3, ([52], .null)), (53, .invokevirtual 93, 3, ([172, 3, 0, 10], .null)), (56, .ifCond .eq 5, 3, ([61], .null)), (60, .ireturn, 1, ([], .null)), (77, .if_icmp .ge 7, 3, ([84], .null)), (81, .goto 4, 3, ([85], .null)), (86, .invokevirtual 93, 3, ([172, 3, 0, 10], .null)), (89, .ifCond .eq 5, 3, ([94], .null)), (93, .ireturn, 1, ([], .null)), (106, .if_icmp .ge 52, 3, ([158], .null)), (116, .invokevirtual 267, 3, ([230, 2, 0, 10], .null)), (128, .invokevirtual 267, 3, ([230, 2, 0, 10], .null)), (131, .ldc2_w 91, 3, ([], .long 64)), (135, .ifCond .le 7, 3, ([142], .null)), (139, .goto 4, 3, ([143], .null)), (144, .invokevirtual 93, 3, ([172, 3, 0, 10], .null)), (147, .ifCond .eq 5, 3, ([152], .null)), (151, .ireturn, 1, ([], .null)), (155, .goto (-53), 3, ([102], .null)), (164, .ifCond .eq 7, 3, ([171], .null)), (168, .goto 4, 3, ([172], .null)), (173, .invokevirtual 93, 3, ([172, 3, 0, 10], .null)), (176, .ifCond .eq 5, 3, ([181], .null)), (180, .ireturn, 1, ([], .null)), (184, .putfield 29, 3, ([9, 6, 0], .null)), (197, .if_icmp .ge 79, 3, ([276], .null)), (207, .if_icmp .ge 15, 3, ([222], .null)), (215, .invokevirtual 267, 3, ([230, 2, 0, 10], .null)), (219, .goto 4, 3, ([223], .null)), (223, .invokevirtual 97, 3, ([173, 3, 0, 10], .null)), (232, .getfield 19, 3, ([9, 3], .null)), (238, .if_icmp .ge 32, 3, ([270], .null)), (242, .getfield 7, 3, ([9, 0], .null)), (254, .getfield 16, 3, ([9, 2], .null)), (267, .goto (-38), 3, ([229], .null)), (273, .goto (-79), 3, ([194], .null)), (278, .putfield 101, 3, ([9, 11, 4], .null)), (282, .invokevirtual 105, 3, ([174, 1, 0, 10], .null)), (287, .ireturn, 1, ([], .null))]) (by decide +kernel) ?_)⟩
  refine pk_c (pk_0 (Or.inr rfl) ⟨9, 10, 0, rfl, lp_M_78 _⟩ (Or.inr rfl)) ?_
  refine pk_c (pk_4 lm_M_264) ?_
  refine pk_c (pk_0 (Or.inr rfl) ⟨20, rfl, by decide⟩ (Or.inr rfl)) ?_
  refine pk_c (pk_0 (Or.inr rfl) ⟨21, rfl, by decide⟩ (Or.inr rfl)) ?_
  refine pk_c (pk_4 lm_M_93) ?_
  refine pk_c (pk_0 (Or.inr rfl) ⟨30, rfl, by decide⟩ (Or.inr rfl)) ?_
  refine pk_c (pk_2 rfl (Or.inl ⟨rfl, rfl⟩)) ?_
  refine pk_c (pk_4 lm_M_267) ?_
  refine pk_c (pk_0 (Or.inr rfl) w_1137 (Or.inr rfl)) ?_
  refine pk_c (pk_0 (Or.inr rfl) ⟨51, rfl, by decide⟩ (Or.inr rfl)) ?_
  refine pk_c (pk_0 (Or.inr rfl) ⟨52, rfl, by decide⟩ (Or.inr rfl)) ?_
  refine pk_c (pk_4 lm_M_93) ?_
  refine pk_c (pk_0 (Or.inr rfl) ⟨61, rfl, by decide⟩ (Or.inr rfl)) ?_
  refine pk_c (pk_2 rfl (Or.inl ⟨rfl, rfl⟩)) ?_
  refine pk_c (pk_0 (Or.inr rfl) ⟨84, rfl, by decide⟩ (Or.inr rfl)) ?_
  refine pk_c (pk_0 (Or.inr rfl) ⟨85, rfl, by decide⟩ (Or.inr rfl)) ?_
  refine pk_c (pk_4 lm_M_93) ?_
  refine pk_c (pk_0 (Or.inr rfl) ⟨94, rfl, by decide⟩ (Or.inr rfl)) ?_
  refine pk_c (pk_2 rfl (Or.inl ⟨rfl, rfl⟩)) ?_
  refine pk_c (pk_0 (Or.inr rfl) ⟨158, rfl, by decide⟩ (Or.inr rfl)) ?_
  refine pk_c (pk_4 lm_M_267) ?_
  refine pk_c (pk_4 lm_M_267) ?_
  refine pk_c (pk_0 (Or.inr rfl) w_1141 (Or.inr rfl)) ?_
  refine pk_c (pk_0 (Or.inr rfl) ⟨142, rfl, by decide⟩ (Or.inr rfl)) ?_
  refine pk_c (pk_0 (Or.inr rfl) ⟨143, rfl, by decide⟩ (Or.inr rfl)) ?_
  refine pk_c (pk_4 lm_M_93) ?_
  refine pk_c (pk_0 (Or.inr rfl) ⟨152, rfl, by decide⟩ (Or.inr rfl)) ?_
  refine pk_c (pk_2 rfl (Or.inl ⟨rfl, rfl⟩)) ?_
  refine pk_c (pk_0 (Or.inr rfl) ⟨102, rfl, by decide⟩ (Or.inr rfl)) ?_
  refine pk_c (pk_0 (Or.inr rfl) ⟨171, rfl, by decide⟩ (Or.inr rfl)) ?_
  refine pk_c (pk_0 (Or.inr rfl) ⟨172, rfl, by decide⟩ (Or.inr rfl)) ?_
  refine pk_c (pk_4 lm_M_93) ?_
  refine pk_c (pk_0 (Or.inr rfl) ⟨181, rfl, by decide⟩ (Or.inr rfl)) ?_
  refine pk_c (pk_2 rfl (Or.inl ⟨rfl, rfl⟩)) ?_
  refine pk_c (pk_0 (Or.inr rfl) ⟨9, 6, 0, rfl, lp_M_29 _⟩ (Or.inr rfl)) ?_
  refine pk_c (pk_0 (Or.inr rfl) ⟨276, rfl, by decide⟩ (Or.inr rfl)) ?_
  refine pk_c (pk_0 (Or.inr rfl) ⟨222, rfl, by decide⟩ (Or.inr rfl)) ?_
  refine pk_c (pk_4 lm_M_267) ?_
  refine pk_c (pk_0 (Or.inr rfl) ⟨223, rfl, by decide⟩ (Or.inr rfl)) ?_
  refine pk_c (pk_4 lm_M_97) ?_
  refine pk_c (pk_0 (Or.inr rfl) ⟨9, 3, rfl, lf_M_19⟩ (Or.inr rfl)) ?_
  refine pk_c (pk_0 (Or.inr rfl) ⟨270, rfl, by decide⟩ (Or.inr rfl)) ?_
  refine pk_c (pk_0 (Or.inr rfl) ⟨9, 0, rfl, lf_M_7⟩ (Or.inr rfl)) ?_
  refine pk_c (pk_0 (Or.inr rfl) ⟨9, 2, rfl, lf_M_16⟩ (Or.inr rfl)) ?_
  refine pk_c (pk_0 (Or.inr rfl) ⟨229, rfl, by decide⟩ (Or.inr rfl)) ?_
  refine pk_c (pk_0 (Or.inr rfl) ⟨194, rfl, by decide⟩ (Or.inr rfl)) ?_
  refine pk_c (pk_0 (Or.inr rfl) ⟨9, 11, 4, rfl, lp_M_101 _⟩ (Or.inr rfl)) ?_
  refine pk_c (pk_4 lm_M_105) ?_
  refine pk_c (pk_2 rfl (Or.inl ⟨rfl, rfl⟩)) ?_
  exact pk_n
theorem ok_M_unpacked {s0 : State} (hS : pm_Str s0) : pm_OKI s0 mi_M_unpacked := by
  refine ⟨Or.inl ⟨w_1369, rfl⟩, w_10, by decide +kernel, ⟨by decide +kernel, by decide +kernel⟩, by decide, by decide +kernel, pk_i (by decide +kernel) (pk_all (ks := [(6, .getfield 256, 3, ([9, 7], .null)), (9, .if_icmp .ge 234, 3, ([243], .null)), (13, .getfield 23, 3, ([9, 4], .null)), (32, .if_icmp .ge 50, 3, ([82], .null)), (42, .if_icmp .ne 34, 3, ([76], .null)), (47, .getfield 256, 3, ([9, 7], .null)), (50, .if_icmp .lt 5, 3, ([55], .null)), (54, .ireturn, 1, ([], .null)), (58, .getfield 23, 3, ([9, 4], .null)), (79, .goto (-51), 3, ([28], .null)), (86, .invokevirtual 259, 3, ([229, 3, 0, 10], .null)), (91, .ifCond .eq 13, 3, ([104], .null)), (98, .if_icmp .eq 6, 3, ([104], .null)), (101, .goto (-97), 3, ([4], .null)), (106, .getfield 256, 3, ([9, 7], .null)), (109, .if_icmp .lt 5, 3, ([114], .null)), (113, .ireturn, 1, ([], .null)), (115, .getfield 23, 3, ([9, 4], .null)), (129, .if_icmp .ne 19, 3, ([148], .null)), (140, .getfield 256, 3, ([9, 7], .null)), (143, .if_icmp .le 5, 3, ([148], .null)), (147, .ireturn, 1, ([], .null)), (155, .if_icmp .ge 70, 3, ([225], .null)), (168, .if_icmp .ge 43, 3, ([211], .null)), (175, .if_icmp .ne 36, 3, ([211], .null)), (181, .getfield 23, 3, ([9, 4], .null)), (208, .goto (-44), 3, ([164], .null)), (215, .invokevirtual 259, 3, ([229, 3, 0, 10], .null)), (222, .goto (-71), 3, ([151], .null)), (229, .if_icmp .ne 11, 3, ([240], .null)), (240, .goto (-236), 3, ([4], .null)), (244, .ireturn, 1, ([], .null))]) (by decide +kernel) ?_)⟩
  refine pk_c (pk_0 (Or.inr rfl) ⟨9, 7, rfl, lf_M_256⟩ (Or.inr rfl)) ?_
  refine pk_c (pk_0 (Or.inr rfl) ⟨243, rfl, by decide⟩ (Or.inr rfl)) ?_
  refine pk_c (pk_0 (Or.inr rfl) ⟨9, 4, rfl, lf_M_23⟩ (Or.inr rfl)) ?_
  refine pk_c (pk_0 (Or.inr rfl) ⟨82, rfl, by decide⟩ (Or.inr rfl)) ?_
  refine pk_c (pk_0 (Or.inr rfl) ⟨76, rfl, by decide⟩ (Or.inr rfl)) ?_
  refine pk_c (pk_0 (Or.inr rfl) ⟨9, 7, rfl, lf_M_256⟩ (Or.inr rfl)) ?_
  refine pk_c (pk_0 (Or.inr rfl) ⟨55, rfl, by decide⟩ (Or.inr rfl)) ?_
  refine pk_c (pk_2 rfl (Or.inl ⟨rfl, rfl⟩)) ?_
  refine pk_c (pk_0 (Or.inr rfl) ⟨9, 4, rfl, lf_M_23⟩ (Or.inr rfl)) ?_
  refine pk_c (pk_0 (Or.inr rfl) ⟨28, rfl, by decide⟩ (Or.inr rfl)) ?_
  refine pk_c (pk_4 lm_M_259) ?_
  refine pk_c (pk_0 (Or.inr rfl) ⟨104, rfl, by decide⟩ (Or.inr rfl)) ?_
  refine pk_c (pk_0 (Or.inr rfl) ⟨104, rfl, by decide⟩ (Or.inr rfl)) ?_
  refine pk_c (pk_0 (Or.inr rfl) ⟨4, rfl, by decide⟩ (Or.inr rfl)) ?_
  refine pk_c (pk_0 (Or.inr rfl) ⟨9, 7, rfl, lf_M_256⟩ (Or.inr rfl)) ?_
  refine pk_c (pk_0 (Or.inr rfl) ⟨114, rfl, by decide⟩ (Or.inr rfl)) ?_
  refine pk_c (pk_2 rfl (Or.inl ⟨rfl, rfl⟩)) ?_
  refine pk_c (pk_0 (Or.inr rfl) ⟨9, 4, rfl, lf_M_23⟩ (Or.inr rfl)) ?_
  refine pk_c (pk_0 (Or.inr rfl) ⟨148, rfl, by decide⟩ (Or.inr rfl)) ?_
  refine pk_c (pk_0 (Or.inr rfl) ⟨9, 7, rfl, lf_M_256⟩ (Or.inr rfl)) ?_
  refine pk_c (pk_0 (Or.inr rfl) ⟨148, rfl, by decide⟩ (Or.inr rfl)) ?_
  refine pk_c (pk_2 rfl (Or.inl ⟨rfl, rfl⟩)) ?_
  refine pk_c (pk_0 (Or.inr rfl) ⟨225, rfl, by decide⟩ (Or.inr rfl)) ?_
  refine pk_c (pk_0 (Or.inr rfl) ⟨211, rfl, by decide⟩ (Or.inr rfl)) ?_
  refine pk_c (pk_0 (Or.inr rfl) ⟨211, rfl, by decide⟩ (Or.inr rfl)) ?_
  refine pk_c (pk_0 (Or.inr rfl) ⟨9, 4, rfl, lf_M_23⟩ (Or.inr rfl)) ?_
  refine pk_c (pk_0 (Or.inr rfl) ⟨164, rfl, by decide⟩ (Or.inr rfl)) ?_
  refine pk_c (pk_4 lm_M_259) ?_
  refine pk_c (pk_0 (Or.inr rfl) ⟨151, rfl, by decide⟩ (Or.inr rfl)) ?_
  refine pk_c (pk_0 (Or.inr rfl) ⟨240, rfl, by decide⟩ (Or.inr rfl)) ?_
  refine pk_c (pk_0 (Or.inr rfl) ⟨4, rfl, by decide⟩ (Or.inr rfl)) ?_
  refine pk_c (pk_2 rfl (Or.inl ⟨rfl, rfl⟩)) ?_
  exact pk_n
theorem ok_M_grown {s0 : State} (hS : pm_Str s0) : pm_OKI s0 mi_M_grown := by
  refine ⟨Or.inl ⟨w_1373, rfl⟩, w_10, by decide +kernel, ⟨by decide +kernel, by decide +kernel⟩, by decide, by decide +kernel, pk_i (by decide +kernel) (pk_all (ks := [(4, .if_icmp .ge 10, 3, ([14], .null)), (8, .getfield 16, 3, ([9, 2], .null)), (17, .ireturn, 1, ([], .null))]) (by decide +kernel) ?_)⟩
  refine pk_c (pk_0 (Or.inr rfl) ⟨14, rfl, by decide⟩ (Or.inr rfl)) ?_
  refine pk_c (pk_0 (Or.inr rfl) ⟨9, 2, rfl, lf_M_16⟩ (Or.inr rfl)) ?_
  refine pk_c (pk_2 rfl (Or.inl ⟨rfl, rfl⟩)) ?_
  exact pk_n
theorem ok_M_fourth {s0 : State} (hS : pm_Str s0) : pm_OKI s0 mi_M_fourth := by
  refine ⟨Or.inl ⟨w_1377, rfl⟩, w_10, by decide +kernel, ⟨by decide +kernel, by decide +kernel⟩, by decide, by decide +kernel, pk_i (by decide +kernel) (pk_all (ks := [(1, .getfield 16, 3, ([9, 2], .null)), (15, .ldc2_w 262, 3, ([], .long 4294967295)), (19, .lreturn, 1, ([], .null))]) (by decide +kernel) ?_)⟩
  refine pk_c (pk_0 (Or.inr rfl) ⟨9, 2, rfl, lf_M_16⟩ (Or.inr rfl)) ?_
  refine pk_c (pk_0 (Or.inr rfl) w_1378 (Or.inr rfl)) ?_
  refine pk_c (pk_2 rfl rfl) ?_
  exact pk_n
theorem ok_M_canonical {s0 : State} (hS : pm_Str s0) : pm_OKI s0 mi_M_canonical := by
  refine ⟨Or.inl ⟨w_1382, rfl⟩, w_10, by decide +kernel, ⟨by decide +kernel, by decide +kernel⟩, by decide, by decide +kernel, pk_i (by decide +kernel) (pk_all (ks := [(2, .putfield 78, 3, ([9, 10, 0], .null)), (7, .getfield 19, 3, ([9, 3], .null)), (12, .ifCond .ne 7, 3, ([19], .null)), (16, .goto 4, 3, ([20], .null)), (21, .invokevirtual 93, 3, ([172, 3, 0, 10], .null)), (24, .ifCond .eq 5, 3, ([29], .null)), (28, .ireturn, 1, ([], .null)), (34, .if_icmp .ge 16, 3, ([50], .null)), (38, .getfield 13, 3, ([9, 1], .null)), (47, .goto (-16), 3, ([31], .null)), (54, .putfield 271, 3, ([9, 26, 0], .null)), (63, .invokevirtual 274, 3, ([232, 5, 0, 10], .null)), (67, .getfield 271, 3, ([9, 26], .null)), (70, .ifCond .le 146, 3, ([216], .null)), (74, .getfield 78, 3, ([9, 10], .null)), (77, .ifCond .ne 139, 3, ([216], .null)), (82, .getfield 271, 3, ([9, 26], .null)), (87, .putfield 271, 3, ([9, 26, 0], .null)), (91, .getfield 72, 3, ([9, 24], .null)), (95, .getfield 271, 3, ([9, 26], .null)), (104, .getfield 66, 3, ([9, 22], .null)), (108, .getfield 271, 3, ([9, 26], .null)), (113, .getfield 69, 3, ([9, 23], .null)), (117, .getfield 271, 3, ([9, 26], .null)), (122, .getfield 75, 3, ([9, 25], .null)), (126, .getfield 271, 3, ([9, 26], .null)), (130, .invokevirtual 161, 3, ([182, 5, 0, 10], .null)), (136, .ifCond .ne 7, 3, ([143], .null)), (140, .goto 4, 3, ([144], .null)), (145, .invokevirtual 93, 3, ([172, 3, 0, 10], .null)), (148, .ifCond .eq 5, 3, ([153], .null)), (152, .ireturn, 1, ([], .null)), (154, .getfield 36, 3, ([9, 12], .null)), (161, .if_icmp .ne 13, 3, ([174], .null)), (167, .invokevirtual 278, 3, ([233, 3, 0, 10], .null)), (171, .goto 42, 3, ([213], .null)), (175, .getfield 36, 3, ([9, 12], .null)), (182, .if_icmp .ne 31, 3, ([213], .null)), (186, .getfield 57, 3, ([9, 19], .null)), (194, .if_icmp .ne 12, 3, ([206], .null)), (200, .invokevirtual 281, 3, ([235, 3, 0, 10], .null)), (203, .goto 9, 3, ([212], .null)), (209, .invokevirtual 284, 3, ([236, 3, 0, 10], .null)), (213, .goto (-147), 3, ([66], .null)), (217, .getfield 78, 3, ([9, 10], .null)), (220, .ifCond .eq 5, 3, ([225], .null)), (224, .ireturn, 1, ([], .null)), (229, .if_icmp .ge 15, 3, ([244], .null)), (235, .invokevirtual 97, 3, ([173, 3, 0, 10], .null)), (241, .goto (-14), 3, ([227], .null)), (247, .invokevirtual 97, 3, ([173, 3, 0, 10], .null)), (254, .if_icmp .ge 21, 3, ([275], .null)), (258, .getfield 7, 3, ([9, 0], .null)), (263, .getfield 13, 3, ([9, 1], .null)), (272, .goto (-20), 3, ([252], .null)), (277, .putfield 29, 3, ([9, 6, 0], .null)), (282, .putfield 101, 3, ([9, 11, 4], .null)), (286, .invokevirtual 105, 3, ([174, 1, 0, 10], .null)), (290, .ireturn, 1, ([], .null))]) (by decide +kernel) ?_)⟩
  refine pk_c (pk_0 (Or.inr rfl) ⟨9, 10, 0, rfl, lp_M_78 _⟩ (Or.inr rfl)) ?_
  refine pk_c (pk_0 (Or.inr rfl) ⟨9, 3, rfl, lf_M_19⟩ (Or.inr rfl)) ?_
  refine pk_c (pk_0 (Or.inr rfl) ⟨19, rfl, by decide⟩ (Or.inr rfl)) ?_
  refine pk_c (pk_0 (Or.inr rfl) ⟨20, rfl, by decide⟩ (Or.inr rfl)) ?_
  refine pk_c (pk_4 lm_M_93) ?_
  refine pk_c (pk_0 (Or.inr rfl) ⟨29, rfl, by decide⟩ (Or.inr rfl)) ?_
  refine pk_c (pk_2 rfl (Or.inl ⟨rfl, rfl⟩)) ?_
  refine pk_c (pk_0 (Or.inr rfl) ⟨50, rfl, by decide⟩ (Or.inr rfl)) ?_
  refine pk_c (pk_0 (Or.inr rfl) ⟨9, 1, rfl, lf_M_13⟩ (Or.inr rfl)) ?_
  refine pk_c (pk_0 (Or.inr rfl) ⟨31, rfl, by decide⟩ (Or.inr rfl)) ?_
  refine pk_c (pk_0 (Or.inr rfl) ⟨9, 26, 0, rfl, lp_M_271 _⟩ (Or.inr rfl)) ?_
  refine pk_c (pk_4 lm_M_274) ?_
  refine pk_c (pk_0 (Or.inr rfl) ⟨9, 26, rfl, lf_M_271⟩ (Or.inr rfl)) ?_
  refine pk_c (pk_0 (Or.inr rfl) ⟨216, rfl, by decide⟩ (Or.inr rfl)) ?_
  refine pk_c (pk_0 (Or.inr rfl) ⟨9, 10, rfl, lf_M_78⟩ (Or.inr rfl)) ?_
  refine pk_c (pk_0 (Or.inr rfl) ⟨216, rfl, by decide⟩ (Or.inr rfl)) ?_
  refine pk_c (pk_0 (Or.inr rfl) ⟨9, 26, rfl, lf_M_271⟩ (Or.inr rfl)) ?_
  refine pk_c (pk_0 (Or.inr rfl) ⟨9, 26, 0, rfl, lp_M_271 _⟩ (Or.inr rfl)) ?_
  refine pk_c (pk_0 (Or.inr rfl) ⟨9, 24, rfl, lf_M_72⟩ (Or.inr rfl)) ?_
  refine pk_c (pk_0 (Or.inr rfl) ⟨9, 26, rfl, lf_M_271⟩ (Or.inr rfl)) ?_
  refine pk_c (pk_0 (Or.inr rfl) ⟨9, 22, rfl, lf_M_66⟩ (Or.inr rfl)) ?_
  refine pk_c (pk_0 (Or.inr rfl) ⟨9, 26, rfl, lf_M_271⟩ (Or.inr rfl)) ?_
  refine pk_c (pk_0 (Or.inr rfl) ⟨9, 23, rfl, lf_M_69⟩ (Or.inr rfl)) ?_
  refine pk_c (pk_0 (Or.inr rfl) ⟨9, 26, rfl, lf_M_271⟩ (Or.inr rfl)) ?_
  refine pk_c (pk_0 (Or.inr rfl) ⟨9, 25, rfl, lf_M_75⟩ (Or.inr rfl)) ?_
  refine pk_c (pk_0 (Or.inr rfl) ⟨9, 26, rfl, lf_M_271⟩ (Or.inr rfl)) ?_
  refine pk_c (pk_4 lm_M_161) ?_
  refine pk_c (pk_0 (Or.inr rfl) ⟨143, rfl, by decide⟩ (Or.inr rfl)) ?_
  refine pk_c (pk_0 (Or.inr rfl) ⟨144, rfl, by decide⟩ (Or.inr rfl)) ?_
  refine pk_c (pk_4 lm_M_93) ?_
  refine pk_c (pk_0 (Or.inr rfl) ⟨153, rfl, by decide⟩ (Or.inr rfl)) ?_
  refine pk_c (pk_2 rfl (Or.inl ⟨rfl, rfl⟩)) ?_
  refine pk_c (pk_0 (Or.inr rfl) ⟨9, 12, rfl, lf_M_36⟩ (Or.inr rfl)) ?_
  refine pk_c (pk_0 (Or.inr rfl) ⟨174, rfl, by decide⟩ (Or.inr rfl)) ?_
  refine pk_c (pk_4 lm_M_278) ?_
  refine pk_c (pk_0 (Or.inr rfl) ⟨213, rfl, by decide⟩ (Or.inr rfl)) ?_
  refine pk_c (pk_0 (Or.inr rfl) ⟨9, 12, rfl, lf_M_36⟩ (Or.inr rfl)) ?_
  refine pk_c (pk_0 (Or.inr rfl) ⟨213, rfl, by decide⟩ (Or.inr rfl)) ?_
  refine pk_c (pk_0 (Or.inr rfl) ⟨9, 19, rfl, lf_M_57⟩ (Or.inr rfl)) ?_
  refine pk_c (pk_0 (Or.inr rfl) ⟨206, rfl, by decide⟩ (Or.inr rfl)) ?_
  refine pk_c (pk_4 lm_M_281) ?_
  refine pk_c (pk_0 (Or.inr rfl) ⟨212, rfl, by decide⟩ (Or.inr rfl)) ?_
  refine pk_c (pk_4 lm_M_284) ?_
  refine pk_c (pk_0 (Or.inr rfl) ⟨66, rfl, by decide⟩ (Or.inr rfl)) ?_
  refine pk_c (pk_0 (Or.inr rfl) ⟨9, 10, rfl, lf_M_78⟩ (Or.inr rfl)) ?_
  refine pk_c (pk_0 (Or.inr rfl) ⟨225, rfl, by decide⟩ (Or.inr rfl)) ?_
  refine pk_c (pk_2 rfl (Or.inl ⟨rfl, rfl⟩)) ?_
  refine pk_c (pk_0 (Or.inr rfl) ⟨244, rfl, by decide⟩ (Or.inr rfl)) ?_
  refine pk_c (pk_4 lm_M_97) ?_
  refine pk_c (pk_0 (Or.inr rfl) ⟨227, rfl, by decide⟩ (Or.inr rfl)) ?_
  refine pk_c (pk_4 lm_M_97) ?_
  refine pk_c (pk_0 (Or.inr rfl) ⟨275, rfl, by decide⟩ (Or.inr rfl)) ?_
  refine pk_c (pk_0 (Or.inr rfl) ⟨9, 0, rfl, lf_M_7⟩ (Or.inr rfl)) ?_
  refine pk_c (pk_0 (Or.inr rfl) ⟨9, 1, rfl, lf_M_13⟩ (Or.inr rfl)) ?_
  refine pk_c (pk_0 (Or.inr rfl) ⟨252, rfl, by decide⟩ (Or.inr rfl)) ?_
  refine pk_c (pk_0 (Or.inr rfl) ⟨9, 6, 0, rfl, lp_M_29 _⟩ (Or.inr rfl)) ?_
  refine pk_c (pk_0 (Or.inr rfl) ⟨9, 11, 4, rfl, lp_M_101 _⟩ (Or.inr rfl)) ?_
  refine pk_c (pk_4 lm_M_105) ?_
  refine pk_c (pk_2 rfl (Or.inl ⟨rfl, rfl⟩)) ?_
  exact pk_n
theorem ok_M_push {s0 : State} (hS : pm_Str s0) : pm_OKI s0 mi_M_push := by
  refine ⟨Or.inl ⟨w_1386, rfl⟩, w_10, by decide +kernel, ⟨by decide +kernel, by decide +kernel⟩, by decide, by decide +kernel, pk_i (by decide +kernel) (pk_all (ks := [(1, .getfield 66, 3, ([9, 22], .null)), (5, .getfield 271, 3, ([9, 26], .null)), (11, .getfield 69, 3, ([9, 23], .null)), (15, .getfield 271, 3, ([9, 26], .null)), (21, .getfield 72, 3, ([9, 24], .null)), (25, .getfield 271, 3, ([9, 26], .null)), (31, .getfield 75, 3, ([9, 25], .null)), (35, .getfield 271, 3, ([9, 26], .null)), (43, .getfield 271, 3, ([9, 26], .null)), (48, .putfield 271, 3, ([9, 26, 0], .null)), (51, .return_, 1, ([], .null))]) (by decide +kernel) ?_)⟩
  refine pk_c (pk_0 (Or.inr rfl) ⟨9, 22, rfl, lf_M_66⟩ (Or.inr rfl)) ?_
  refine pk_c (pk_0 (Or.inr rfl) ⟨9, 26, rfl, lf_M_271⟩ (Or.inr rfl)) ?_
  refine pk_c (pk_0 (Or.inr rfl) ⟨9, 23, rfl, lf_M_69⟩ (Or.inr rfl)) ?_
  refine pk_c (pk_0 (Or.inr rfl) ⟨9, 26, rfl, lf_M_271⟩ (Or.inr rfl)) ?_
  refine pk_c (pk_0 (Or.inr rfl) ⟨9, 24, rfl, lf_M_72⟩ (Or.inr rfl)) ?_
  refine pk_c (pk_0 (Or.inr rfl) ⟨9, 26, rfl, lf_M_271⟩ (Or.inr rfl)) ?_
  refine pk_c (pk_0 (Or.inr rfl) ⟨9, 25, rfl, lf_M_75⟩ (Or.inr rfl)) ?_
  refine pk_c (pk_0 (Or.inr rfl) ⟨9, 26, rfl, lf_M_271⟩ (Or.inr rfl)) ?_
  refine pk_c (pk_0 (Or.inr rfl) ⟨9, 26, rfl, lf_M_271⟩ (Or.inr rfl)) ?_
  refine pk_c (pk_0 (Or.inr rfl) ⟨9, 26, 0, rfl, lp_M_271 _⟩ (Or.inr rfl)) ?_
  refine pk_c (pk_2 rfl rfl) ?_
  exact pk_n
theorem ok_M_writesStruct {s0 : State} (hS : pm_Str s0) : pm_OKI s0 mi_M_writesStruct := by
  refine ⟨Or.inl ⟨w_1390, rfl⟩, w_10, by decide +kernel, ⟨by decide +kernel, by decide +kernel⟩, by decide, by decide +kernel, pk_i (by decide +kernel) (pk_all (ks := [(1, .getfield 42, 3, ([9, 14], .null)), (9, .getfield 45, 3, ([9, 15], .null)), (21, .getfield 48, 3, ([9, 16], .null)), (38, .invokevirtual 287, 3, ([234, 4, 0, 10], .null)), (51, .getfield 51, 3, ([9, 17], .null)), (57, .invokevirtual 287, 3, ([234, 4, 0, 10], .null)), (78, .getfield 13, 3, ([9, 1], .null)), (89, .ifCond .ne 7, 3, ([96], .null)), (93, .goto 8, 3, ([101], .null)), (101, .invokestatic 210, 3, ([210, 2, 0, 0], .null)), (115, .if_icmp .le 7, 3, ([122], .null)), (119, .goto 4, 3, ([123], .null)), (124, .invokevirtual 93, 3, ([172, 3, 0, 10], .null)), (127, .ifCond .eq 5, 3, ([132], .null)), (131, .ireturn, 1, ([], .null)), (139, .if_icmp .ge 33, 3, ([172], .null)), (143, .getfield 13, 3, ([9, 1], .null)), (151, .getfield 7, 3, ([9, 0], .null)), (169, .goto (-34), 3, ([135], .null)), (180, .ifCond .lt 36, 3, ([216], .null)), (201, .getfield 39, 3, ([9, 13], .null)), (207, .invokevirtual 274, 3, ([232, 5, 0, 10], .null)), (213, .goto (-35), 3, ([178], .null)), (223, .ireturn, 1, ([], .null))]) (by decide +kernel) ?_)⟩
  refine pk_c (pk_0 (Or.inr rfl) ⟨9, 14, rfl, lf_M_42⟩ (Or.inr rfl)) ?_
  refine pk_c (pk_0 (Or.inr rfl) ⟨9, 15, rfl, lf_M_45⟩ (Or.inr rfl)) ?_
  refine pk_c (pk_0 (Or.inr rfl) ⟨9, 16, rfl, lf_M_48⟩ (Or.inr rfl)) ?_
  refine pk_c (pk_4 lm_M_287) ?_
  refine pk_c (pk_0 (Or.inr rfl) ⟨9, 17, rfl, lf_M_51⟩ (Or.inr rfl)) ?_
  refine pk_c (pk_4 lm_M_287) ?_
  refine pk_c (pk_0 (Or.inr rfl) ⟨9, 1, rfl, lf_M_13⟩ (Or.inr rfl)) ?_
  refine pk_c (pk_0 (Or.inr rfl) ⟨96, rfl, by decide⟩ (Or.inr rfl)) ?_
  refine pk_c (pk_0 (Or.inr rfl) ⟨101, rfl, by decide⟩ (Or.inr rfl)) ?_
  refine pk_c (pk_4 lm_M_210) ?_
  refine pk_c (pk_0 (Or.inr rfl) ⟨122, rfl, by decide⟩ (Or.inr rfl)) ?_
  refine pk_c (pk_0 (Or.inr rfl) ⟨123, rfl, by decide⟩ (Or.inr rfl)) ?_
  refine pk_c (pk_4 lm_M_93) ?_
  refine pk_c (pk_0 (Or.inr rfl) ⟨132, rfl, by decide⟩ (Or.inr rfl)) ?_
  refine pk_c (pk_2 rfl (Or.inl ⟨rfl, rfl⟩)) ?_
  refine pk_c (pk_0 (Or.inr rfl) ⟨172, rfl, by decide⟩ (Or.inr rfl)) ?_
  refine pk_c (pk_0 (Or.inr rfl) ⟨9, 1, rfl, lf_M_13⟩ (Or.inr rfl)) ?_
  refine pk_c (pk_0 (Or.inr rfl) ⟨9, 0, rfl, lf_M_7⟩ (Or.inr rfl)) ?_
  refine pk_c (pk_0 (Or.inr rfl) ⟨135, rfl, by decide⟩ (Or.inr rfl)) ?_
  refine pk_c (pk_0 (Or.inr rfl) ⟨216, rfl, by decide⟩ (Or.inr rfl)) ?_
  refine pk_c (pk_0 (Or.inr rfl) ⟨9, 13, rfl, lf_M_39⟩ (Or.inr rfl)) ?_
  refine pk_c (pk_4 lm_M_274) ?_
  refine pk_c (pk_0 (Or.inr rfl) ⟨178, rfl, by decide⟩ (Or.inr rfl)) ?_
  refine pk_c (pk_2 rfl (Or.inl ⟨rfl, rfl⟩)) ?_
  exact pk_n
theorem ok_M_needs {s0 : State} (hS : pm_Str s0) : pm_OKI s0 mi_M_needs := by
  refine ⟨Or.inl ⟨w_1394, rfl⟩, w_10, by decide +kernel, ⟨by decide +kernel, by decide +kernel⟩, by decide, by decide +kernel, pk_i (by decide +kernel) (pk_all (ks := [(5, .ifCond .le 30, 3, ([35], .null)), (9, .getfield 7, 3, ([9, 0], .null)), (26, .ifCond .ne 9, 3, ([35], .null)), (32, .goto (-29), 3, ([3], .null)), (37, .ireturn, 1, ([], .null))]) (by decide +kernel) ?_)⟩
  refine pk_c (pk_0 (Or.inr rfl) ⟨35, rfl, by decide⟩ (Or.inr rfl)) ?_
  refine pk_c (pk_0 (Or.inr rfl) ⟨9, 0, rfl, lf_M_7⟩ (Or.inr rfl)) ?_
  refine pk_c (pk_0 (Or.inr rfl) ⟨35, rfl, by decide⟩ (Or.inr rfl)) ?_
  refine pk_c (pk_0 (Or.inr rfl) ⟨3, rfl, by decide⟩ (Or.inr rfl)) ?_
  refine pk_c (pk_2 rfl (Or.inl ⟨rfl, rfl⟩)) ?_
  exact pk_n
theorem ok_M_writesStructs {s0 : State} (hS : pm_Str s0) : pm_OKI s0 mi_M_writesStructs := by
  refine ⟨Or.inl ⟨w_1398, rfl⟩, w_10, by decide +kernel, ⟨by decide +kernel, by decide +kernel⟩, by decide, by decide +kernel, pk_i (by decide +kernel) (pk_all (ks := [(1, .getfield 42, 3, ([9, 14], .null)), (9, .getfield 45, 3, ([9, 15], .null)), (23, .getfield 54, 3, ([9, 18], .null)), (38, .getfield 60, 3, ([9, 20], .null)), (45, .getfield 63, 3, ([9, 21], .null)), (61, .if_icmp .ge 98, 3, ([159], .null)), (66, .ifCond .le 93, 3, ([159], .null)), (80, .getfield 60, 3, ([9, 20], .null)), (86, .invokevirtual 287, 3, ([234, 4, 0, 10], .null)), (102, .getfield 60, 3, ([9, 20], .null)), (110, .getfield 63, 3, ([9, 21], .null)), (116, .invokevirtual 287, 3, ([234, 4, 0, 10], .null)), (125, .if_icmp .le 8, 3, ([133], .null)), (130, .goto 5, 3, ([135], .null)), (141, .if_icmp .le 8, 3, ([149], .null)), (146, .goto 5, 3, ([151], .null)), (156, .goto (-99), 3, ([57], .null)), (172, .getfield 13, 3, ([9, 1], .null)), (176, .ldc2_w 291, 3, ([], .long 30064771073)), (190, .invokestatic 210, 3, ([210, 2, 0, 0], .null)), (202, .ldc2_w 91, 3, ([], .long 64)), (206, .ifCond .le 7, 3, ([213], .null)), (210, .goto 4, 3, ([214], .null)), (215, .invokevirtual 93, 3, ([172, 3, 0, 10], .null)), (218, .ifCond .eq 5, 3, ([223], .null)), (222, .ireturn, 1, ([], .null)), (224, .getfield 13, 3, ([9, 1], .null)), (255, .if_icmp .ge 74, 3, ([329], .null)), (263, .ifCond .le 66, 3, ([329], .null)), (273, .if_icmp .ge 50, 3, ([323], .null)), (277, .getfield 13, 3, ([9, 1], .null)), (296, .getfield 7, 3, ([9, 0], .null)), (320, .goto (-51), 3, ([269], .null)), (326, .goto (-75), 3, ([251], .null)), (337, .ifCond .lt 80, 3, ([417], .null)), (342, .ifCond .le 75, 3, ([417], .null)), (353, .ifCond .lt 58, 3, ([411], .null)), (367, .getfield 60, 3, ([9, 20], .null)), (396, .getfield 39, 3, ([9, 13], .null)), (402, .invokevirtual 274, 3, ([232, 5, 0, 10], .null)), (408, .goto (-57), 3, ([351], .null)), (414, .goto (-79), 3, ([335], .null)), (424, .ireturn, 1, ([], .null))]) (by decide +kernel) ?_)⟩
  refine pk_c (pk_0 (Or.inr rfl) ⟨9, 14, rfl, lf_M_42⟩ (Or.inr rfl)) ?_
  refine pk_c (pk_0 (Or.inr rfl) ⟨9, 15, rfl, lf_M_45⟩ (Or.inr rfl)) ?_
  refine pk_c (pk_0 (Or.inr rfl) ⟨9, 18, rfl, lf_M_54⟩ (Or.inr rfl)) ?_
  refine pk_c (pk_0 (Or.inr rfl) ⟨9, 20, rfl, lf_M_60⟩ (Or.inr rfl)) ?_
  refine pk_c (pk_0 (Or.inr rfl) ⟨9, 21, rfl, lf_M_63⟩ (Or.inr rfl)) ?_
  refine pk_c (pk_0 (Or.inr rfl) ⟨159, rfl, by decide⟩ (Or.inr rfl)) ?_
  refine pk_c (pk_0 (Or.inr rfl) ⟨159, rfl, by decide⟩ (Or.inr rfl)) ?_
  refine pk_c (pk_0 (Or.inr rfl) ⟨9, 20, rfl, lf_M_60⟩ (Or.inr rfl)) ?_
  refine pk_c (pk_4 lm_M_287) ?_
  refine pk_c (pk_0 (Or.inr rfl) ⟨9, 20, rfl, lf_M_60⟩ (Or.inr rfl)) ?_
  refine pk_c (pk_0 (Or.inr rfl) ⟨9, 21, rfl, lf_M_63⟩ (Or.inr rfl)) ?_
  refine pk_c (pk_4 lm_M_287) ?_
  refine pk_c (pk_0 (Or.inr rfl) ⟨133, rfl, by decide⟩ (Or.inr rfl)) ?_
  refine pk_c (pk_0 (Or.inr rfl) ⟨135, rfl, by decide⟩ (Or.inr rfl)) ?_
  refine pk_c (pk_0 (Or.inr rfl) ⟨149, rfl, by decide⟩ (Or.inr rfl)) ?_
  refine pk_c (pk_0 (Or.inr rfl) ⟨151, rfl, by decide⟩ (Or.inr rfl)) ?_
  refine pk_c (pk_0 (Or.inr rfl) ⟨57, rfl, by decide⟩ (Or.inr rfl)) ?_
  refine pk_c (pk_0 (Or.inr rfl) ⟨9, 1, rfl, lf_M_13⟩ (Or.inr rfl)) ?_
  refine pk_c (pk_0 (Or.inr rfl) w_1399 (Or.inr rfl)) ?_
  refine pk_c (pk_4 lm_M_210) ?_
  refine pk_c (pk_0 (Or.inr rfl) w_1141 (Or.inr rfl)) ?_
  refine pk_c (pk_0 (Or.inr rfl) ⟨213, rfl, by decide⟩ (Or.inr rfl)) ?_
  refine pk_c (pk_0 (Or.inr rfl) ⟨214, rfl, by decide⟩ (Or.inr rfl)) ?_
  refine pk_c (pk_4 lm_M_93) ?_
  refine pk_c (pk_0 (Or.inr rfl) ⟨223, rfl, by decide⟩ (Or.inr rfl)) ?_
  refine pk_c (pk_2 rfl (Or.inl ⟨rfl, rfl⟩)) ?_
  refine pk_c (pk_0 (Or.inr rfl) ⟨9, 1, rfl, lf_M_13⟩ (Or.inr rfl)) ?_
  refine pk_c (pk_0 (Or.inr rfl) ⟨329, rfl, by decide⟩ (Or.inr rfl)) ?_
  refine pk_c (pk_0 (Or.inr rfl) ⟨329, rfl, by decide⟩ (Or.inr rfl)) ?_
  refine pk_c (pk_0 (Or.inr rfl) ⟨323, rfl, by decide⟩ (Or.inr rfl)) ?_
  refine pk_c (pk_0 (Or.inr rfl) ⟨9, 1, rfl, lf_M_13⟩ (Or.inr rfl)) ?_
  refine pk_c (pk_0 (Or.inr rfl) ⟨9, 0, rfl, lf_M_7⟩ (Or.inr rfl)) ?_
  refine pk_c (pk_0 (Or.inr rfl) ⟨269, rfl, by decide⟩ (Or.inr rfl)) ?_
  refine pk_c (pk_0 (Or.inr rfl) ⟨251, rfl, by decide⟩ (Or.inr rfl)) ?_
  refine pk_c (pk_0 (Or.inr rfl) ⟨417, rfl, by decide⟩ (Or.inr rfl)) ?_
  refine pk_c (pk_0 (Or.inr rfl) ⟨417, rfl, by decide⟩ (Or.inr rfl)) ?_
  refine pk_c (pk_0 (Or.inr rfl) ⟨411, rfl, by decide⟩ (Or.inr rfl)) ?_
  refine pk_c (pk_0 (Or.inr rfl) ⟨9, 20, rfl, lf_M_60⟩ (Or.inr rfl)) ?_
  refine pk_c (pk_0 (Or.inr rfl) ⟨9, 13, rfl, lf_M_39⟩ (Or.inr rfl)) ?_
  refine pk_c (pk_4 lm_M_274) ?_
  refine pk_c (pk_0 (Or.inr rfl) ⟨351, rfl, by decide⟩ (Or.inr rfl)) ?_
  refine pk_c (pk_0 (Or.inr rfl) ⟨335, rfl, by decide⟩ (Or.inr rfl)) ?_
  refine pk_c (pk_2 rfl (Or.inl ⟨rfl, rfl⟩)) ?_
  exact pk_n
theorem ok_M_writesList {s0 : State} (hS : pm_Str s0) : pm_OKI s0 mi_M_writesList := by
  refine ⟨Or.inl ⟨w_1403, rfl⟩, w_10, by decide +kernel, ⟨by decide +kernel, by decide +kernel⟩, by decide, by decide +kernel, pk_i (by decide +kernel) (pk_all (ks := [(1, .getfield 42, 3, ([9, 14], .null)), (9, .getfield 45, 3, ([9, 15], .null)), (21, .getfield 57, 3, ([9, 19], .null)), (30, .getfield 54, 3, ([9, 18], .null)), (43, .invokestatic 151, 3, ([189, 2, 0, 0], .null)), (49, .getfield 13, 3, ([9, 1], .null)), (73, .invokestatic 210, 3, ([210, 2, 0, 0], .null)), (83, .ldc2_w 91, 3, ([], .long 64)), (87, .ifCond .le 7, 3, ([94], .null)), (91, .goto 4, 3, ([95], .null)), (96, .invokevirtual 93, 3, ([172, 3, 0, 10], .null)), (99, .ifCond .eq 5, 3, ([104], .null)), (103, .ireturn, 1, ([], .null)), (113, .invokestatic 120, 3, ([190, 1, 0, 0], .null)), (126, .if_icmp .ne 44, 3, ([170], .null)), (137, .ifCond .lt 30, 3, ([167], .null)), (152, .getfield 39, 3, ([9, 13], .null)), (158, .invokevirtual 274, 3, ([232, 5, 0, 10], .null)), (164, .goto (-29), 3, ([135], .null)), (167, .goto 80, 3, ([247], .null)), (177, .if_icmp .ge 70, 3, ([247], .null)), (181, .getfield 13, 3, ([9, 1], .null)), (194, .if_icmp .ne 31, 3, ([225], .null)), (199, .ifCond .le 26, 3, ([225], .null)), (203, .getfield 7, 3, ([9, 0], .null)), (219, .invokestatic 172, 3, ([200, 2, 0, 0], .null)), (222, .goto 18, 3, ([240], .null)), (226, .getfield 7, 3, ([9, 0], .null)), (244, .goto (-71), 3, ([173], .null)), (251, .ireturn, 1, ([], .null))]) (by decide +kernel) ?_)⟩
  refine pk_c (pk_0 (Or.inr rfl) ⟨9, 14, rfl, lf_M_42⟩ (Or.inr rfl)) ?_
  refine pk_c (pk_0 (Or.inr rfl) ⟨9, 15, rfl, lf_M_45⟩ (Or.inr rfl)) ?_
  refine pk_c (pk_0 (Or.inr rfl) ⟨9, 19, rfl, lf_M_57⟩ (Or.inr rfl)) ?_
  refine pk_c (pk_0 (Or.inr rfl) ⟨9, 18, rfl, lf_M_54⟩ (Or.inr rfl)) ?_
  refine pk_c (pk_4 lm_M_151) ?_
  refine pk_c (pk_0 (Or.inr rfl) ⟨9, 1, rfl, lf_M_13⟩ (Or.inr rfl)) ?_
  refine pk_c (pk_4 lm_M_210) ?_
  refine pk_c (pk_0 (Or.inr rfl) w_1141 (Or.inr rfl)) ?_
  refine pk_c (pk_0 (Or.inr rfl) ⟨94, rfl, by decide⟩ (Or.inr rfl)) ?_
  refine pk_c (pk_0 (Or.inr rfl) ⟨95, rfl, by decide⟩ (Or.inr rfl)) ?_
  refine pk_c (pk_4 lm_M_93) ?_
  refine pk_c (pk_0 (Or.inr rfl) ⟨104, rfl, by decide⟩ (Or.inr rfl)) ?_
  refine pk_c (pk_2 rfl (Or.inl ⟨rfl, rfl⟩)) ?_
  refine pk_c (pk_4 lm_M_120) ?_
  refine pk_c (pk_0 (Or.inr rfl) ⟨170, rfl, by decide⟩ (Or.inr rfl)) ?_
  refine pk_c (pk_0 (Or.inr rfl) ⟨167, rfl, by decide⟩ (Or.inr rfl)) ?_
  refine pk_c (pk_0 (Or.inr rfl) ⟨9, 13, rfl, lf_M_39⟩ (Or.inr rfl)) ?_
  refine pk_c (pk_4 lm_M_274) ?_
  refine pk_c (pk_0 (Or.inr rfl) ⟨135, rfl, by decide⟩ (Or.inr rfl)) ?_
  refine pk_c (pk_0 (Or.inr rfl) ⟨247, rfl, by decide⟩ (Or.inr rfl)) ?_
  refine pk_c (pk_0 (Or.inr rfl) ⟨247, rfl, by decide⟩ (Or.inr rfl)) ?_
  refine pk_c (pk_0 (Or.inr rfl) ⟨9, 1, rfl, lf_M_13⟩ (Or.inr rfl)) ?_
  refine pk_c (pk_0 (Or.inr rfl) ⟨225, rfl, by decide⟩ (Or.inr rfl)) ?_
  refine pk_c (pk_0 (Or.inr rfl) ⟨225, rfl, by decide⟩ (Or.inr rfl)) ?_
  refine pk_c (pk_0 (Or.inr rfl) ⟨9, 0, rfl, lf_M_7⟩ (Or.inr rfl)) ?_
  refine pk_c (pk_4 lm_M_172) ?_
  refine pk_c (pk_0 (Or.inr rfl) ⟨240, rfl, by decide⟩ (Or.inr rfl)) ?_
  refine pk_c (pk_0 (Or.inr rfl) ⟨9, 0, rfl, lf_M_7⟩ (Or.inr rfl)) ?_
  refine pk_c (pk_0 (Or.inr rfl) ⟨173, rfl, by decide⟩ (Or.inr rfl)) ?_
  refine pk_c (pk_2 rfl (Or.inl ⟨rfl, rfl⟩)) ?_
  exact pk_n
theorem ok_M_count {s0 : State} (hS : pm_Str s0) : pm_OKI s0 mi_M_count := by
  refine ⟨Or.inl ⟨w_1407, rfl⟩, w_10, by decide +kernel, ⟨by decide +kernel, by decide +kernel⟩, by decide, by decide +kernel, pk_i (by decide +kernel) (pk_all (ks := [(2, .putfield 78, 3, ([9, 10, 0], .null)), (9, .ldc2_w 235, 3, ([], .long 8)), (12, .invokestatic 87, 3, ([171, 3, 0, 0], .null)), (15, .ifCond .ne 7, 3, ([22], .null)), (19, .goto 4, 3, ([23], .null)), (24, .invokevirtual 93, 3, ([172, 3, 0, 10], .null)), (27, .ifCond .eq 5, 3, ([32], .null)), (31, .ireturn, 1, ([], .null)), (33, .tableswitch 95 0 8 #[51, 56, 61, 66, 95, 95, 95, 95, 79], 51, ([128, 84, 89, 94, 99, 128, 128, 128, 128, 112], .null)), (85, .getfield 29, 3, ([9, 6], .null)), (88, .ireturn, 1, ([], .null)), (90, .getfield 256, 3, ([9, 7], .null)), (93, .ireturn, 1, ([], .null)), (95, .getfield 33, 3, ([9, 8], .null)), (98, .ireturn, 1, ([], .null)), (100, .getfield 101, 3, ([9, 11], .null)), (103, .ifCond .eq 7, 3, ([110], .null)), (107, .goto 4, 3, ([111], .null)), (111, .ireturn, 1, ([], .null)), (113, .getfield 101, 3, ([9, 11], .null)), (116, .ifCond .eq 10, 3, ([126], .null)), (120, .getfield 205, 3, ([9, 9], .null)), (123, .goto 4, 3, ([127], .null)), (127, .ireturn, 1, ([], .null)), (132, .getfield 29, 3, ([9, 6], .null)), (135, .if_icmp .ge 14, 3, ([149], .null)), (139, .getfield 19, 3, ([9, 3], .null)), (146, .goto 4, 3, ([150], .null)), (150, .ireturn, 1, ([], .null))]) (by decide +kernel) ?_)⟩
  refine pk_c (pk_0 (Or.inr rfl) ⟨9, 10, 0, rfl, lp_M_78 _⟩ (Or.inr rfl)) ?_
  refine pk_c (pk_0 (Or.inr rfl) w_1319 (Or.inr rfl)) ?_
  refine pk_c (pk_4 lm_M_87) ?_
  refine pk_c (pk_0 (Or.inr rfl) ⟨22, rfl, by decide⟩ (Or.inr rfl)) ?_
  refine pk_c (pk_0 (Or.inr rfl) ⟨23, rfl, by decide⟩ (Or.inr rfl)) ?_
  refine pk_c (pk_4 lm_M_93) ?_
  refine pk_c (pk_0 (Or.inr rfl) ⟨32, rfl, by decide⟩ (Or.inr rfl)) ?_
  refine pk_c (pk_2 rfl (Or.inl ⟨rfl, rfl⟩)) ?_
  refine pk_c (pk_0 (Or.inl rfl) ⟨128, _, rfl, by decide, by decide, by decide, pk_t (by decide +kernel)⟩ (Or.inr rfl)) ?_
  refine pk_c (pk_0 (Or.inr rfl) ⟨9, 6, rfl, lf_M_29⟩ (Or.inr rfl)) ?_
  refine pk_c (pk_2 rfl (Or.inl ⟨rfl, rfl⟩)) ?_
  refine pk_c (pk_0 (Or.inr rfl) ⟨9, 7, rfl, lf_M_256⟩ (Or.inr rfl)) ?_
  refine pk_c (pk_2 rfl (Or.inl ⟨rfl, rfl⟩)) ?_
  refine pk_c (pk_0 (Or.inr rfl) ⟨9, 8, rfl, lf_M_33⟩ (Or.inr rfl)) ?_
  refine pk_c (pk_2 rfl (Or.inl ⟨rfl, rfl⟩)) ?_
  refine pk_c (pk_0 (Or.inr rfl) ⟨9, 11, rfl, lf_M_101⟩ (Or.inr rfl)) ?_
  refine pk_c (pk_0 (Or.inr rfl) ⟨110, rfl, by decide⟩ (Or.inr rfl)) ?_
  refine pk_c (pk_0 (Or.inr rfl) ⟨111, rfl, by decide⟩ (Or.inr rfl)) ?_
  refine pk_c (pk_2 rfl (Or.inl ⟨rfl, rfl⟩)) ?_
  refine pk_c (pk_0 (Or.inr rfl) ⟨9, 11, rfl, lf_M_101⟩ (Or.inr rfl)) ?_
  refine pk_c (pk_0 (Or.inr rfl) ⟨126, rfl, by decide⟩ (Or.inr rfl)) ?_
  refine pk_c (pk_0 (Or.inr rfl) ⟨9, 9, rfl, lf_M_205⟩ (Or.inr rfl)) ?_
  refine pk_c (pk_0 (Or.inr rfl) ⟨127, rfl, by decide⟩ (Or.inr rfl)) ?_
  refine pk_c (pk_2 rfl (Or.inl ⟨rfl, rfl⟩)) ?_
  refine pk_c (pk_0 (Or.inr rfl) ⟨9, 6, rfl, lf_M_29⟩ (Or.inr rfl)) ?_
  refine pk_c (pk_0 (Or.inr rfl) ⟨149, rfl, by decide⟩ (Or.inr rfl)) ?_
  refine pk_c (pk_0 (Or.inr rfl) ⟨9, 3, rfl, lf_M_19⟩ (Or.inr rfl)) ?_
  refine pk_c (pk_0 (Or.inr rfl) ⟨150, rfl, by decide⟩ (Or.inr rfl)) ?_
  refine pk_c (pk_2 rfl (Or.inl ⟨rfl, rfl⟩)) ?_
  exact pk_n
