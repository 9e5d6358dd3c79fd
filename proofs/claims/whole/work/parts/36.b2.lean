/-! what is checked of each method (printed by gen5.py) -/
theorem ok_Ra_scaled {s0 : State} (hS : pm_Str s0) : pm_OKI s0 mi_Ra_scaled := by
  refine ⟨Or.inl ⟨w_672, rfl⟩, w_19, by decide +kernel, ⟨by decide +kernel, by decide +kernel⟩, by decide, by decide +kernel, pk_i (by decide +kernel) (pk_all (ks := [(3, .invokestatic 39, 3, ([84, 1, 0, 0], .null)), (8, .ldc2_w 43, 3, ([], .double 4751297606875873280)), (15, .ifCond .le 52, 3, ([67], .null)), (22, .if_icmp .ge 8, 3, ([30], .null)), (25, .ldc2_w 45, 3, ([], .double 4611686018427387904)), (31, .ifCond .le 10, 3, ([41], .null)), (38, .goto 7, 3, ([45], .null)), (52, .if_icmp .ge 7, 3, ([59], .null)), (56, .goto 5, 3, ([61], .null)), (64, .goto (-51), 3, ([13], .null)), (68, .dreturn, 1, ([], .null))]) (by decide +kernel) ?_)⟩
  refine pk_c (pk_4 lm_Ra_39) ?_
  refine pk_c (pk_0 (Or.inr rfl) w_676 (Or.inr rfl)) ?_
  refine pk_c (pk_0 (Or.inr rfl) ⟨67, rfl, by decide⟩ (Or.inr rfl)) ?_
  refine pk_c (pk_0 (Or.inr rfl) ⟨30, rfl, by decide⟩ (Or.inr rfl)) ?_
  refine pk_c (pk_0 (Or.inr rfl) w_677 (Or.inr rfl)) ?_
  refine pk_c (pk_0 (Or.inr rfl) ⟨41, rfl, by decide⟩ (Or.inr rfl)) ?_
  refine pk_c (pk_0 (Or.inr rfl) ⟨45, rfl, by decide⟩ (Or.inr rfl)) ?_
  refine pk_c (pk_0 (Or.inr rfl) ⟨59, rfl, by decide⟩ (Or.inr rfl)) ?_
  refine pk_c (pk_0 (Or.inr rfl) ⟨61, rfl, by decide⟩ (Or.inr rfl)) ?_
  refine pk_c (pk_0 (Or.inr rfl) ⟨13, rfl, by decide⟩ (Or.inr rfl)) ?_
  refine pk_c (pk_2 rfl rfl) ?_
  exact pk_n
theorem ok_JM_abs {s0 : State} (hS : pm_Str s0) : pm_OKI s0 mi_JM_abs := by
  refine ⟨Or.inl ⟨w_675, rfl⟩, w_21, by decide +kernel, ⟨by decide +kernel, by decide +kernel⟩, by decide, by decide +kernel, pk_i (by decide +kernel) (pk_all (ks := [(1, .ifCond .ge 8, 3, ([9], .null)), (6, .goto 4, 3, ([10], .null)), (10, .ireturn, 1, ([], .null))]) (by decide +kernel) ?_)⟩
  refine pk_c (pk_0 (Or.inr rfl) ⟨9, rfl, by decide⟩ (Or.inr rfl)) ?_
  refine pk_c (pk_0 (Or.inr rfl) ⟨10, rfl, by decide⟩ (Or.inr rfl)) ?_
  refine pk_c (pk_2 rfl (Or.inl ⟨rfl, rfl⟩)) ?_
  exact pk_n
theorem ok_L_item {s0 : State} (hS : pm_Str s0) : pm_OKI s0 mi_L_item := by
  refine ⟨Or.inr ⟨_, w_680, pk_hs ⟨rfl, rfl, by decide, ⟨by decide, by decide⟩, by decide, w_281, w_291, Or.inl ⟨by decide +kernel, rfl⟩⟩ (pk_hs ⟨rfl, rfl, by decide, ⟨by decide, by decide⟩, by decide, w_531, w_545, Or.inl ⟨by decide +kernel, rfl⟩⟩ (pk_h0))⟩, w_0, by decide +kernel, ⟨by decide +kernel, by decide +kernel⟩, by decide, by decide +kernel, pk_i (by decide +kernel) (pk_all (ks := [(5, .invokevirtual 52, 3, ([86, 3, 0, 1], .null)), (9, .goto 11, 3, ([20], .null)), (15, .ireturn, 1, ([], .null)), (19, .ireturn, 1, ([], .null)), (21, .ireturn, 1, ([], .null))]) (by decide +kernel) ?_)⟩
  refine pk_c (pk_4 lm_L_52) ?_
  refine pk_c (pk_0 (Or.inr rfl) ⟨20, rfl, by decide⟩ (Or.inr rfl)) ?_
  refine pk_c (pk_2 rfl (Or.inl ⟨rfl, rfl⟩)) ?_
  refine pk_c (pk_2 rfl (Or.inl ⟨rfl, rfl⟩)) ?_
  refine pk_c (pk_2 rfl (Or.inl ⟨rfl, rfl⟩)) ?_
  exact pk_n
theorem ok_D_item {s0 : State} (hS : pm_Str s0) : pm_OKI s0 mi_D_item := by
  refine ⟨Or.inl ⟨w_684, rfl⟩, w_1, by decide +kernel, ⟨by decide +kernel, by decide +kernel⟩, by decide, by decide +kernel, pk_i (by decide +kernel) (pk_all (ks := [(1, .invokestatic 96, 3, ([28, 1, 0, 0], .null)), (4, .ifCond .ne 7, 3, ([11], .null)), (8, .goto 4, 3, ([12], .null)), (12, .invokestatic 61, 3, ([12, 1, 0, 0], .null)), (16, .getfield 46, 3, ([0, 5], .null)), (23, .getfield 107, 3, ([7, 0], .null)), (27, .if_icmp .ne 11, 3, ([38], .null)), (31, .getfield 137, 3, ([7, 8], .null)), (35, .if_icmp .le 7, 3, ([42], .null)), (39, .goto 4, 3, ([43], .null)), (43, .invokestatic 117, 3, ([56, 1, 0, 0], .null)), (47, .ifCond .lt 11, 3, ([58], .null)), (52, .getfield 114, 3, ([7, 7], .null)), (55, .if_icmp .lt 7, 3, ([62], .null)), (59, .goto 4, 3, ([63], .null)), (63, .invokestatic 61, 3, ([12, 1, 0, 0], .null)), (67, .getfield 137, 3, ([7, 8], .null)), (70, .ifCond .ne 5, 3, ([75], .null)), (74, .lreturn, 1, ([], .null)), (75, .getstatic 172, 3, ([], .retAddr 1)), (79, .getfield 137, 3, ([7, 8], .null)), (86, .getfield 12, 3, ([0, 0], .null)), (90, .getfield 124, 3, ([7, 2], .null)), (97, .invokevirtual 175, 3, ([69, 3, 0, 8], .null)), (102, .invokevirtual 179, 3, ([70, 4, 0, 2], .null)), (107, .invokestatic 155, 3, ([72, 2, 0, 0], .null)), (110, .lreturn, 1, ([], .null))]) (by decide +kernel) ?_)⟩
  refine pk_c (pk_4 lm_D_96) ?_
  refine pk_c (pk_0 (Or.inr rfl) ⟨11, rfl, by decide⟩ (Or.inr rfl)) ?_
  refine pk_c (pk_0 (Or.inr rfl) ⟨12, rfl, by decide⟩ (Or.inr rfl)) ?_
  refine pk_c (pk_4 lm_D_61) ?_
  refine pk_c (pk_0 (Or.inr rfl) ⟨0, 5, rfl, lf_D_46⟩ (Or.inr rfl)) ?_
  refine pk_c (pk_0 (Or.inr rfl) ⟨7, 0, rfl, lf_D_107⟩ (Or.inr rfl)) ?_
  refine pk_c (pk_0 (Or.inr rfl) ⟨38, rfl, by decide⟩ (Or.inr rfl)) ?_
  refine pk_c (pk_0 (Or.inr rfl) ⟨7, 8, rfl, lf_D_137⟩ (Or.inr rfl)) ?_
  refine pk_c (pk_0 (Or.inr rfl) ⟨42, rfl, by decide⟩ (Or.inr rfl)) ?_
  refine pk_c (pk_0 (Or.inr rfl) ⟨43, rfl, by decide⟩ (Or.inr rfl)) ?_
  refine pk_c (pk_4 lm_D_117) ?_
  refine pk_c (pk_0 (Or.inr rfl) ⟨58, rfl, by decide⟩ (Or.inr rfl)) ?_
  refine pk_c (pk_0 (Or.inr rfl) ⟨7, 7, rfl, lf_D_114⟩ (Or.inr rfl)) ?_
  refine pk_c (pk_0 (Or.inr rfl) ⟨62, rfl, by decide⟩ (Or.inr rfl)) ?_
  refine pk_c (pk_0 (Or.inr rfl) ⟨63, rfl, by decide⟩ (Or.inr rfl)) ?_
  refine pk_c (pk_4 lm_D_61) ?_
  refine pk_c (pk_0 (Or.inr rfl) ⟨7, 8, rfl, lf_D_137⟩ (Or.inr rfl)) ?_
  refine pk_c (pk_0 (Or.inr rfl) ⟨75, rfl, by decide⟩ (Or.inr rfl)) ?_
  refine pk_c (pk_2 rfl rfl) ?_
  refine pk_c (pk_0 (Or.inr rfl) (Or.inl w_519) (Or.inr rfl)) ?_
  refine pk_c (pk_0 (Or.inr rfl) ⟨7, 8, rfl, lf_D_137⟩ (Or.inr rfl)) ?_
  refine pk_c (pk_0 (Or.inr rfl) ⟨0, 0, rfl, lf_D_12⟩ (Or.inr rfl)) ?_
  refine pk_c (pk_0 (Or.inr rfl) ⟨7, 2, rfl, lf_D_124⟩ (Or.inr rfl)) ?_
  refine pk_c (pk_4 lm_D_175) ?_
  refine pk_c (pk_4 lm_D_179) ?_
  refine pk_c (pk_4 lm_D_155) ?_
  refine pk_c (pk_2 rfl rfl) ?_
  exact pk_n
theorem ok_L_look {s0 : State} (hS : pm_Str s0) : pm_OKI s0 mi_L_look := by
  refine ⟨Or.inr ⟨_, w_687, pk_hs ⟨rfl, rfl, by decide, ⟨by decide, by decide⟩, by decide, w_281, w_291, Or.inl ⟨by decide +kernel, rfl⟩⟩ (pk_h0)⟩, w_0, by decide +kernel, ⟨by decide +kernel, by decide +kernel⟩, by decide, by decide +kernel, pk_i (by decide +kernel) (pk_all (ks := [(5, .invokevirtual 55, 3, ([88, 3, 0, 1], .null)), (10, .goto 7, 3, ([17], .null)), (16, .ireturn, 1, ([], .null)), (18, .ireturn, 1, ([], .null))]) (by decide +kernel) ?_)⟩
  refine pk_c (pk_4 lm_L_55) ?_
  refine pk_c (pk_0 (Or.inr rfl) ⟨17, rfl, by decide⟩ (Or.inr rfl)) ?_
  refine pk_c (pk_2 rfl (Or.inl ⟨rfl, rfl⟩)) ?_
  refine pk_c (pk_2 rfl (Or.inl ⟨rfl, rfl⟩)) ?_
  exact pk_n
theorem ok_D_look {s0 : State} (hS : pm_Str s0) : pm_OKI s0 mi_D_look := by
  refine ⟨Or.inl ⟨w_691, rfl⟩, w_1, by decide +kernel, ⟨by decide +kernel, by decide +kernel⟩, by decide, by decide +kernel, pk_i (by decide +kernel) (pk_all (ks := [(1, .invokestatic 96, 3, ([28, 1, 0, 0], .null)), (4, .ifCond .ne 7, 3, ([11], .null)), (8, .goto 4, 3, ([12], .null)), (12, .invokestatic 61, 3, ([12, 1, 0, 0], .null)), (16, .getfield 46, 3, ([0, 5], .null)), (23, .tableswitch 109 0 7 #[45, 50, 55, 60, 65, 82, 99, 104], 45, ([132, 68, 73, 78, 83, 88, 105, 122, 127], .null)), (69, .getfield 107, 3, ([7, 0], .null)), (72, .ireturn, 1, ([], .null)), (74, .getfield 131, 3, ([7, 1], .null)), (77, .ireturn, 1, ([], .null)), (79, .getfield 124, 3, ([7, 2], .null)), (82, .ireturn, 1, ([], .null)), (84, .getfield 183, 3, ([7, 3], .null)), (87, .ireturn, 1, ([], .null)), (89, .getfield 107, 3, ([7, 0], .null)), (93, .if_icmp .ne 10, 3, ([103], .null)), (97, .getfield 186, 3, ([7, 5], .null)), (100, .goto 4, 3, ([104], .null)), (104, .ireturn, 1, ([], .null)), (106, .getfield 107, 3, ([7, 0], .null)), (110, .if_icmp .ne 10, 3, ([120], .null)), (114, .getfield 189, 3, ([7, 6], .null)), (117, .goto 4, 3, ([121], .null)), (121, .ireturn, 1, ([], .null)), (123, .getfield 114, 3, ([7, 7], .null)), (126, .ireturn, 1, ([], .null)), (128, .getfield 137, 3, ([7, 8], .null)), (131, .ireturn, 1, ([], .null)), (132, .new 192, 3, ([1, 1, 6], .null))]) (by decide +kernel) ?_)⟩
  refine pk_c (pk_4 lm_D_96) ?_
  refine pk_c (pk_0 (Or.inr rfl) ⟨11, rfl, by decide⟩ (Or.inr rfl)) ?_
  refine pk_c (pk_0 (Or.inr rfl) ⟨12, rfl, by decide⟩ (Or.inr rfl)) ?_
  refine pk_c (pk_4 lm_D_61) ?_
  refine pk_c (pk_0 (Or.inr rfl) ⟨0, 5, rfl, lf_D_46⟩ (Or.inr rfl)) ?_
  refine pk_c (pk_0 (Or.inl rfl) ⟨132, _, rfl, by decide, by decide, by decide, pk_t (by decide +kernel)⟩ (Or.inr rfl)) ?_
  refine pk_c (pk_0 (Or.inr rfl) ⟨7, 0, rfl, lf_D_107⟩ (Or.inr rfl)) ?_
  refine pk_c (pk_2 rfl (Or.inl ⟨rfl, rfl⟩)) ?_
  refine pk_c (pk_0 (Or.inr rfl) ⟨7, 1, rfl, lf_D_131⟩ (Or.inr rfl)) ?_
  refine pk_c (pk_2 rfl (Or.inl ⟨rfl, rfl⟩)) ?_
  refine pk_c (pk_0 (Or.inr rfl) ⟨7, 2, rfl, lf_D_124⟩ (Or.inr rfl)) ?_
  refine pk_c (pk_2 rfl (Or.inl ⟨rfl, rfl⟩)) ?_
  refine pk_c (pk_0 (Or.inr rfl) ⟨7, 3, rfl, lf_D_183⟩ (Or.inr rfl)) ?_
  refine pk_c (pk_2 rfl (Or.inl ⟨rfl, rfl⟩)) ?_
  refine pk_c (pk_0 (Or.inr rfl) ⟨7, 0, rfl, lf_D_107⟩ (Or.inr rfl)) ?_
  refine pk_c (pk_0 (Or.inr rfl) ⟨103, rfl, by decide⟩ (Or.inr rfl)) ?_
  refine pk_c (pk_0 (Or.inr rfl) ⟨7, 5, rfl, lf_D_186⟩ (Or.inr rfl)) ?_
  refine pk_c (pk_0 (Or.inr rfl) ⟨104, rfl, by decide⟩ (Or.inr rfl)) ?_
  refine pk_c (pk_2 rfl (Or.inl ⟨rfl, rfl⟩)) ?_
  refine pk_c (pk_0 (Or.inr rfl) ⟨7, 0, rfl, lf_D_107⟩ (Or.inr rfl)) ?_
  refine pk_c (pk_0 (Or.inr rfl) ⟨120, rfl, by decide⟩ (Or.inr rfl)) ?_
  refine pk_c (pk_0 (Or.inr rfl) ⟨7, 6, rfl, lf_D_189⟩ (Or.inr rfl)) ?_
  refine pk_c (pk_0 (Or.inr rfl) ⟨121, rfl, by decide⟩ (Or.inr rfl)) ?_
  refine pk_c (pk_2 rfl (Or.inl ⟨rfl, rfl⟩)) ?_
  refine pk_c (pk_0 (Or.inr rfl) ⟨7, 7, rfl, lf_D_114⟩ (Or.inr rfl)) ?_
  refine pk_c (pk_2 rfl (Or.inl ⟨rfl, rfl⟩)) ?_
  refine pk_c (pk_0 (Or.inr rfl) ⟨7, 8, rfl, lf_D_137⟩ (Or.inr rfl)) ?_
  refine pk_c (pk_2 rfl (Or.inl ⟨rfl, rfl⟩)) ?_
  refine pk_c (pk_3 ⟨by decide, by decide⟩ rfl (pk_x (is := 194) (ic := 196) (wl := 2) (text := "no such thing to look at") hS (List.mem_of_getElem? (i := 0) rfl) (by decide +kernel) w_289 w_14 (by decide +kernel) oa_1)) ?_
  exact pk_n
theorem ok_L_begin {s0 : State} (hS : pm_Str s0) : pm_OKI s0 mi_L_begin := by
  refine ⟨Or.inr ⟨_, w_695, pk_hs ⟨rfl, rfl, by decide, ⟨by decide, by decide⟩, by decide, w_281, w_291, Or.inr ⟨2, rfl, by decide +kernel, rfl⟩⟩ (pk_h0)⟩, w_0, by decide +kernel, ⟨by decide +kernel, by decide +kernel⟩, by decide, by decide +kernel, pk_i (by decide +kernel) (pk_all (ks := [(2, .invokevirtual 58, 3, ([90, 2, 0, 1], .null)), (5, .goto 6, 3, ([11], .null)), (10, .ireturn, 1, ([], .null)), (12, .ireturn, 1, ([], .null))]) (by decide +kernel) ?_)⟩
  refine pk_c (pk_4 lm_L_58) ?_
  refine pk_c (pk_0 (Or.inr rfl) ⟨11, rfl, by decide⟩ (Or.inr rfl)) ?_
  refine pk_c (pk_2 rfl (Or.inl ⟨rfl, rfl⟩)) ?_
  refine pk_c (pk_2 rfl (Or.inl ⟨rfl, rfl⟩)) ?_
  exact pk_n
theorem ok_D_begin {s0 : State} (hS : pm_Str s0) : pm_OKI s0 mi_D_begin := by
  refine ⟨Or.inl ⟨w_699, rfl⟩, w_1, by decide +kernel, ⟨by decide +kernel, by decide +kernel⟩, by decide, by decide +kernel, pk_i (by decide +kernel) (pk_all (ks := [(2, .if_icmp .lt 9, 3, ([11], .null)), (8, .if_icmp .le 7, 3, ([15], .null)), (12, .goto 4, 3, ([16], .null)), (16, .invokestatic 61, 3, ([12, 1, 0, 0], .null)), (20, .getfield 12, 3, ([0, 0], .null)), (24, .invokevirtual 69, 3, ([14, 2, 0, 2], .null)), (28, .getfield 12, 3, ([0, 0], .null)), (31, .getfield 73, 3, ([1, 1], .null)), (38, .getfield 12, 3, ([0, 0], .null)), (42, .putfield 88, 3, ([1, 3, 0], .null)), (46, .invokevirtual 77, 3, ([16, 1, 0, 1], .null)), (49, .return_, 1, ([], .null))]) (by decide +kernel) ?_)⟩
  refine pk_c (pk_0 (Or.inr rfl) ⟨11, rfl, by decide⟩ (Or.inr rfl)) ?_
  refine pk_c (pk_0 (Or.inr rfl) ⟨15, rfl, by decide⟩ (Or.inr rfl)) ?_
  refine pk_c (pk_0 (Or.inr rfl) ⟨16, rfl, by decide⟩ (Or.inr rfl)) ?_
  refine pk_c (pk_4 lm_D_61) ?_
  refine pk_c (pk_0 (Or.inr rfl) ⟨0, 0, rfl, lf_D_12⟩ (Or.inr rfl)) ?_
  refine pk_c (pk_4 lm_D_69) ?_
  refine pk_c (pk_0 (Or.inr rfl) ⟨0, 0, rfl, lf_D_12⟩ (Or.inr rfl)) ?_
  refine pk_c (pk_0 (Or.inr rfl) ⟨1, 1, rfl, lf_D_73⟩ (Or.inr rfl)) ?_
  refine pk_c (pk_0 (Or.inr rfl) ⟨0, 0, rfl, lf_D_12⟩ (Or.inr rfl)) ?_
  refine pk_c (pk_0 (Or.inr rfl) ⟨1, 3, 0, rfl, lp_D_88 _⟩ (Or.inr rfl)) ?_
  refine pk_c (pk_4 lm_D_77) ?_
  refine pk_c (pk_2 rfl rfl) ?_
  exact pk_n
theorem ok_L_struct {s0 : State} (hS : pm_Str s0) : pm_OKI s0 mi_L_struct := by
  refine ⟨Or.inr ⟨_, w_702, pk_hs ⟨rfl, rfl, by decide, ⟨by decide, by decide⟩, by decide, w_281, w_291, Or.inl ⟨by decide +kernel, rfl⟩⟩ (pk_hs ⟨rfl, rfl, by decide, ⟨by decide, by decide⟩, by decide, w_531, w_545, Or.inl ⟨by decide +kernel, rfl⟩⟩ (pk_hs ⟨rfl, rfl, by decide, ⟨by decide, by decide⟩, by decide, w_703, w_772, Or.inl ⟨by decide +kernel, rfl⟩⟩ (pk_h0)))⟩, w_0, by decide +kernel, ⟨by decide +kernel, by decide +kernel⟩, by decide, by decide +kernel, pk_i (by decide +kernel) (pk_all (ks := [(11, .invokevirtual 62, 3, ([92, 6, 0, 1], .null)), (16, .goto 15, 3, ([31], .null)), (22, .ireturn, 1, ([], .null)), (26, .ireturn, 1, ([], .null)), (30, .ireturn, 1, ([], .null)), (32, .ireturn, 1, ([], .null))]) (by decide +kernel) ?_)⟩
  refine pk_c (pk_4 lm_L_62) ?_
  refine pk_c (pk_0 (Or.inr rfl) ⟨31, rfl, by decide⟩ (Or.inr rfl)) ?_
  refine pk_c (pk_2 rfl (Or.inl ⟨rfl, rfl⟩)) ?_
  refine pk_c (pk_2 rfl (Or.inl ⟨rfl, rfl⟩)) ?_
  refine pk_c (pk_2 rfl (Or.inl ⟨rfl, rfl⟩)) ?_
  refine pk_c (pk_2 rfl (Or.inl ⟨rfl, rfl⟩)) ?_
  exact pk_n
theorem ok_D_struct {s0 : State} (hS : pm_Str s0) : pm_OKI s0 mi_D_struct := by
  refine ⟨Or.inl ⟨w_707, rfl⟩, w_1, by decide +kernel, ⟨by decide +kernel, by decide +kernel⟩, by decide, by decide +kernel, pk_i (by decide +kernel) (pk_all (ks := [(1, .invokestatic 96, 3, ([28, 1, 0, 0], .null)), (4, .ifCond .eq 10, 3, ([14], .null)), (8, .invokestatic 199, 3, ([93, 1, 0, 0], .null)), (11, .ifCond .ne 7, 3, ([18], .null)), (15, .goto 4, 3, ([19], .null)), (19, .invokestatic 61, 3, ([12, 1, 0, 0], .null)), (26, .invokestatic 65, 3, ([13, 2, 0, 0], .null)), (29, .ifCond .eq 23, 3, ([52], .null)), (36, .invokestatic 65, 3, ([13, 2, 0, 0], .null)), (39, .ifCond .eq 13, 3, ([52], .null)), (43, .getfield 12, 3, ([0, 0], .null)), (46, .invokevirtual 202, 3, ([94, 1, 0, 2], .null)), (49, .ifCond .ne 7, 3, ([56], .null)), (53, .goto 4, 3, ([57], .null)), (57, .invokestatic 61, 3, ([12, 1, 0, 0], .null)), (63, .invokevirtual 205, 3, ([95, 3, 0, 1], .null)), (67, .getfield 26, 3, ([0, 2], .null)), (71, .getfield 12, 3, ([0, 0], .null)), (76, .invokevirtual 209, 3, ([96, 2, 0, 1], .null)), (82, .invokevirtual 212, 3, ([97, 3, 0, 1], .null)), (89, .invokevirtual 215, 3, ([98, 6, 0, 4], .null)), (93, .getfield 46, 3, ([0, 5], .null)), (99, .getfield 26, 3, ([0, 2], .null)), (102, .getfield 219, 3, ([3, 0], .null)), (106, .getfield 26, 3, ([0, 2], .null)), (109, .getfield 220, 3, ([3, 1], .null)), (121, .invokevirtual 221, 3, ([45, 6, 0, 8], .null)), (125, .ireturn, 1, ([], .null))]) (by decide +kernel) ?_)⟩
  refine pk_c (pk_4 lm_D_96) ?_
  refine pk_c (pk_0 (Or.inr rfl) ⟨14, rfl, by decide⟩ (Or.inr rfl)) ?_
  refine pk_c (pk_4 lm_D_199) ?_
  refine pk_c (pk_0 (Or.inr rfl) ⟨18, rfl, by decide⟩ (Or.inr rfl)) ?_
  refine pk_c (pk_0 (Or.inr rfl) ⟨19, rfl, by decide⟩ (Or.inr rfl)) ?_
  refine pk_c (pk_4 lm_D_61) ?_
  refine pk_c (pk_4 lm_D_65) ?_
  refine pk_c (pk_0 (Or.inr rfl) ⟨52, rfl, by decide⟩ (Or.inr rfl)) ?_
  refine pk_c (pk_4 lm_D_65) ?_
  refine pk_c (pk_0 (Or.inr rfl) ⟨52, rfl, by decide⟩ (Or.inr rfl)) ?_
  refine pk_c (pk_0 (Or.inr rfl) ⟨0, 0, rfl, lf_D_12⟩ (Or.inr rfl)) ?_
  refine pk_c (pk_4 lm_D_202) ?_
  refine pk_c (pk_0 (Or.inr rfl) ⟨56, rfl, by decide⟩ (Or.inr rfl)) ?_
  refine pk_c (pk_0 (Or.inr rfl) ⟨57, rfl, by decide⟩ (Or.inr rfl)) ?_
  refine pk_c (pk_4 lm_D_61) ?_
  refine pk_c (pk_4 lm_D_205) ?_
  refine pk_c (pk_0 (Or.inr rfl) ⟨0, 2, rfl, lf_D_26⟩ (Or.inr rfl)) ?_
  refine pk_c (pk_0 (Or.inr rfl) ⟨0, 0, rfl, lf_D_12⟩ (Or.inr rfl)) ?_
  refine pk_c (pk_4 lm_D_209) ?_
  refine pk_c (pk_4 lm_D_212) ?_
  refine pk_c (pk_4 lm_D_215) ?_
  refine pk_c (pk_0 (Or.inr rfl) ⟨0, 5, rfl, lf_D_46⟩ (Or.inr rfl)) ?_
  refine pk_c (pk_0 (Or.inr rfl) ⟨0, 2, rfl, lf_D_26⟩ (Or.inr rfl)) ?_
  refine pk_c (pk_0 (Or.inr rfl) ⟨3, 0, rfl, lf_D_219⟩ (Or.inr rfl)) ?_
  refine pk_c (pk_0 (Or.inr rfl) ⟨0, 2, rfl, lf_D_26⟩ (Or.inr rfl)) ?_
  refine pk_c (pk_0 (Or.inr rfl) ⟨3, 1, rfl, lf_D_220⟩ (Or.inr rfl)) ?_
  refine pk_c (pk_4 lm_D_221) ?_
  refine pk_c (pk_2 rfl (Or.inl ⟨rfl, rfl⟩)) ?_
  exact pk_n
theorem ok_D_isBuildSource {s0 : State} (hS : pm_Str s0) : pm_OKI s0 mi_D_isBuildSource := by
  refine ⟨Or.inl ⟨w_710, rfl⟩, w_1, by decide +kernel, ⟨by decide +kernel, by decide +kernel⟩, by decide, by decide +kernel, pk_i (by decide +kernel) (pk_all (ks := [(2, .if_icmp .eq 10, 3, ([12], .null)), (6, .invokestatic 96, 3, ([28, 1, 0, 0], .null)), (9, .ifCond .eq 7, 3, ([16], .null)), (13, .goto 4, 3, ([17], .null)), (17, .ireturn, 1, ([1], .null))]) (by decide +kernel) ?_)⟩
  refine pk_c (pk_0 (Or.inr rfl) ⟨12, rfl, by decide⟩ (Or.inr rfl)) ?_
  refine pk_c (pk_4 lm_D_96) ?_
  refine pk_c (pk_0 (Or.inr rfl) ⟨16, rfl, by decide⟩ (Or.inr rfl)) ?_
  refine pk_c (pk_0 (Or.inr rfl) ⟨17, rfl, by decide⟩ (Or.inr rfl)) ?_
  refine pk_c (pk_2 rfl (Or.inr ⟨rfl, rfl⟩)) ?_
  exact pk_n
theorem ok_Me_isOwn {s0 : State} (hS : pm_Str s0) : pm_OKI s0 mi_Me_isOwn := by
  refine ⟨Or.inl ⟨w_714, rfl⟩, w_2, by decide +kernel, ⟨by decide +kernel, by decide +kernel⟩, by decide, by decide +kernel, pk_i (by decide +kernel) (pk_all (ks := [(1, .getfield 30, 3, ([1, 3], .null)), (4, .ifCond .le 7, 3, ([11], .null)), (8, .goto 4, 3, ([12], .null)), (12, .ireturn, 1, ([1], .null))]) (by decide +kernel) ?_)⟩
  refine pk_c (pk_0 (Or.inr rfl) ⟨1, 3, rfl, lf_Me_30⟩ (Or.inr rfl)) ?_
  refine pk_c (pk_0 (Or.inr rfl) ⟨11, rfl, by decide⟩ (Or.inr rfl)) ?_
  refine pk_c (pk_0 (Or.inr rfl) ⟨12, rfl, by decide⟩ (Or.inr rfl)) ?_
  refine pk_c (pk_2 rfl (Or.inr ⟨rfl, rfl⟩)) ?_
  exact pk_n
theorem ok_D_checkPointer {s0 : State} (hS : pm_Str s0) : pm_OKI s0 mi_D_checkPointer := by
  refine ⟨Or.inl ⟨w_718, rfl⟩, w_1, by decide +kernel, ⟨by decide +kernel, by decide +kernel⟩, by decide, by decide +kernel, pk_i (by decide +kernel) (pk_all (ks := [(1, .ifCond .lt 53, 3, ([54], .null)), (5, .getfield 46, 3, ([0, 5], .null)), (12, .getfield 107, 3, ([7, 0], .null)), (16, .if_icmp .eq 14, 3, ([30], .null)), (20, .invokevirtual 110, 3, ([55, 1, 0, 8], .null)), (23, .ifCond .ne 7, 3, ([30], .null)), (27, .goto 4, 3, ([31], .null)), (31, .invokestatic 117, 3, ([56, 1, 0, 0], .null)), (35, .ifCond .lt 11, 3, ([46], .null)), (40, .invokevirtual 120, 3, ([57, 1, 0, 8], .null)), (43, .if_icmp .lt 7, 3, ([50], .null)), (47, .goto 4, 3, ([51], .null)), (51, .invokestatic 61, 3, ([12, 1, 0, 0], .null)), (54, .return_, 1, ([], .null))]) (by decide +kernel) ?_)⟩
  refine pk_c (pk_0 (Or.inr rfl) ⟨54, rfl, by decide⟩ (Or.inr rfl)) ?_
  refine pk_c (pk_0 (Or.inr rfl) ⟨0, 5, rfl, lf_D_46⟩ (Or.inr rfl)) ?_
  refine pk_c (pk_0 (Or.inr rfl) ⟨7, 0, rfl, lf_D_107⟩ (Or.inr rfl)) ?_
  refine pk_c (pk_0 (Or.inr rfl) ⟨30, rfl, by decide⟩ (Or.inr rfl)) ?_
  refine pk_c (pk_4 lm_D_110) ?_
  refine pk_c (pk_0 (Or.inr rfl) ⟨30, rfl, by decide⟩ (Or.inr rfl)) ?_
  refine pk_c (pk_0 (Or.inr rfl) ⟨31, rfl, by decide⟩ (Or.inr rfl)) ?_
  refine pk_c (pk_4 lm_D_117) ?_
  refine pk_c (pk_0 (Or.inr rfl) ⟨46, rfl, by decide⟩ (Or.inr rfl)) ?_
  refine pk_c (pk_4 lm_D_120) ?_
  refine pk_c (pk_0 (Or.inr rfl) ⟨50, rfl, by decide⟩ (Or.inr rfl)) ?_
  refine pk_c (pk_0 (Or.inr rfl) ⟨51, rfl, by decide⟩ (Or.inr rfl)) ?_
  refine pk_c (pk_4 lm_D_61) ?_
  refine pk_c (pk_2 rfl rfl) ?_
  exact pk_n
theorem ok_D_segmentOf {s0 : State} (hS : pm_Str s0) : pm_OKI s0 mi_D_segmentOf := by
  refine ⟨Or.inl ⟨w_722, rfl⟩, w_1, by decide +kernel, ⟨by decide +kernel, by decide +kernel⟩, by decide, by decide +kernel, pk_i (by decide +kernel) (pk_all (ks := [(1, .ifCond .ge 7, 3, ([8], .null)), (5, .goto 12, 3, ([17], .null)), (9, .getfield 46, 3, ([0, 5], .null)), (14, .getfield 124, 3, ([7, 2], .null)), (17, .ireturn, 1, ([], .null))]) (by decide +kernel) ?_)⟩
  refine pk_c (pk_0 (Or.inr rfl) ⟨8, rfl, by decide⟩ (Or.inr rfl)) ?_
  refine pk_c (pk_0 (Or.inr rfl) ⟨17, rfl, by decide⟩ (Or.inr rfl)) ?_
  refine pk_c (pk_0 (Or.inr rfl) ⟨0, 5, rfl, lf_D_46⟩ (Or.inr rfl)) ?_
  refine pk_c (pk_0 (Or.inr rfl) ⟨7, 2, rfl, lf_D_124⟩ (Or.inr rfl)) ?_
  refine pk_c (pk_2 rfl (Or.inl ⟨rfl, rfl⟩)) ?_
  exact pk_n
theorem ok_D_placeOf {s0 : State} (hS : pm_Str s0) : pm_OKI s0 mi_D_placeOf := by
  refine ⟨Or.inl ⟨w_726, rfl⟩, w_1, by decide +kernel, ⟨by decide +kernel, by decide +kernel⟩, by decide, by decide +kernel, pk_i (by decide +kernel) (pk_all (ks := [(1, .ifCond .ge 7, 3, ([8], .null)), (5, .goto 13, 3, ([18], .null)), (9, .getfield 46, 3, ([0, 5], .null)), (15, .invokevirtual 127, 3, ([58, 2, 0, 8], .null)), (18, .ireturn, 1, ([], .null))]) (by decide +kernel) ?_)⟩
  refine pk_c (pk_0 (Or.inr rfl) ⟨8, rfl, by decide⟩ (Or.inr rfl)) ?_
  refine pk_c (pk_0 (Or.inr rfl) ⟨18, rfl, by decide⟩ (Or.inr rfl)) ?_
  refine pk_c (pk_0 (Or.inr rfl) ⟨0, 5, rfl, lf_D_46⟩ (Or.inr rfl)) ?_
  refine pk_c (pk_4 lm_D_127) ?_
  refine pk_c (pk_2 rfl (Or.inl ⟨rfl, rfl⟩)) ?_
  exact pk_n
theorem ok_Bu_addStruct {s0 : State} (hS : pm_Str s0) : pm_OKI s0 mi_Bu_addStruct := by
  refine ⟨Or.inl ⟨w_730, rfl⟩, w_4, by decide +kernel, ⟨by decide +kernel, by decide +kernel⟩, by decide, by decide +kernel, pk_i (by decide +kernel) (pk_all (ks := [(4, .invokestatic 9, 3, ([99, 2, 0, 0], .null)), (14, .ifCond .ne 30, 3, ([44], .null)), (18, .getfield 15, 3, ([1, 0], .null)), (27, .invokestatic 21, 3, ([100, 2, 0, 0], .null)), (33, .putfield 25, 3, ([3, 0, 0], .null)), (38, .putfield 31, 3, ([3, 1, 0], .null)), (41, .goto 17, 3, ([58], .null)), (55, .invokevirtual 34, 3, ([101, 6, 0, 4], .null)), (58, .return_, 1, ([], .null))]) (by decide +kernel) ?_)⟩
  refine pk_c (pk_4 lm_Bu_9) ?_
  refine pk_c (pk_0 (Or.inr rfl) ⟨44, rfl, by decide⟩ (Or.inr rfl)) ?_
  refine pk_c (pk_0 (Or.inr rfl) ⟨1, 0, rfl, lf_Bu_15⟩ (Or.inr rfl)) ?_
  refine pk_c (pk_4 lm_Bu_21) ?_
  refine pk_c (pk_0 (Or.inr rfl) ⟨3, 0, 0, rfl, lp_Bu_25 _⟩ (Or.inr rfl)) ?_
  refine pk_c (pk_0 (Or.inr rfl) ⟨3, 1, 0, rfl, lp_Bu_31 _⟩ (Or.inr rfl)) ?_
  refine pk_c (pk_0 (Or.inr rfl) ⟨58, rfl, by decide⟩ (Or.inr rfl)) ?_
  refine pk_c (pk_4 lm_Bu_34) ?_
  refine pk_c (pk_2 rfl rfl) ?_
  exact pk_n
theorem ok_Po_toStruct {s0 : State} (hS : pm_Str s0) : pm_OKI s0 mi_Po_toStruct := by
  refine ⟨Or.inl ⟨w_733, rfl⟩, w_17, by decide +kernel, ⟨by decide +kernel, by decide +kernel⟩, by decide, by decide +kernel, pk_i (by decide +kernel) (pk_all (ks := [(13, .lreturn, 1, ([], .null))]) (by decide +kernel) ?_)⟩
  refine pk_c (pk_2 rfl rfl) ?_
  exact pk_n
theorem ok_Po_withOffset {s0 : State} (hS : pm_Str s0) : pm_OKI s0 mi_Po_withOffset := by
  refine ⟨Or.inl ⟨w_736, rfl⟩, w_17, by decide +kernel, ⟨by decide +kernel, by decide +kernel⟩, by decide, by decide +kernel, pk_i (by decide +kernel) (pk_all (ks := [(1, .ldc2_w 14, 3, ([], .long (-4294967293))), (9, .ldc2_w 16, 3, ([], .long 4294967292)), (14, .lreturn, 1, ([], .null))]) (by decide +kernel) ?_)⟩
  refine pk_c (pk_0 (Or.inr rfl) w_737 (Or.inr rfl)) ?_
  refine pk_c (pk_0 (Or.inr rfl) w_738 (Or.inr rfl)) ?_
  refine pk_c (pk_2 rfl rfl) ?_
  exact pk_n
theorem ok_Bu_allocate {s0 : State} (hS : pm_Str s0) : pm_OKI s0 mi_Bu_allocate := by
  refine ⟨Or.inl ⟨w_742, rfl⟩, w_4, by decide +kernel, ⟨by decide +kernel, by decide +kernel⟩, by decide, by decide +kernel, pk_i (by decide +kernel) (pk_all (ks := [(4, .invokevirtual 45, 3, ([102, 3, 0, 2], .null)), (7, .ifCond .eq 41, 3, ([48], .null)), (12, .putfield 25, 3, ([3, 0, 0], .null)), (20, .invokevirtual 49, 3, ([103, 3, 0, 2], .null)), (23, .putfield 31, 3, ([3, 1, 0], .null)), (27, .getfield 15, 3, ([1, 0], .null)), (36, .getfield 31, 3, ([3, 1], .null)), (43, .invokestatic 21, 3, ([100, 2, 0, 0], .null)), (47, .return_, 1, ([], .null)), (53, .invokevirtual 52, 3, ([104, 2, 0, 2], .null)), (60, .ifCond .ge 29, 3, ([89], .null)), (71, .invokevirtual 56, 3, ([105, 6, 0, 4], .null)), (74, .ifCond .eq 4, 3, ([78], .null)), (77, .return_, 1, ([], .null)), (84, .invokevirtual 60, 3, ([107, 3, 0, 4], .null)), (96, .invokevirtual 49, 3, ([103, 3, 0, 2], .null)), (102, .getfield 15, 3, ([1, 0], .null)), (113, .invokestatic 64, 3, ([106, 3, 0, 0], .null)), (118, .getfield 15, 3, ([1, 0], .null)), (132, .putfield 25, 3, ([3, 0, 0], .null)), (140, .putfield 31, 3, ([3, 1, 0], .null)), (143, .return_, 1, ([], .null))]) (by decide +kernel) ?_)⟩
  refine pk_c (pk_4 lm_Bu_45) ?_
  refine pk_c (pk_0 (Or.inr rfl) ⟨48, rfl, by decide⟩ (Or.inr rfl)) ?_
  refine pk_c (pk_0 (Or.inr rfl) ⟨3, 0, 0, rfl, lp_Bu_25 _⟩ (Or.inr rfl)) ?_
  refine pk_c (pk_4 lm_Bu_49) ?_
  refine pk_c (pk_0 (Or.inr rfl) ⟨3, 1, 0, rfl, lp_Bu_31 _⟩ (Or.inr rfl)) ?_
  refine pk_c (pk_0 (Or.inr rfl) ⟨1, 0, rfl, lf_Bu_15⟩ (Or.inr rfl)) ?_
  refine pk_c (pk_0 (Or.inr rfl) ⟨3, 1, rfl, lf_Bu_31⟩ (Or.inr rfl)) ?_
  refine pk_c (pk_4 lm_Bu_21) ?_
  refine pk_c (pk_2 rfl rfl) ?_
  refine pk_c (pk_4 lm_Bu_52) ?_
  refine pk_c (pk_0 (Or.inr rfl) ⟨89, rfl, by decide⟩ (Or.inr rfl)) ?_
  refine pk_c (pk_4 lm_Bu_56) ?_
  refine pk_c (pk_0 (Or.inr rfl) ⟨78, rfl, by decide⟩ (Or.inr rfl)) ?_
  refine pk_c (pk_2 rfl rfl) ?_
  refine pk_c (pk_4 lm_Bu_60) ?_
  refine pk_c (pk_4 lm_Bu_49) ?_
  refine pk_c (pk_0 (Or.inr rfl) ⟨1, 0, rfl, lf_Bu_15⟩ (Or.inr rfl)) ?_
  refine pk_c (pk_4 lm_Bu_64) ?_
  refine pk_c (pk_0 (Or.inr rfl) ⟨1, 0, rfl, lf_Bu_15⟩ (Or.inr rfl)) ?_
  refine pk_c (pk_0 (Or.inr rfl) ⟨3, 0, 0, rfl, lp_Bu_25 _⟩ (Or.inr rfl)) ?_
  refine pk_c (pk_0 (Or.inr rfl) ⟨3, 1, 0, rfl, lp_Bu_31 _⟩ (Or.inr rfl)) ?_
  refine pk_c (pk_2 rfl rfl) ?_
  exact pk_n
theorem ok_Me_hasRoom {s0 : State} (hS : pm_Str s0) : pm_OKI s0 mi_Me_hasRoom := by
  refine ⟨Or.inl ⟨w_746, rfl⟩, w_2, by decide +kernel, ⟨by decide +kernel, by decide +kernel⟩, by decide, by decide +kernel, pk_i (by decide +kernel) (pk_all (ks := [(1, .getfield 30, 3, ([1, 3], .null)), (5, .getfield 16, 3, ([1, 1], .null)), (12, .if_icmp .lt 7, 3, ([19], .null)), (16, .goto 4, 3, ([20], .null)), (20, .ireturn, 1, ([1], .null))]) (by decide +kernel) ?_)⟩
  refine pk_c (pk_0 (Or.inr rfl) ⟨1, 3, rfl, lf_Me_30⟩ (Or.inr rfl)) ?_
  refine pk_c (pk_0 (Or.inr rfl) ⟨1, 1, rfl, lf_Me_16⟩ (Or.inr rfl)) ?_
  refine pk_c (pk_0 (Or.inr rfl) ⟨19, rfl, by decide⟩ (Or.inr rfl)) ?_
  refine pk_c (pk_0 (Or.inr rfl) ⟨20, rfl, by decide⟩ (Or.inr rfl)) ?_
  refine pk_c (pk_2 rfl (Or.inr ⟨rfl, rfl⟩)) ?_
  exact pk_n
theorem ok_Me_claim {s0 : State} (hS : pm_Str s0) : pm_OKI s0 mi_Me_claim := by
  refine ⟨Or.inl ⟨w_750, rfl⟩, w_2, by decide +kernel, ⟨by decide +kernel, by decide +kernel⟩, by decide, by decide +kernel, pk_i (by decide +kernel) (pk_all (ks := [(1, .getfield 16, 3, ([1, 1], .null)), (8, .getfield 16, 3, ([1, 1], .null)), (18, .ireturn, 1, ([], .null))]) (by decide +kernel) ?_)⟩
  refine pk_c (pk_0 (Or.inr rfl) ⟨1, 1, rfl, lf_Me_16⟩ (Or.inr rfl)) ?_
  refine pk_c (pk_0 (Or.inr rfl) ⟨1, 1, rfl, lf_Me_16⟩ (Or.inr rfl)) ?_
  refine pk_c (pk_2 rfl (Or.inl ⟨rfl, rfl⟩)) ?_
  exact pk_n
theorem ok_Me_firstWithRoom {s0 : State} (hS : pm_Str s0) : pm_OKI s0 mi_Me_firstWithRoom := by
  refine ⟨Or.inl ⟨w_754, rfl⟩, w_2, by decide +kernel, ⟨by decide +kernel, by decide +kernel⟩, by decide, by decide +kernel, pk_i (by decide +kernel) (pk_all (ks := [(4, .getfield 20, 3, ([1, 2], .null)), (7, .if_icmp .ge 20, 3, ([27], .null)), (13, .invokevirtual 33, 3, ([102, 3, 0, 2], .null)), (16, .ifCond .eq 5, 3, ([21], .null)), (20, .ireturn, 1, ([], .null)), (24, .goto (-22), 3, ([2], .null)), (28, .ireturn, 1, ([], .null))]) (by decide +kernel) ?_)⟩
  refine pk_c (pk_0 (Or.inr rfl) ⟨1, 2, rfl, lf_Me_20⟩ (Or.inr rfl)) ?_
  refine pk_c (pk_0 (Or.inr rfl) ⟨27, rfl, by decide⟩ (Or.inr rfl)) ?_
  refine pk_c (pk_4 lm_Me_33) ?_
  refine pk_c (pk_0 (Or.inr rfl) ⟨21, rfl, by decide⟩ (Or.inr rfl)) ?_
  refine pk_c (pk_2 rfl (Or.inl ⟨rfl, rfl⟩)) ?_
  refine pk_c (pk_0 (Or.inr rfl) ⟨2, rfl, by decide⟩ (Or.inr rfl)) ?_
  refine pk_c (pk_2 rfl (Or.inl ⟨rfl, rfl⟩)) ?_
  exact pk_n
theorem ok_Bu_allocateDouble {s0 : State} (hS : pm_Str s0) : pm_OKI s0 mi_Bu_allocateDouble := by
  refine ⟨Or.inl ⟨w_759, rfl⟩, w_4, by decide +kernel, ⟨by decide +kernel, by decide +kernel⟩, by decide, by decide +kernel, pk_i (by decide +kernel) (pk_all (ks := [(3, .invokevirtual 52, 3, ([104, 2, 0, 2], .null)), (10, .ifCond .ge 5, 3, ([15], .null)), (14, .ireturn, 1, ([1], .null)), (20, .invokevirtual 49, 3, ([103, 3, 0, 2], .null)), (27, .invokevirtual 52, 3, ([104, 2, 0, 2], .null)), (34, .ifCond .ge 14, 3, ([48], .null)), (38, .getfield 68, 3, ([1, 1], .null)), (47, .ireturn, 1, ([1], .null)), (52, .invokevirtual 49, 3, ([103, 3, 0, 2], .null)), (58, .getfield 15, 3, ([1, 0], .null)), (69, .invokestatic 64, 3, ([106, 3, 0, 0], .null)), (74, .getfield 15, 3, ([1, 0], .null)), (87, .invokestatic 64, 3, ([106, 3, 0, 0], .null)), (92, .getfield 15, 3, ([1, 0], .null)), (108, .putfield 25, 3, ([3, 0, 0], .null)), (114, .putfield 31, 3, ([3, 1, 0], .null)), (118, .ireturn, 1, ([1], .null))]) (by decide +kernel) ?_)⟩
  refine pk_c (pk_4 lm_Bu_52) ?_
  refine pk_c (pk_0 (Or.inr rfl) ⟨15, rfl, by decide⟩ (Or.inr rfl)) ?_
  refine pk_c (pk_2 rfl (Or.inr ⟨rfl, rfl⟩)) ?_
  refine pk_c (pk_4 lm_Bu_49) ?_
  refine pk_c (pk_4 lm_Bu_52) ?_
  refine pk_c (pk_0 (Or.inr rfl) ⟨48, rfl, by decide⟩ (Or.inr rfl)) ?_
  refine pk_c (pk_0 (Or.inr rfl) ⟨1, 1, rfl, lf_Bu_68⟩ (Or.inr rfl)) ?_
  refine pk_c (pk_2 rfl (Or.inr ⟨rfl, rfl⟩)) ?_
  refine pk_c (pk_4 lm_Bu_49) ?_
  refine pk_c (pk_0 (Or.inr rfl) ⟨1, 0, rfl, lf_Bu_15⟩ (Or.inr rfl)) ?_
  refine pk_c (pk_4 lm_Bu_64) ?_
  refine pk_c (pk_0 (Or.inr rfl) ⟨1, 0, rfl, lf_Bu_15⟩ (Or.inr rfl)) ?_
  refine pk_c (pk_4 lm_Bu_64) ?_
  refine pk_c (pk_0 (Or.inr rfl) ⟨1, 0, rfl, lf_Bu_15⟩ (Or.inr rfl)) ?_
  refine pk_c (pk_0 (Or.inr rfl) ⟨3, 0, 0, rfl, lp_Bu_25 _⟩ (Or.inr rfl)) ?_
  refine pk_c (pk_0 (Or.inr rfl) ⟨3, 1, 0, rfl, lp_Bu_31 _⟩ (Or.inr rfl)) ?_
  refine pk_c (pk_2 rfl (Or.inr ⟨rfl, rfl⟩)) ?_
  exact pk_n
theorem ok_Po_toFar {s0 : State} (hS : pm_Str s0) : pm_OKI s0 mi_Po_toFar := by
  refine ⟨Or.inl ⟨w_762, rfl⟩, w_17, by decide +kernel, ⟨by decide +kernel, by decide +kernel⟩, by decide, by decide +kernel, pk_i (by decide +kernel) (pk_all (ks := [(2, .ifCond .eq 7, 3, ([9], .null)), (6, .goto 4, 3, ([10], .null)), (23, .lreturn, 1, ([], .null))]) (by decide +kernel) ?_)⟩
  refine pk_c (pk_0 (Or.inr rfl) ⟨9, rfl, by decide⟩ (Or.inr rfl)) ?_
  refine pk_c (pk_0 (Or.inr rfl) ⟨10, rfl, by decide⟩ (Or.inr rfl)) ?_
  refine pk_c (pk_2 rfl rfl) ?_
  exact pk_n
theorem ok_Bu_newSegment {s0 : State} (hS : pm_Str s0) : pm_OKI s0 mi_Bu_newSegment := by
  refine ⟨Or.inl ⟨w_766, rfl⟩, w_4, by decide +kernel, ⟨by decide +kernel, by decide +kernel⟩, by decide, by decide +kernel, pk_i (by decide +kernel) (pk_all (ks := [(1, .getfield 72, 3, ([1, 2], .null)), (5, .if_icmp .ge 11, 3, ([16], .null)), (10, .getfield 75, 3, ([1, 3], .null)), (13, .if_icmp .le 7, 3, ([20], .null)), (17, .goto 4, 3, ([21], .null)), (21, .invokestatic 78, 3, ([108, 1, 0, 0], .null)), (26, .getfield 72, 3, ([1, 2], .null)), (31, .putfield 72, 3, ([1, 2, 0], .null)), (35, .getfield 72, 3, ([1, 2], .null)), (40, .ireturn, 1, ([], .null))]) (by decide +kernel) ?_)⟩
  refine pk_c (pk_0 (Or.inr rfl) ⟨1, 2, rfl, lf_Bu_72⟩ (Or.inr rfl)) ?_
  refine pk_c (pk_0 (Or.inr rfl) ⟨16, rfl, by decide⟩ (Or.inr rfl)) ?_
  refine pk_c (pk_0 (Or.inr rfl) ⟨1, 3, rfl, lf_Bu_75⟩ (Or.inr rfl)) ?_
  refine pk_c (pk_0 (Or.inr rfl) ⟨20, rfl, by decide⟩ (Or.inr rfl)) ?_
  refine pk_c (pk_0 (Or.inr rfl) ⟨21, rfl, by decide⟩ (Or.inr rfl)) ?_
  refine pk_c (pk_4 lm_Bu_78) ?_
  refine pk_c (pk_0 (Or.inr rfl) ⟨1, 2, rfl, lf_Bu_72⟩ (Or.inr rfl)) ?_
  refine pk_c (pk_0 (Or.inr rfl) ⟨1, 2, 0, rfl, lp_Bu_72 _⟩ (Or.inr rfl)) ?_
  refine pk_c (pk_0 (Or.inr rfl) ⟨1, 2, rfl, lf_Bu_72⟩ (Or.inr rfl)) ?_
  refine pk_c (pk_2 rfl (Or.inl ⟨rfl, rfl⟩)) ?_
  exact pk_n
theorem ok_D_noRoomIf {s0 : State} (hS : pm_Str s0) : pm_OKI s0 mi_D_noRoomIf := by
  refine ⟨Or.inl ⟨w_769, rfl⟩, w_1, by decide +kernel, ⟨by decide +kernel, by decide +kernel⟩, by decide, by decide +kernel, pk_i (by decide +kernel) (pk_all (ks := [(1, .ifCond .eq 14, 3, ([15], .null)), (4, .new 327, 3, ([3, 1, 6], .null)), (15, .return_, 1, ([], .null))]) (by decide +kernel) ?_)⟩
  refine pk_c (pk_0 (Or.inr rfl) ⟨15, rfl, by decide⟩ (Or.inr rfl)) ?_
  refine pk_c (pk_3 ⟨by decide, by decide⟩ rfl (pk_x (is := 329) (ic := 331) (wl := 3) (text := "no room") hS (List.mem_of_getElem? (i := 5) rfl) (by decide +kernel) w_770 w_22 (by decide +kernel) oa_3)) ?_
  refine pk_c (pk_2 rfl rfl) ?_
  exact pk_n
theorem ok_L_list {s0 : State} (hS : pm_Str s0) : pm_OKI s0 mi_L_list := by
  refine ⟨Or.inr ⟨_, w_789, pk_hs ⟨rfl, rfl, by decide, ⟨by decide, by decide⟩, by decide, w_281, w_291, Or.inl ⟨by decide +kernel, rfl⟩⟩ (pk_hs ⟨rfl, rfl, by decide, ⟨by decide, by decide⟩, by decide, w_531, w_545, Or.inl ⟨by decide +kernel, rfl⟩⟩ (pk_hs ⟨rfl, rfl, by decide, ⟨by decide, by decide⟩, by decide, w_703, w_772, Or.inl ⟨by decide +kernel, rfl⟩⟩ (pk_h0)))⟩, w_0, by decide +kernel, ⟨by decide +kernel, by decide +kernel⟩, by decide, by decide +kernel, pk_i (by decide +kernel) (pk_all (ks := [(15, .invokevirtual 68, 3, ([110, 8, 0, 1], .null)), (20, .goto 15, 3, ([35], .null)), (26, .ireturn, 1, ([], .null)), (30, .ireturn, 1, ([], .null)), (34, .ireturn, 1, ([], .null)), (36, .ireturn, 1, ([], .null))]) (by decide +kernel) ?_)⟩
  refine pk_c (pk_4 lm_L_68) ?_
  refine pk_c (pk_0 (Or.inr rfl) ⟨35, rfl, by decide⟩ (Or.inr rfl)) ?_
  refine pk_c (pk_2 rfl (Or.inl ⟨rfl, rfl⟩)) ?_
  refine pk_c (pk_2 rfl (Or.inl ⟨rfl, rfl⟩)) ?_
  refine pk_c (pk_2 rfl (Or.inl ⟨rfl, rfl⟩)) ?_
  refine pk_c (pk_2 rfl (Or.inl ⟨rfl, rfl⟩)) ?_
  exact pk_n
theorem ok_D_list {s0 : State} (hS : pm_Str s0) : pm_OKI s0 mi_D_list := by
  refine ⟨Or.inl ⟨w_793, rfl⟩, w_1, by decide +kernel, ⟨by decide +kernel, by decide +kernel⟩, by decide, by decide +kernel, pk_i (by decide +kernel) (pk_all (ks := [(1, .invokestatic 96, 3, ([28, 1, 0, 0], .null)), (4, .ifCond .eq 30, 3, ([34], .null)), (8, .invokestatic 199, 3, ([93, 1, 0, 0], .null)), (11, .ifCond .eq 23, 3, ([34], .null)), (18, .invokestatic 65, 3, ([13, 2, 0, 0], .null)), (21, .ifCond .eq 13, 3, ([34], .null)), (28, .invokestatic 65, 3, ([13, 2, 0, 0], .null)), (31, .ifCond .ne 7, 3, ([38], .null)), (35, .goto 4, 3, ([39], .null)), (39, .invokestatic 61, 3, ([12, 1, 0, 0], .null)), (46, .if_icmp .ne 27, 3, ([73], .null)), (53, .invokestatic 65, 3, ([13, 2, 0, 0], .null)), (56, .ifCond .eq 13, 3, ([69], .null)), (63, .invokestatic 65, 3, ([13, 2, 0, 0], .null)), (66, .ifCond .ne 7, 3, ([73], .null)), (70, .goto 4, 3, ([74], .null)), (74, .invokestatic 61, 3, ([12, 1, 0, 0], .null)), (78, .getfield 12, 3, ([0, 0], .null)), (81, .invokevirtual 202, 3, ([94, 1, 0, 2], .null)), (84, .ifCond .ne 7, 3, ([91], .null)), (88, .goto 4, 3, ([92], .null)), (92, .invokestatic 61, 3, ([12, 1, 0, 0], .null)), (98, .invokevirtual 205, 3, ([95, 3, 0, 1], .null)), (105, .if_icmp .ne 65, 3, ([170], .null)), (109, .getfield 26, 3, ([0, 2], .null)), (113, .getfield 12, 3, ([0, 0], .null)), (118, .invokevirtual 209, 3, ([96, 2, 0, 1], .null)), (124, .invokevirtual 212, 3, ([97, 3, 0, 1], .null)), (133, .invokevirtual 225, 3, ([111, 7, 0, 4], .null)), (137, .getfield 46, 3, ([0, 5], .null)), (143, .getfield 26, 3, ([0, 2], .null)), (146, .getfield 219, 3, ([3, 0], .null)), (150, .getfield 26, 3, ([0, 2], .null)), (153, .getfield 220, 3, ([3, 1], .null)), (164, .invokevirtual 229, 3, ([49, 7, 0, 8], .null)), (167, .goto 58, 3, ([225], .null)), (171, .getfield 26, 3, ([0, 2], .null)), (175, .getfield 12, 3, ([0, 0], .null)), (180, .invokevirtual 209, 3, ([96, 2, 0, 1], .null)), (186, .invokevirtual 212, 3, ([97, 3, 0, 1], .null)), (193, .invokevirtual 233, 3, ([113, 6, 0, 4], .null)), (197, .getfield 46, 3, ([0, 5], .null)), (203, .getfield 26, 3, ([0, 2], .null)), (206, .getfield 219, 3, ([3, 0], .null)), (210, .getfield 26, 3, ([0, 2], .null)), (213, .getfield 220, 3, ([3, 1], .null)), (222, .invokevirtual 236, 3, ([52, 6, 0, 8], .null)), (226, .ireturn, 1, ([], .null))]) (by decide +kernel) ?_)⟩
  refine pk_c (pk_4 lm_D_96) ?_
  refine pk_c (pk_0 (Or.inr rfl) ⟨34, rfl, by decide⟩ (Or.inr rfl)) ?_
  refine pk_c (pk_4 lm_D_199) ?_
  refine pk_c (pk_0 (Or.inr rfl) ⟨34, rfl, by decide⟩ (Or.inr rfl)) ?_
  refine pk_c (pk_4 lm_D_65) ?_
  refine pk_c (pk_0 (Or.inr rfl) ⟨34, rfl, by decide⟩ (Or.inr rfl)) ?_
  refine pk_c (pk_4 lm_D_65) ?_
  refine pk_c (pk_0 (Or.inr rfl) ⟨38, rfl, by decide⟩ (Or.inr rfl)) ?_
  refine pk_c (pk_0 (Or.inr rfl) ⟨39, rfl, by decide⟩ (Or.inr rfl)) ?_
  refine pk_c (pk_4 lm_D_61) ?_
  refine pk_c (pk_0 (Or.inr rfl) ⟨73, rfl, by decide⟩ (Or.inr rfl)) ?_
  refine pk_c (pk_4 lm_D_65) ?_
  refine pk_c (pk_0 (Or.inr rfl) ⟨69, rfl, by decide⟩ (Or.inr rfl)) ?_
  refine pk_c (pk_4 lm_D_65) ?_
  refine pk_c (pk_0 (Or.inr rfl) ⟨73, rfl, by decide⟩ (Or.inr rfl)) ?_
  refine pk_c (pk_0 (Or.inr rfl) ⟨74, rfl, by decide⟩ (Or.inr rfl)) ?_
  refine pk_c (pk_4 lm_D_61) ?_
  refine pk_c (pk_0 (Or.inr rfl) ⟨0, 0, rfl, lf_D_12⟩ (Or.inr rfl)) ?_
  refine pk_c (pk_4 lm_D_202) ?_
  refine pk_c (pk_0 (Or.inr rfl) ⟨91, rfl, by decide⟩ (Or.inr rfl)) ?_
  refine pk_c (pk_0 (Or.inr rfl) ⟨92, rfl, by decide⟩ (Or.inr rfl)) ?_
  refine pk_c (pk_4 lm_D_61) ?_
  refine pk_c (pk_4 lm_D_205) ?_
  refine pk_c (pk_0 (Or.inr rfl) ⟨170, rfl, by decide⟩ (Or.inr rfl)) ?_
  refine pk_c (pk_0 (Or.inr rfl) ⟨0, 2, rfl, lf_D_26⟩ (Or.inr rfl)) ?_
  refine pk_c (pk_0 (Or.inr rfl) ⟨0, 0, rfl, lf_D_12⟩ (Or.inr rfl)) ?_
  refine pk_c (pk_4 lm_D_209) ?_
  refine pk_c (pk_4 lm_D_212) ?_
  refine pk_c (pk_4 lm_D_225) ?_
  refine pk_c (pk_0 (Or.inr rfl) ⟨0, 5, rfl, lf_D_46⟩ (Or.inr rfl)) ?_
  refine pk_c (pk_0 (Or.inr rfl) ⟨0, 2, rfl, lf_D_26⟩ (Or.inr rfl)) ?_
  refine pk_c (pk_0 (Or.inr rfl) ⟨3, 0, rfl, lf_D_219⟩ (Or.inr rfl)) ?_
  refine pk_c (pk_0 (Or.inr rfl) ⟨0, 2, rfl, lf_D_26⟩ (Or.inr rfl)) ?_
  refine pk_c (pk_0 (Or.inr rfl) ⟨3, 1, rfl, lf_D_220⟩ (Or.inr rfl)) ?_
  refine pk_c (pk_4 lm_D_229) ?_
  refine pk_c (pk_0 (Or.inr rfl) ⟨225, rfl, by decide⟩ (Or.inr rfl)) ?_
  refine pk_c (pk_0 (Or.inr rfl) ⟨0, 2, rfl, lf_D_26⟩ (Or.inr rfl)) ?_
  refine pk_c (pk_0 (Or.inr rfl) ⟨0, 0, rfl, lf_D_12⟩ (Or.inr rfl)) ?_
  refine pk_c (pk_4 lm_D_209) ?_
  refine pk_c (pk_4 lm_D_212) ?_
  refine pk_c (pk_4 lm_D_233) ?_
  refine pk_c (pk_0 (Or.inr rfl) ⟨0, 5, rfl, lf_D_46⟩ (Or.inr rfl)) ?_
  refine pk_c (pk_0 (Or.inr rfl) ⟨0, 2, rfl, lf_D_26⟩ (Or.inr rfl)) ?_
  refine pk_c (pk_0 (Or.inr rfl) ⟨3, 0, rfl, lf_D_219⟩ (Or.inr rfl)) ?_
  refine pk_c (pk_0 (Or.inr rfl) ⟨0, 2, rfl, lf_D_26⟩ (Or.inr rfl)) ?_
  refine pk_c (pk_0 (Or.inr rfl) ⟨3, 1, rfl, lf_D_220⟩ (Or.inr rfl)) ?_
  refine pk_c (pk_4 lm_D_236) ?_
  refine pk_c (pk_2 rfl (Or.inl ⟨rfl, rfl⟩)) ?_
  exact pk_n
theorem ok_Bu_addStructs {s0 : State} (hS : pm_Str s0) : pm_OKI s0 mi_Bu_addStructs := by
  refine ⟨Or.inl ⟨w_797, rfl⟩, w_4, by decide +kernel, ⟨by decide +kernel, by decide +kernel⟩, by decide, by decide +kernel, pk_i (by decide +kernel) (pk_all (ks := [(18, .invokestatic 38, 3, ([112, 2, 0, 0], .null)), (25, .invokevirtual 34, 3, ([101, 6, 0, 4], .null)), (29, .getfield 15, 3, ([1, 0], .null)), (33, .getfield 25, 3, ([3, 0], .null)), (38, .getfield 31, 3, ([3, 1], .null)), (45, .invokestatic 9, 3, ([99, 2, 0, 0], .null)), (50, .invokestatic 21, 3, ([100, 2, 0, 0], .null)), (54, .return_, 1, ([], .null))]) (by decide +kernel) ?_)⟩
  refine pk_c (pk_4 lm_Bu_38) ?_
  refine pk_c (pk_4 lm_Bu_34) ?_
  refine pk_c (pk_0 (Or.inr rfl) ⟨1, 0, rfl, lf_Bu_15⟩ (Or.inr rfl)) ?_
  refine pk_c (pk_0 (Or.inr rfl) ⟨3, 0, rfl, lf_Bu_25⟩ (Or.inr rfl)) ?_
  refine pk_c (pk_0 (Or.inr rfl) ⟨3, 1, rfl, lf_Bu_31⟩ (Or.inr rfl)) ?_
  refine pk_c (pk_4 lm_Bu_9) ?_
  refine pk_c (pk_4 lm_Bu_21) ?_
  refine pk_c (pk_2 rfl rfl) ?_
  exact pk_n
theorem ok_Po_toList {s0 : State} (hS : pm_Str s0) : pm_OKI s0 mi_Po_toList := by
  refine ⟨Or.inl ⟨w_800, rfl⟩, w_17, by decide +kernel, ⟨by decide +kernel, by decide +kernel⟩, by decide, by decide +kernel, pk_i (by decide +kernel) (pk_all (ks := [(13, .lreturn, 1, ([], .null))]) (by decide +kernel) ?_)⟩
  refine pk_c (pk_2 rfl rfl) ?_
  exact pk_n
theorem ok_Bu_addList {s0 : State} (hS : pm_Str s0) : pm_OKI s0 mi_Bu_addList := by
  refine ⟨Or.inl ⟨w_805, rfl⟩, w_4, by decide +kernel, ⟨by decide +kernel, by decide +kernel⟩, by decide, by decide +kernel, pk_i (by decide +kernel) (pk_all (ks := [(8, .invokestatic 38, 3, ([112, 2, 0, 0], .null)), (15, .invokestatic 41, 3, ([51, 2, 0, 0], .null)), (18, .invokevirtual 34, 3, ([101, 6, 0, 4], .null)), (21, .return_, 1, ([], .null))]) (by decide +kernel) ?_)⟩
  refine pk_c (pk_4 lm_Bu_38) ?_
  refine pk_c (pk_4 lm_Bu_41) ?_
  refine pk_c (pk_4 lm_Bu_34) ?_
  refine pk_c (pk_2 rfl rfl) ?_
  exact pk_n
theorem ok_L_put {s0 : State} (hS : pm_Str s0) : pm_OKI s0 mi_L_put := by
  refine ⟨Or.inr ⟨_, w_810, pk_hs ⟨rfl, rfl, by decide, ⟨by decide, by decide⟩, by decide, w_281, w_291, Or.inl ⟨by decide +kernel, rfl⟩⟩ (pk_hs ⟨rfl, rfl, by decide, ⟨by decide, by decide⟩, by decide, w_531, w_545, Or.inl ⟨by decide +kernel, rfl⟩⟩ (pk_h0))⟩, w_0, by decide +kernel, ⟨by decide +kernel, by decide +kernel⟩, by decide, by decide +kernel, pk_i (by decide +kernel) (pk_all (ks := [(6, .invokevirtual 72, 3, ([115, 5, 0, 1], .null)), (9, .goto 11, 3, ([20], .null)), (15, .ireturn, 1, ([], .null)), (19, .ireturn, 1, ([], .null)), (21, .ireturn, 1, ([], .null))]) (by decide +kernel) ?_)⟩
  refine pk_c (pk_4 lm_L_72) ?_
  refine pk_c (pk_0 (Or.inr rfl) ⟨20, rfl, by decide⟩ (Or.inr rfl)) ?_
  refine pk_c (pk_2 rfl (Or.inl ⟨rfl, rfl⟩)) ?_
  refine pk_c (pk_2 rfl (Or.inl ⟨rfl, rfl⟩)) ?_
  refine pk_c (pk_2 rfl (Or.inl ⟨rfl, rfl⟩)) ?_
  exact pk_n
theorem ok_D_put {s0 : State} (hS : pm_Str s0) : pm_OKI s0 mi_D_put := by
  refine ⟨Or.inl ⟨w_814, rfl⟩, w_1, by decide +kernel, ⟨by decide +kernel, by decide +kernel⟩, by decide, by decide +kernel, pk_i (by decide +kernel) (pk_all (ks := [(1, .invokestatic 96, 3, ([28, 1, 0, 0], .null)), (4, .ifCond .eq 24, 3, ([28], .null)), (8, .invokestatic 144, 3, ([66, 1, 0, 0], .null)), (11, .ifCond .eq 17, 3, ([28], .null)), (15, .ifCond .lt 13, 3, ([28], .null)), (19, .getfield 12, 3, ([0, 0], .null)), (22, .invokevirtual 202, 3, ([94, 1, 0, 2], .null)), (25, .ifCond .ne 7, 3, ([32], .null)), (29, .goto 4, 3, ([33], .null)), (33, .invokestatic 61, 3, ([12, 1, 0, 0], .null)), (37, .getfield 46, 3, ([0, 5], .null)), (46, .getfield 107, 3, ([7, 0], .null)), (50, .if_icmp .eq 16, 3, ([66], .null)), (56, .invokevirtual 239, 3, ([116, 2, 0, 8], .null)), (59, .ifCond .ne 7, 3, ([66], .null)), (63, .goto 4, 3, ([67], .null)), (67, .invokestatic 117, 3, ([56, 1, 0, 0], .null)), (74, .invokevirtual 242, 3, ([68, 3, 0, 8], .null)), (77, .ifCond .ne 7, 3, ([84], .null)), (81, .goto 4, 3, ([85], .null)), (85, .invokestatic 61, 3, ([12, 1, 0, 0], .null)), (89, .getfield 12, 3, ([0, 0], .null)), (94, .getfield 124, 3, ([7, 2], .null)), (101, .invokevirtual 175, 3, ([69, 3, 0, 8], .null)), (107, .invokevirtual 245, 3, ([117, 5, 0, 2], .null)), (110, .return_, 1, ([], .null))]) (by decide +kernel) ?_)⟩
  refine pk_c (pk_4 lm_D_96) ?_
  refine pk_c (pk_0 (Or.inr rfl) ⟨28, rfl, by decide⟩ (Or.inr rfl)) ?_
  refine pk_c (pk_4 lm_D_144) ?_
  refine pk_c (pk_0 (Or.inr rfl) ⟨28, rfl, by decide⟩ (Or.inr rfl)) ?_
  refine pk_c (pk_0 (Or.inr rfl) ⟨28, rfl, by decide⟩ (Or.inr rfl)) ?_
  refine pk_c (pk_0 (Or.inr rfl) ⟨0, 0, rfl, lf_D_12⟩ (Or.inr rfl)) ?_
  refine pk_c (pk_4 lm_D_202) ?_
  refine pk_c (pk_0 (Or.inr rfl) ⟨32, rfl, by decide⟩ (Or.inr rfl)) ?_
  refine pk_c (pk_0 (Or.inr rfl) ⟨33, rfl, by decide⟩ (Or.inr rfl)) ?_
  refine pk_c (pk_4 lm_D_61) ?_
  refine pk_c (pk_0 (Or.inr rfl) ⟨0, 5, rfl, lf_D_46⟩ (Or.inr rfl)) ?_
  refine pk_c (pk_0 (Or.inr rfl) ⟨7, 0, rfl, lf_D_107⟩ (Or.inr rfl)) ?_
  refine pk_c (pk_0 (Or.inr rfl) ⟨66, rfl, by decide⟩ (Or.inr rfl)) ?_
  refine pk_c (pk_4 lm_D_239) ?_
  refine pk_c (pk_0 (Or.inr rfl) ⟨66, rfl, by decide⟩ (Or.inr rfl)) ?_
  refine pk_c (pk_0 (Or.inr rfl) ⟨67, rfl, by decide⟩ (Or.inr rfl)) ?_
  refine pk_c (pk_4 lm_D_117) ?_
  refine pk_c (pk_4 lm_D_242) ?_
  refine pk_c (pk_0 (Or.inr rfl) ⟨84, rfl, by decide⟩ (Or.inr rfl)) ?_
  refine pk_c (pk_0 (Or.inr rfl) ⟨85, rfl, by decide⟩ (Or.inr rfl)) ?_
  refine pk_c (pk_4 lm_D_61) ?_
  refine pk_c (pk_0 (Or.inr rfl) ⟨0, 0, rfl, lf_D_12⟩ (Or.inr rfl)) ?_
  refine pk_c (pk_0 (Or.inr rfl) ⟨7, 2, rfl, lf_D_124⟩ (Or.inr rfl)) ?_
  refine pk_c (pk_4 lm_D_175) ?_
  refine pk_c (pk_4 lm_D_245) ?_
  refine pk_c (pk_2 rfl rfl) ?_
  exact pk_n
theorem ok_Sp_isListOfPieces {s0 : State} (hS : pm_Str s0) : pm_OKI s0 mi_Sp_isListOfPieces := by
  refine ⟨Or.inl ⟨w_818, rfl⟩, w_8, by decide +kernel, ⟨by decide +kernel, by decide +kernel⟩, by decide, by decide +kernel, pk_i (by decide +kernel) (pk_all (ks := [(1, .getfield 49, 3, ([7, 0], .null)), (5, .if_icmp .ne 35, 3, ([40], .null)), (9, .getfield 22, 3, ([7, 8], .null)), (13, .if_icmp .lt 27, 3, ([40], .null)), (17, .getfield 22, 3, ([7, 8], .null)), (21, .if_icmp .gt 19, 3, ([40], .null)), (24, .getstatic 28, 3, ([], .retAddr 1)), (28, .getfield 22, 3, ([7, 8], .null)), (33, .if_icmp .ne 7, 3, ([40], .null)), (37, .goto 4, 3, ([41], .null)), (41, .ireturn, 1, ([1], .null))]) (by decide +kernel) ?_)⟩
  refine pk_c (pk_0 (Or.inr rfl) ⟨7, 0, rfl, lf_Sp_49⟩ (Or.inr rfl)) ?_
  refine pk_c (pk_0 (Or.inr rfl) ⟨40, rfl, by decide⟩ (Or.inr rfl)) ?_
  refine pk_c (pk_0 (Or.inr rfl) ⟨7, 8, rfl, lf_Sp_22⟩ (Or.inr rfl)) ?_
  refine pk_c (pk_0 (Or.inr rfl) ⟨40, rfl, by decide⟩ (Or.inr rfl)) ?_
  refine pk_c (pk_0 (Or.inr rfl) ⟨7, 8, rfl, lf_Sp_22⟩ (Or.inr rfl)) ?_
  refine pk_c (pk_0 (Or.inr rfl) ⟨40, rfl, by decide⟩ (Or.inr rfl)) ?_
  refine pk_c (pk_0 (Or.inr rfl) (Or.inr ⟨"SegmentDesk", w_527⟩) (Or.inr rfl)) ?_
  refine pk_c (pk_0 (Or.inr rfl) ⟨7, 8, rfl, lf_Sp_22⟩ (Or.inr rfl)) ?_
  refine pk_c (pk_0 (Or.inr rfl) ⟨40, rfl, by decide⟩ (Or.inr rfl)) ?_
  refine pk_c (pk_0 (Or.inr rfl) ⟨41, rfl, by decide⟩ (Or.inr rfl)) ?_
  refine pk_c (pk_2 rfl (Or.inr ⟨rfl, rfl⟩)) ?_
  exact pk_n
theorem ok_Me_setPiece {s0 : State} (hS : pm_Str s0) : pm_OKI s0 mi_Me_setPiece := by
  refine ⟨Or.inl ⟨w_822, rfl⟩, w_2, by decide +kernel, ⟨by decide +kernel, by decide +kernel⟩, by decide, by decide +kernel, pk_i (by decide +kernel) (pk_all (ks := [(1, .invokestatic 37, 3, ([71, 1, 0, 0], .null)), (12, .getfield 11, 3, ([1, 0], .null)), (22, .getfield 11, 3, ([1, 0], .null)), (34, .ldc2_w 41, 3, ([], .long (-1))), (51, .return_, 1, ([], .null))]) (by decide +kernel) ?_)⟩
  refine pk_c (pk_4 lm_Me_37) ?_
  refine pk_c (pk_0 (Or.inr rfl) ⟨1, 0, rfl, lf_Me_11⟩ (Or.inr rfl)) ?_
  refine pk_c (pk_0 (Or.inr rfl) ⟨1, 0, rfl, lf_Me_11⟩ (Or.inr rfl)) ?_
  refine pk_c (pk_0 (Or.inr rfl) w_823 (Or.inr rfl)) ?_
  refine pk_c (pk_2 rfl rfl) ?_
  exact pk_n
theorem ok_L_putReal {s0 : State} (hS : pm_Str s0) : pm_OKI s0 mi_L_putReal := by
  refine ⟨Or.inr ⟨_, w_826, pk_hs ⟨rfl, rfl, by decide, ⟨by decide, by decide⟩, by decide, w_281, w_291, Or.inl ⟨by decide +kernel, rfl⟩⟩ (pk_hs ⟨rfl, rfl, by decide, ⟨by decide, by decide⟩, by decide, w_531, w_545, Or.inl ⟨by decide +kernel, rfl⟩⟩ (pk_hs ⟨rfl, rfl, by decide, ⟨by decide, by decide⟩, by decide, w_624, w_646, Or.inl ⟨by decide +kernel, rfl⟩⟩ (pk_h0)))⟩, w_0, by decide +kernel, ⟨by decide +kernel, by decide +kernel⟩, by decide, by decide +kernel, pk_i (by decide +kernel) (pk_all (ks := [(6, .invokevirtual 76, 3, ([119, 5, 0, 1], .null)), (9, .goto 15, 3, ([24], .null)), (15, .ireturn, 1, ([], .null)), (19, .ireturn, 1, ([], .null)), (23, .ireturn, 1, ([], .null)), (25, .ireturn, 1, ([], .null))]) (by decide +kernel) ?_)⟩
  refine pk_c (pk_4 lm_L_76) ?_
  refine pk_c (pk_0 (Or.inr rfl) ⟨24, rfl, by decide⟩ (Or.inr rfl)) ?_
  refine pk_c (pk_2 rfl (Or.inl ⟨rfl, rfl⟩)) ?_
  refine pk_c (pk_2 rfl (Or.inl ⟨rfl, rfl⟩)) ?_
  refine pk_c (pk_2 rfl (Or.inl ⟨rfl, rfl⟩)) ?_
  refine pk_c (pk_2 rfl (Or.inl ⟨rfl, rfl⟩)) ?_
  exact pk_n
theorem ok_D_putReal {s0 : State} (hS : pm_Str s0) : pm_OKI s0 mi_D_putReal := by
  refine ⟨Or.inl ⟨w_830, rfl⟩, w_1, by decide +kernel, ⟨by decide +kernel, by decide +kernel⟩, by decide, by decide +kernel, pk_i (by decide +kernel) (pk_all (ks := [(1, .ifCond .eq 8, 3, ([9], .null)), (6, .goto 5, 3, ([11], .null)), (14, .invokestatic 96, 3, ([28, 1, 0, 0], .null)), (17, .ifCond .eq 17, 3, ([34], .null)), (21, .ifCond .lt 13, 3, ([34], .null)), (25, .getfield 12, 3, ([0, 0], .null)), (28, .invokevirtual 202, 3, ([94, 1, 0, 2], .null)), (31, .ifCond .ne 7, 3, ([38], .null)), (35, .goto 4, 3, ([39], .null)), (39, .invokestatic 61, 3, ([12, 1, 0, 0], .null)), (43, .getfield 46, 3, ([0, 5], .null)), (52, .getfield 107, 3, ([7, 0], .null)), (56, .if_icmp .eq 7, 3, ([63], .null)), (60, .goto 4, 3, ([64], .null)), (64, .invokestatic 117, 3, ([56, 1, 0, 0], .null)), (72, .invokevirtual 242, 3, ([68, 3, 0, 8], .null)), (75, .ifCond .ne 7, 3, ([82], .null)), (79, .goto 4, 3, ([83], .null)), (83, .invokestatic 61, 3, ([12, 1, 0, 0], .null)), (89, .invokestatic 249, 3, ([120, 2, 0, 0], .null)), (92, .ifCond .ne 7, 3, ([99], .null)), (96, .goto 4, 3, ([100], .null)), (100, .invokestatic 165, 3, ([79, 1, 0, 0], .null)), (104, .getfield 12, 3, ([0, 0], .null)), (109, .getfield 124, 3, ([7, 2], .null)), (117, .invokevirtual 175, 3, ([69, 3, 0, 8], .null)), (125, .invokestatic 253, 3, ([121, 2, 0, 0], .null)), (128, .invokevirtual 245, 3, ([117, 5, 0, 2], .null)), (131, .return_, 1, ([], .null))]) (by decide +kernel) ?_)⟩
  refine pk_c (pk_0 (Or.inr rfl) ⟨9, rfl, by decide⟩ (Or.inr rfl)) ?_
  refine pk_c (pk_0 (Or.inr rfl) ⟨11, rfl, by decide⟩ (Or.inr rfl)) ?_
  refine pk_c (pk_4 lm_D_96) ?_
  refine pk_c (pk_0 (Or.inr rfl) ⟨34, rfl, by decide⟩ (Or.inr rfl)) ?_
  refine pk_c (pk_0 (Or.inr rfl) ⟨34, rfl, by decide⟩ (Or.inr rfl)) ?_
  refine pk_c (pk_0 (Or.inr rfl) ⟨0, 0, rfl, lf_D_12⟩ (Or.inr rfl)) ?_
  refine pk_c (pk_4 lm_D_202) ?_
  refine pk_c (pk_0 (Or.inr rfl) ⟨38, rfl, by decide⟩ (Or.inr rfl)) ?_
  refine pk_c (pk_0 (Or.inr rfl) ⟨39, rfl, by decide⟩ (Or.inr rfl)) ?_
  refine pk_c (pk_4 lm_D_61) ?_
  refine pk_c (pk_0 (Or.inr rfl) ⟨0, 5, rfl, lf_D_46⟩ (Or.inr rfl)) ?_
  refine pk_c (pk_0 (Or.inr rfl) ⟨7, 0, rfl, lf_D_107⟩ (Or.inr rfl)) ?_
  refine pk_c (pk_0 (Or.inr rfl) ⟨63, rfl, by decide⟩ (Or.inr rfl)) ?_
  refine pk_c (pk_0 (Or.inr rfl) ⟨64, rfl, by decide⟩ (Or.inr rfl)) ?_
  refine pk_c (pk_4 lm_D_117) ?_
  refine pk_c (pk_4 lm_D_242) ?_
  refine pk_c (pk_0 (Or.inr rfl) ⟨82, rfl, by decide⟩ (Or.inr rfl)) ?_
  refine pk_c (pk_0 (Or.inr rfl) ⟨83, rfl, by decide⟩ (Or.inr rfl)) ?_
  refine pk_c (pk_4 lm_D_61) ?_
  refine pk_c (pk_4 lm_D_249) ?_
  refine pk_c (pk_0 (Or.inr rfl) ⟨99, rfl, by decide⟩ (Or.inr rfl)) ?_
  refine pk_c (pk_0 (Or.inr rfl) ⟨100, rfl, by decide⟩ (Or.inr rfl)) ?_
  refine pk_c (pk_4 lm_D_165) ?_
  refine pk_c (pk_0 (Or.inr rfl) ⟨0, 0, rfl, lf_D_12⟩ (Or.inr rfl)) ?_
  refine pk_c (pk_0 (Or.inr rfl) ⟨7, 2, rfl, lf_D_124⟩ (Or.inr rfl)) ?_
  refine pk_c (pk_4 lm_D_175) ?_
  refine pk_c (pk_4 lm_D_253) ?_
  refine pk_c (pk_4 lm_D_245) ?_
  refine pk_c (pk_2 rfl rfl) ?_
  exact pk_n
theorem ok_Ra_canHold {s0 : State} (hS : pm_Str s0) : pm_OKI s0 mi_Ra_canHold := by
  refine ⟨Or.inl ⟨w_833, rfl⟩, w_19, by decide +kernel, ⟨by decide +kernel, by decide +kernel⟩, by decide, by decide +kernel, pk_i (by decide +kernel) (pk_all (ks := [(0, .ldc2_w 47, 3, ([], .double 9218868437227405311)), (8, .ifCond .lt 9, 3, ([17], .null)), (14, .ifCond .le 5, 3, ([19], .null)), (18, .ireturn, 1, ([1], .null)), (19, .ldc2_w 49, 3, ([], .double 5183643170566569984)), (30, .ifCond .ne 20, 3, ([50], .null)), (39, .ifCond .lt 15, 3, ([54], .null)), (47, .ifCond .gt 7, 3, ([54], .null)), (51, .goto 4, 3, ([55], .null)), (55, .ireturn, 1, ([1], .null))]) (by decide +kernel) ?_)⟩
  refine pk_c (pk_0 (Or.inr rfl) w_834 (Or.inr rfl)) ?_
  refine pk_c (pk_0 (Or.inr rfl) ⟨17, rfl, by decide⟩ (Or.inr rfl)) ?_
  refine pk_c (pk_0 (Or.inr rfl) ⟨19, rfl, by decide⟩ (Or.inr rfl)) ?_
  refine pk_c (pk_2 rfl (Or.inr ⟨rfl, rfl⟩)) ?_
  refine pk_c (pk_0 (Or.inr rfl) w_835 (Or.inr rfl)) ?_
  refine pk_c (pk_0 (Or.inr rfl) ⟨50, rfl, by decide⟩ (Or.inr rfl)) ?_
  refine pk_c (pk_0 (Or.inr rfl) ⟨54, rfl, by decide⟩ (Or.inr rfl)) ?_
  refine pk_c (pk_0 (Or.inr rfl) ⟨54, rfl, by decide⟩ (Or.inr rfl)) ?_
  refine pk_c (pk_0 (Or.inr rfl) ⟨55, rfl, by decide⟩ (Or.inr rfl)) ?_
  refine pk_c (pk_2 rfl (Or.inr ⟨rfl, rfl⟩)) ?_
  exact pk_n
theorem ok_Ra_toBits {s0 : State} (hS : pm_Str s0) : pm_OKI s0 mi_Ra_toBits := by
  refine ⟨Or.inl ⟨w_838, rfl⟩, w_19, by decide +kernel, ⟨by decide +kernel, by decide +kernel⟩, by decide, by decide +kernel, pk_i (by decide +kernel) (pk_all (ks := [(1, .ifCond .eq 7, 3, ([8], .null)), (5, .goto 6, 3, ([11], .null)), (15, .ifCond .lt 17, 3, ([32], .null)), (21, .ifCond .ne 15, 3, ([36], .null)), (29, .ifCond .ge 7, 3, ([36], .null)), (33, .goto 4, 3, ([37], .null)), (41, .ifCond .eq 19, 3, ([60], .null)), (46, .ifCond .eq 8, 3, ([54], .null)), (51, .goto 5, 3, ([56], .null)), (57, .goto 4, 3, ([61], .null)), (68, .ifCond .ge 8, 3, ([76], .null)), (73, .goto 4, 3, ([77], .null)), (78, .invokestatic 51, 3, ([122, 2, 0, 0], .null)), (82, .lreturn, 1, ([], .null))]) (by decide +kernel) ?_)⟩
  refine pk_c (pk_0 (Or.inr rfl) ⟨8, rfl, by decide⟩ (Or.inr rfl)) ?_
  refine pk_c (pk_0 (Or.inr rfl) ⟨11, rfl, by decide⟩ (Or.inr rfl)) ?_
  refine pk_c (pk_0 (Or.inr rfl) ⟨32, rfl, by decide⟩ (Or.inr rfl)) ?_
  refine pk_c (pk_0 (Or.inr rfl) ⟨36, rfl, by decide⟩ (Or.inr rfl)) ?_
  refine pk_c (pk_0 (Or.inr rfl) ⟨36, rfl, by decide⟩ (Or.inr rfl)) ?_
  refine pk_c (pk_0 (Or.inr rfl) ⟨37, rfl, by decide⟩ (Or.inr rfl)) ?_
  refine pk_c (pk_0 (Or.inr rfl) ⟨60, rfl, by decide⟩ (Or.inr rfl)) ?_
  refine pk_c (pk_0 (Or.inr rfl) ⟨54, rfl, by decide⟩ (Or.inr rfl)) ?_
  refine pk_c (pk_0 (Or.inr rfl) ⟨56, rfl, by decide⟩ (Or.inr rfl)) ?_
  refine pk_c (pk_0 (Or.inr rfl) ⟨61, rfl, by decide⟩ (Or.inr rfl)) ?_
  refine pk_c (pk_0 (Or.inr rfl) ⟨76, rfl, by decide⟩ (Or.inr rfl)) ?_
  refine pk_c (pk_0 (Or.inr rfl) ⟨77, rfl, by decide⟩ (Or.inr rfl)) ?_
  refine pk_c (pk_4 lm_Ra_51) ?_
  refine pk_c (pk_2 rfl rfl) ?_
  exact pk_n
theorem ok_Ra_sizeBits {s0 : State} (hS : pm_Str s0) : pm_OKI s0 mi_Ra_sizeBits := by
  refine ⟨Or.inl ⟨w_841, rfl⟩, w_19, by decide +kernel, ⟨by decide +kernel, by decide +kernel⟩, by decide, by decide +kernel, pk_i (by decide +kernel) (pk_all (ks := [(3, .ifCond .ne 5, 3, ([8], .null)), (7, .lreturn, 1, ([], .null)), (9, .invokestatic 7, 3, ([77, 1, 0, 0], .null)), (32, .if_icmp .ge 32, 3, ([64], .null)), (39, .ldc2_w 43, 3, ([], .double 4751297606875873280)), (44, .ifCond .lt 20, 3, ([64], .null)), (49, .ldc2_w 43, 3, ([], .double 4751297606875873280)), (61, .goto (-33), 3, ([28], .null)), (71, .if_icmp .ge 32, 3, ([103], .null)), (78, .ldc2_w 43, 3, ([], .double 4751297606875873280)), (83, .ifCond .ge 20, 3, ([103], .null)), (88, .ldc2_w 43, 3, ([], .double 4751297606875873280)), (100, .goto (-33), 3, ([67], .null)), (110, .if_icmp .ge 32, 3, ([142], .null)), (117, .ldc2_w 45, 3, ([], .double 4611686018427387904)), (122, .ifCond .lt 20, 3, ([142], .null)), (127, .ldc2_w 45, 3, ([], .double 4611686018427387904)), (139, .goto (-33), 3, ([106], .null)), (149, .if_icmp .ge 28, 3, ([177], .null)), (157, .ifCond .ge 20, 3, ([177], .null)), (162, .ldc2_w 45, 3, ([], .double 4611686018427387904)), (174, .goto (-29), 3, ([145], .null)), (185, .invokestatic 32, 3, ([82, 1, 0, 0], .null)), (190, .invokestatic 55, 3, ([123, 3, 0, 0], .null)), (193, .lreturn, 1, ([], .null))]) (by decide +kernel) ?_)⟩
  refine pk_c (pk_0 (Or.inr rfl) ⟨8, rfl, by decide⟩ (Or.inr rfl)) ?_
  refine pk_c (pk_2 rfl rfl) ?_
  refine pk_c (pk_4 lm_Ra_7) ?_
  refine pk_c (pk_0 (Or.inr rfl) ⟨64, rfl, by decide⟩ (Or.inr rfl)) ?_
  refine pk_c (pk_0 (Or.inr rfl) w_676 (Or.inr rfl)) ?_
  refine pk_c (pk_0 (Or.inr rfl) ⟨64, rfl, by decide⟩ (Or.inr rfl)) ?_
  refine pk_c (pk_0 (Or.inr rfl) w_676 (Or.inr rfl)) ?_
  refine pk_c (pk_0 (Or.inr rfl) ⟨28, rfl, by decide⟩ (Or.inr rfl)) ?_
  refine pk_c (pk_0 (Or.inr rfl) ⟨103, rfl, by decide⟩ (Or.inr rfl)) ?_
  refine pk_c (pk_0 (Or.inr rfl) w_676 (Or.inr rfl)) ?_
  refine pk_c (pk_0 (Or.inr rfl) ⟨103, rfl, by decide⟩ (Or.inr rfl)) ?_
  refine pk_c (pk_0 (Or.inr rfl) w_676 (Or.inr rfl)) ?_
  refine pk_c (pk_0 (Or.inr rfl) ⟨67, rfl, by decide⟩ (Or.inr rfl)) ?_
  refine pk_c (pk_0 (Or.inr rfl) ⟨142, rfl, by decide⟩ (Or.inr rfl)) ?_
  refine pk_c (pk_0 (Or.inr rfl) w_677 (Or.inr rfl)) ?_
  refine pk_c (pk_0 (Or.inr rfl) ⟨142, rfl, by decide⟩ (Or.inr rfl)) ?_
  refine pk_c (pk_0 (Or.inr rfl) w_677 (Or.inr rfl)) ?_
  refine pk_c (pk_0 (Or.inr rfl) ⟨106, rfl, by decide⟩ (Or.inr rfl)) ?_
  refine pk_c (pk_0 (Or.inr rfl) ⟨177, rfl, by decide⟩ (Or.inr rfl)) ?_
  refine pk_c (pk_0 (Or.inr rfl) ⟨177, rfl, by decide⟩ (Or.inr rfl)) ?_
  refine pk_c (pk_0 (Or.inr rfl) w_677 (Or.inr rfl)) ?_
  refine pk_c (pk_0 (Or.inr rfl) ⟨145, rfl, by decide⟩ (Or.inr rfl)) ?_
  refine pk_c (pk_4 lm_Ra_32) ?_
  refine pk_c (pk_4 lm_Ra_55) ?_
  refine pk_c (pk_2 rfl rfl) ?_
  exact pk_n
theorem ok_Ra_joined {s0 : State} (hS : pm_Str s0) : pm_OKI s0 mi_Ra_joined := by
  refine ⟨Or.inl ⟨w_844, rfl⟩, w_19, by decide +kernel, ⟨by decide +kernel, by decide +kernel⟩, by decide, by decide +kernel, pk_i (by decide +kernel) (pk_all (ks := [(2, .if_icmp .lt 15, 3, ([17], .null)), (11, .invokestatic 20, 3, ([71, 1, 0, 0], .null)), (16, .lreturn, 1, ([], .null)), (22, .lreturn, 1, ([], .null))]) (by decide +kernel) ?_)⟩
  refine pk_c (pk_0 (Or.inr rfl) ⟨17, rfl, by decide⟩ (Or.inr rfl)) ?_
  refine pk_c (pk_4 lm_Ra_20) ?_
  refine pk_c (pk_2 rfl rfl) ?_
  refine pk_c (pk_2 rfl rfl) ?_
  exact pk_n
theorem ok_L_pack {s0 : State} (hS : pm_Str s0) : pm_OKI s0 mi_L_pack := by
  refine ⟨Or.inr ⟨_, w_847, pk_hs ⟨rfl, rfl, by decide, ⟨by decide, by decide⟩, by decide, w_703, w_772, Or.inr ⟨2, rfl, by decide +kernel, rfl⟩⟩ (pk_h0)⟩, w_0, by decide +kernel, ⟨by decide +kernel, by decide +kernel⟩, by decide, by decide +kernel, pk_i (by decide +kernel) (pk_all (ks := [(3, .invokevirtual 80, 3, ([125, 1, 0, 1], .null)), (8, .goto 6, 3, ([14], .null)), (13, .ireturn, 1, ([], .null)), (15, .ireturn, 1, ([], .null))]) (by decide +kernel) ?_)⟩
  refine pk_c (pk_4 lm_L_80) ?_
  refine pk_c (pk_0 (Or.inr rfl) ⟨14, rfl, by decide⟩ (Or.inr rfl)) ?_
  refine pk_c (pk_2 rfl (Or.inl ⟨rfl, rfl⟩)) ?_
  refine pk_c (pk_2 rfl (Or.inl ⟨rfl, rfl⟩)) ?_
  exact pk_n
theorem ok_D_pack {s0 : State} (hS : pm_Str s0) : pm_OKI s0 mi_D_pack := by
  refine ⟨Or.inl ⟨w_851, rfl⟩, w_1, by decide +kernel, ⟨by decide +kernel, by decide +kernel⟩, by decide, by decide +kernel, pk_i (by decide +kernel) (pk_all (ks := [(1, .getfield 33, 3, ([0, 3], .null)), (5, .getfield 12, 3, ([0, 0], .null)), (8, .invokevirtual 257, 3, ([126, 2, 0, 5], .null)), (12, .getfield 57, 3, ([0, 7], .null)), (16, .putfield 261, 3, ([8, 1, 0], .null)), (20, .getfield 33, 3, ([0, 3], .null)), (24, .getfield 57, 3, ([0, 7], .null)), (27, .invokevirtual 262, 3, ([129, 2, 0, 5], .null)), (31, .getfield 57, 3, ([0, 7], .null)), (37, .getfield 53, 3, ([0, 6], .null)), (40, .putfield 57, 3, ([0, 7, 2], .null)), (45, .putfield 53, 3, ([0, 6, 2], .null)), (49, .getfield 53, 3, ([0, 6], .null)), (52, .getfield 261, 3, ([8, 1], .null)), (55, .ireturn, 1, ([], .null))]) (by decide +kernel) ?_)⟩
  refine pk_c (pk_0 (Or.inr rfl) ⟨0, 3, rfl, lf_D_33⟩ (Or.inr rfl)) ?_
  refine pk_c (pk_0 (Or.inr rfl) ⟨0, 0, rfl, lf_D_12⟩ (Or.inr rfl)) ?_
  refine pk_c (pk_4 lm_D_257) ?_
  refine pk_c (pk_0 (Or.inr rfl) ⟨0, 7, rfl, lf_D_57⟩ (Or.inr rfl)) ?_
  refine pk_c (pk_0 (Or.inr rfl) ⟨8, 1, 0, rfl, lp_D_261 _⟩ (Or.inr rfl)) ?_
  refine pk_c (pk_0 (Or.inr rfl) ⟨0, 3, rfl, lf_D_33⟩ (Or.inr rfl)) ?_
  refine pk_c (pk_0 (Or.inr rfl) ⟨0, 7, rfl, lf_D_57⟩ (Or.inr rfl)) ?_
  refine pk_c (pk_4 lm_D_262) ?_
  refine pk_c (pk_0 (Or.inr rfl) ⟨0, 7, rfl, lf_D_57⟩ (Or.inr rfl)) ?_
  refine pk_c (pk_0 (Or.inr rfl) ⟨0, 6, rfl, lf_D_53⟩ (Or.inr rfl)) ?_
  refine pk_c (pk_0 (Or.inr rfl) ⟨0, 7, 2, rfl, lp_D_57 _⟩ (Or.inr rfl)) ?_
  refine pk_c (pk_0 (Or.inr rfl) ⟨0, 6, 2, rfl, lp_D_53 _⟩ (Or.inr rfl)) ?_
  refine pk_c (pk_0 (Or.inr rfl) ⟨0, 6, rfl, lf_D_53⟩ (Or.inr rfl)) ?_
  refine pk_c (pk_0 (Or.inr rfl) ⟨8, 1, rfl, lf_D_261⟩ (Or.inr rfl)) ?_
  refine pk_c (pk_2 rfl (Or.inl ⟨rfl, rfl⟩)) ?_
  exact pk_n
theorem ok_Fr_fill {s0 : State} (hS : pm_Str s0) : pm_OKI s0 mi_Fr_fill := by
  refine ⟨Or.inl ⟨w_855, rfl⟩, w_5, by decide +kernel, ⟨by decide +kernel, by decide +kernel⟩, by decide, by decide +kernel, pk_i (by decide +kernel) (pk_all (ks := [(2, .getfield 15, 3, ([1, 2], .null)), (5, .invokestatic 21, 3, ([127, 1, 0, 0], .null)), (8, .putfield 25, 3, ([4, 1, 0], .null)), (15, .getfield 25, 3, ([4, 1], .null)), (18, .if_icmp .ge 35, 3, ([53], .null)), (22, .getfield 9, 3, ([4, 0], .null)), (30, .invokestatic 28, 3, ([128, 2, 0, 0], .null)), (39, .invokestatic 28, 3, ([128, 2, 0, 0], .null)), (50, .goto (-37), 3, ([13], .null)), (57, .getfield 15, 3, ([1, 2], .null)), (60, .if_icmp .ge 48, 3, ([108], .null)), (64, .getfield 32, 3, ([1, 0], .null)), (71, .getfield 9, 3, ([4, 0], .null)), (75, .getfield 25, 3, ([4, 1], .null)), (79, .getfield 36, 3, ([1, 1], .null)), (84, .invokestatic 40, 3, ([4], .null)), (89, .getfield 25, 3, ([4, 1], .null)), (93, .getfield 36, 3, ([1, 1], .null)), (99, .putfield 25, 3, ([4, 1, 0], .null)), (105, .goto (-50), 3, ([55], .null)), (108, .return_, 1, ([], .null))]) (by decide +kernel) ?_)⟩
  refine pk_c (pk_0 (Or.inr rfl) ⟨1, 2, rfl, lf_Fr_15⟩ (Or.inr rfl)) ?_
  refine pk_c (pk_4 lm_Fr_21) ?_
  refine pk_c (pk_0 (Or.inr rfl) ⟨4, 1, 0, rfl, lp_Fr_25 _⟩ (Or.inr rfl)) ?_
  refine pk_c (pk_0 (Or.inr rfl) ⟨4, 1, rfl, lf_Fr_25⟩ (Or.inr rfl)) ?_
  refine pk_c (pk_0 (Or.inr rfl) ⟨53, rfl, by decide⟩ (Or.inr rfl)) ?_
  refine pk_c (pk_0 (Or.inr rfl) ⟨4, 0, rfl, lf_Fr_9⟩ (Or.inr rfl)) ?_
  refine pk_c (pk_4 lm_Fr_28) ?_
  refine pk_c (pk_4 lm_Fr_28) ?_
  refine pk_c (pk_0 (Or.inr rfl) ⟨13, rfl, by decide⟩ (Or.inr rfl)) ?_
  refine pk_c (pk_0 (Or.inr rfl) ⟨1, 2, rfl, lf_Fr_15⟩ (Or.inr rfl)) ?_
  refine pk_c (pk_0 (Or.inr rfl) ⟨108, rfl, by decide⟩ (Or.inr rfl)) ?_
  refine pk_c (pk_0 (Or.inr rfl) ⟨1, 0, rfl, lf_Fr_32⟩ (Or.inr rfl)) ?_
  refine pk_c (pk_0 (Or.inr rfl) ⟨4, 0, rfl, lf_Fr_9⟩ (Or.inr rfl)) ?_
  refine pk_c (pk_0 (Or.inr rfl) ⟨4, 1, rfl, lf_Fr_25⟩ (Or.inr rfl)) ?_
  refine pk_c (pk_0 (Or.inr rfl) ⟨1, 1, rfl, lf_Fr_36⟩ (Or.inr rfl)) ?_
  refine pk_c (pk_0 (Or.inr rfl) (Or.inr ⟨rfl, w_862, w_864, w_863, w_23⟩) (Or.inr rfl)) ?_
  refine pk_c (pk_0 (Or.inr rfl) ⟨4, 1, rfl, lf_Fr_25⟩ (Or.inr rfl)) ?_
  refine pk_c (pk_0 (Or.inr rfl) ⟨1, 1, rfl, lf_Fr_36⟩ (Or.inr rfl)) ?_
  refine pk_c (pk_0 (Or.inr rfl) ⟨4, 1, 0, rfl, lp_Fr_25 _⟩ (Or.inr rfl)) ?_
  refine pk_c (pk_0 (Or.inr rfl) ⟨55, rfl, by decide⟩ (Or.inr rfl)) ?_
  refine pk_c (pk_2 rfl rfl) ?_
  exact pk_n
theorem ok_Fr_headGroups {s0 : State} (hS : pm_Str s0) : pm_OKI s0 mi_Fr_headGroups := by
  refine ⟨Or.inl ⟨w_858, rfl⟩, w_5, by decide +kernel, ⟨by decide +kernel, by decide +kernel⟩, by decide, by decide +kernel, pk_i (by decide +kernel) (pk_all (ks := [(5, .ireturn, 1, ([], .null))]) (by decide +kernel) ?_)⟩
  refine pk_c (pk_2 rfl (Or.inl ⟨rfl, rfl⟩)) ?_
  exact pk_n
theorem ok_Fr_numberInFront {s0 : State} (hS : pm_Str s0) : pm_OKI s0 mi_Fr_numberInFront := by
  refine ⟨Or.inl ⟨w_861, rfl⟩, w_5, by decide +kernel, ⟨by decide +kernel, by decide +kernel⟩, by decide, by decide +kernel, pk_i (by decide +kernel) (pk_all (ks := [(1, .ifCond .ne 11, 3, ([12], .null)), (5, .getfield 15, 3, ([1, 2], .null)), (11, .lreturn, 1, ([], .null)), (14, .getfield 15, 3, ([1, 2], .null)), (17, .if_icmp .gt 15, 3, ([32], .null)), (21, .getfield 36, 3, ([1, 1], .null)), (29, .goto 4, 3, ([33], .null)), (33, .lreturn, 1, ([], .null))]) (by decide +kernel) ?_)⟩
  refine pk_c (pk_0 (Or.inr rfl) ⟨12, rfl, by decide⟩ (Or.inr rfl)) ?_
  refine pk_c (pk_0 (Or.inr rfl) ⟨1, 2, rfl, lf_Fr_15⟩ (Or.inr rfl)) ?_
  refine pk_c (pk_2 rfl rfl) ?_
  refine pk_c (pk_0 (Or.inr rfl) ⟨1, 2, rfl, lf_Fr_15⟩ (Or.inr rfl)) ?_
  refine pk_c (pk_0 (Or.inr rfl) ⟨32, rfl, by decide⟩ (Or.inr rfl)) ?_
  refine pk_c (pk_0 (Or.inr rfl) ⟨1, 1, rfl, lf_Fr_36⟩ (Or.inr rfl)) ?_
  refine pk_c (pk_0 (Or.inr rfl) ⟨33, rfl, by decide⟩ (Or.inr rfl)) ?_
  refine pk_c (pk_2 rfl rfl) ?_
  exact pk_n
theorem ok_Fr_packInto {s0 : State} (hS : pm_Str s0) : pm_OKI s0 mi_Fr_packInto := by
  refine ⟨Or.inl ⟨w_868, rfl⟩, w_5, by decide +kernel, ⟨by decide +kernel, by decide +kernel⟩, by decide, by decide +kernel, pk_i (by decide +kernel) (pk_all (ks := [(4, .getfield 25, 3, ([4, 1], .null)), (7, .if_icmp .ge 115, 3, ([122], .null)), (11, .getfield 9, 3, ([4, 0], .null)), (16, .invokestatic 48, 3, ([130, 1, 0, 0], .null)), (22, .invokevirtual 52, 3, ([132, 2, 0, 9], .null)), (27, .getfield 9, 3, ([4, 0], .null)), (33, .invokestatic 58, 3, ([133, 3, 0, 0], .null)), (40, .ifCond .eq 10, 3, ([50], .null)), (47, .if_icmp .ne 72, 3, ([119], .null)), (51, .ifCond .ne 11, 3, ([62], .null)), (56, .invokevirtual 62, 3, ([134, 2, 0, 5], .null)), (59, .goto 8, 3, ([67], .null)), (64, .invokevirtual 65, 3, ([135, 2, 0, 5], .null)), (72, .invokevirtual 52, 3, ([132, 2, 0, 9], .null)), (82, .if_icmp .ne 32, 3, ([114], .null)), (89, .if_icmp .ge 25, 3, ([114], .null)), (94, .getfield 9, 3, ([4, 0], .null)), (105, .invokestatic 58, 3, ([133, 3, 0, 0], .null)), (111, .goto (-33), 3, ([78], .null)), (119, .goto (-117), 3, ([2], .null)), (122, .return_, 1, ([], .null))]) (by decide +kernel) ?_)⟩
  refine pk_c (pk_0 (Or.inr rfl) ⟨4, 1, rfl, lf_Fr_25⟩ (Or.inr rfl)) ?_
  refine pk_c (pk_0 (Or.inr rfl) ⟨122, rfl, by decide⟩ (Or.inr rfl)) ?_
  refine pk_c (pk_0 (Or.inr rfl) ⟨4, 0, rfl, lf_Fr_9⟩ (Or.inr rfl)) ?_
  refine pk_c (pk_4 lm_Fr_48) ?_
  refine pk_c (pk_4 lm_Fr_52) ?_
  refine pk_c (pk_0 (Or.inr rfl) ⟨4, 0, rfl, lf_Fr_9⟩ (Or.inr rfl)) ?_
  refine pk_c (pk_4 lm_Fr_58) ?_
  refine pk_c (pk_0 (Or.inr rfl) ⟨50, rfl, by decide⟩ (Or.inr rfl)) ?_
  refine pk_c (pk_0 (Or.inr rfl) ⟨119, rfl, by decide⟩ (Or.inr rfl)) ?_
  refine pk_c (pk_0 (Or.inr rfl) ⟨62, rfl, by decide⟩ (Or.inr rfl)) ?_
  refine pk_c (pk_4 lm_Fr_62) ?_
  refine pk_c (pk_0 (Or.inr rfl) ⟨67, rfl, by decide⟩ (Or.inr rfl)) ?_
  refine pk_c (pk_4 lm_Fr_65) ?_
  refine pk_c (pk_4 lm_Fr_52) ?_
  refine pk_c (pk_0 (Or.inr rfl) ⟨114, rfl, by decide⟩ (Or.inr rfl)) ?_
  refine pk_c (pk_0 (Or.inr rfl) ⟨114, rfl, by decide⟩ (Or.inr rfl)) ?_
  refine pk_c (pk_0 (Or.inr rfl) ⟨4, 0, rfl, lf_Fr_9⟩ (Or.inr rfl)) ?_
  refine pk_c (pk_4 lm_Fr_58) ?_
  refine pk_c (pk_0 (Or.inr rfl) ⟨78, rfl, by decide⟩ (Or.inr rfl)) ?_
  refine pk_c (pk_0 (Or.inr rfl) ⟨2, rfl, by decide⟩ (Or.inr rfl)) ?_
  refine pk_c (pk_2 rfl rfl) ?_
  exact pk_n
theorem ok_Fr_tagOf {s0 : State} (hS : pm_Str s0) : pm_OKI s0 mi_Fr_tagOf := by
  refine ⟨Or.inl ⟨w_871, rfl⟩, w_5, by decide +kernel, ⟨by decide +kernel, by decide +kernel⟩, by decide, by decide +kernel, pk_i (by decide +kernel) (pk_all (ks := [(7, .if_icmp .ge 23, 3, ([30], .null)), (12, .invokestatic 68, 3, ([131, 2, 0, 0], .null)), (15, .ifCond .eq 9, 3, ([24], .null)), (27, .goto (-23), 3, ([4], .null)), (31, .ireturn, 1, ([], .null))]) (by decide +kernel) ?_)⟩
  refine pk_c (pk_0 (Or.inr rfl) ⟨30, rfl, by decide⟩ (Or.inr rfl)) ?_
  refine pk_c (pk_4 lm_Fr_68) ?_
  refine pk_c (pk_0 (Or.inr rfl) ⟨24, rfl, by decide⟩ (Or.inr rfl)) ?_
  refine pk_c (pk_0 (Or.inr rfl) ⟨4, rfl, by decide⟩ (Or.inr rfl)) ?_
  refine pk_c (pk_2 rfl (Or.inl ⟨rfl, rfl⟩)) ?_
  exact pk_n
theorem ok_D_octetOf {s0 : State} (hS : pm_Str s0) : pm_OKI s0 mi_D_octetOf := by
  refine ⟨Or.inl ⟨w_874, rfl⟩, w_1, by decide +kernel, ⟨by decide +kernel, by decide +kernel⟩, by decide, by decide +kernel, pk_i (by decide +kernel) (pk_all (ks := [(11, .ireturn, 1, ([], .null))]) (by decide +kernel) ?_)⟩
  refine pk_c (pk_2 rfl (Or.inl ⟨rfl, rfl⟩)) ?_
  exact pk_n
theorem ok_Oc_add {s0 : State} (hS : pm_Str s0) : pm_OKI s0 mi_Oc_add := by
  refine ⟨Or.inl ⟨w_878, rfl⟩, w_9, by decide +kernel, ⟨by decide +kernel, by decide +kernel⟩, by decide, by decide +kernel, pk_i (by decide +kernel) (pk_all (ks := [(1, .getfield 15, 3, ([8, 1], .null)), (7, .if_icmp .lt 7, 3, ([14], .null)), (11, .goto 4, 3, ([15], .null)), (15, .invokestatic 19, 3, ([108, 1, 0, 0], .null)), (19, .getfield 9, 3, ([8, 0], .null)), (23, .getfield 15, 3, ([8, 1], .null)), (31, .getfield 15, 3, ([8, 1], .null)), (36, .putfield 15, 3, ([8, 1, 0], .null)), (39, .return_, 1, ([], .null))]) (by decide +kernel) ?_)⟩
  refine pk_c (pk_0 (Or.inr rfl) ⟨8, 1, rfl, lf_Oc_15⟩ (Or.inr rfl)) ?_
  refine pk_c (pk_0 (Or.inr rfl) ⟨14, rfl, by decide⟩ (Or.inr rfl)) ?_
  refine pk_c (pk_0 (Or.inr rfl) ⟨15, rfl, by decide⟩ (Or.inr rfl)) ?_
  refine pk_c (pk_4 lm_Oc_19) ?_
  refine pk_c (pk_0 (Or.inr rfl) ⟨8, 0, rfl, lf_Oc_9⟩ (Or.inr rfl)) ?_
  refine pk_c (pk_0 (Or.inr rfl) ⟨8, 1, rfl, lf_Oc_15⟩ (Or.inr rfl)) ?_
  refine pk_c (pk_0 (Or.inr rfl) ⟨8, 1, rfl, lf_Oc_15⟩ (Or.inr rfl)) ?_
  refine pk_c (pk_0 (Or.inr rfl) ⟨8, 1, 0, rfl, lp_Oc_15 _⟩ (Or.inr rfl)) ?_
  refine pk_c (pk_2 rfl rfl) ?_
  exact pk_n
theorem ok_Fr_addOctets {s0 : State} (hS : pm_Str s0) : pm_OKI s0 mi_Fr_addOctets := by
  refine ⟨Or.inl ⟨w_882, rfl⟩, w_5, by decide +kernel, ⟨by decide +kernel, by decide +kernel⟩, by decide, by decide +kernel, pk_i (by decide +kernel) (pk_all (ks := [(7, .if_icmp .ge 28, 3, ([35], .null)), (16, .ifCond .eq 13, 3, ([29], .null)), (23, .invokestatic 68, 3, ([131, 2, 0, 0], .null)), (26, .invokevirtual 52, 3, ([132, 2, 0, 9], .null)), (32, .goto (-29), 3, ([3], .null)), (35, .return_, 1, ([], .null))]) (by decide +kernel) ?_)⟩
  refine pk_c (pk_0 (Or.inr rfl) ⟨35, rfl, by decide⟩ (Or.inr rfl)) ?_
  refine pk_c (pk_0 (Or.inr rfl) ⟨29, rfl, by decide⟩ (Or.inr rfl)) ?_
  refine pk_c (pk_4 lm_Fr_68) ?_
  refine pk_c (pk_4 lm_Fr_52) ?_
  refine pk_c (pk_0 (Or.inr rfl) ⟨3, rfl, by decide⟩ (Or.inr rfl)) ?_
  refine pk_c (pk_2 rfl rfl) ?_
  exact pk_n
theorem ok_Fr_zeroRun {s0 : State} (hS : pm_Str s0) : pm_OKI s0 mi_Fr_zeroRun := by
  refine ⟨Or.inl ⟨w_886, rfl⟩, w_5, by decide +kernel, ⟨by decide +kernel, by decide +kernel⟩, by decide, by decide +kernel, pk_i (by decide +kernel) (pk_all (ks := [(6, .if_icmp .ge 32, 3, ([38], .null)), (13, .getfield 25, 3, ([4, 1], .null)), (16, .if_icmp .ge 22, 3, ([38], .null)), (20, .getfield 9, 3, ([4, 0], .null)), (29, .ifCond .ne 9, 3, ([38], .null)), (35, .goto (-33), 3, ([2], .null)), (39, .ireturn, 1, ([], .null))]) (by decide +kernel) ?_)⟩
  refine pk_c (pk_0 (Or.inr rfl) ⟨38, rfl, by decide⟩ (Or.inr rfl)) ?_
  refine pk_c (pk_0 (Or.inr rfl) ⟨4, 1, rfl, lf_Fr_25⟩ (Or.inr rfl)) ?_
  refine pk_c (pk_0 (Or.inr rfl) ⟨38, rfl, by decide⟩ (Or.inr rfl)) ?_
  refine pk_c (pk_0 (Or.inr rfl) ⟨4, 0, rfl, lf_Fr_9⟩ (Or.inr rfl)) ?_
  refine pk_c (pk_0 (Or.inr rfl) ⟨38, rfl, by decide⟩ (Or.inr rfl)) ?_
  refine pk_c (pk_0 (Or.inr rfl) ⟨2, rfl, by decide⟩ (Or.inr rfl)) ?_
  refine pk_c (pk_2 rfl (Or.inl ⟨rfl, rfl⟩)) ?_
  exact pk_n
theorem ok_Fr_fullRun {s0 : State} (hS : pm_Str s0) : pm_OKI s0 mi_Fr_fullRun := by
  refine ⟨Or.inl ⟨w_890, rfl⟩, w_5, by decide +kernel, ⟨by decide +kernel, by decide +kernel⟩, by decide, by decide +kernel, pk_i (by decide +kernel) (pk_all (ks := [(6, .if_icmp .ge 38, 3, ([44], .null)), (13, .getfield 25, 3, ([4, 1], .null)), (16, .if_icmp .ge 28, 3, ([44], .null)), (20, .getfield 9, 3, ([4, 0], .null)), (27, .invokestatic 48, 3, ([130, 1, 0, 0], .null)), (30, .invokestatic 72, 3, ([136, 1, 0, 0], .null)), (35, .if_icmp .lt 9, 3, ([44], .null)), (41, .goto (-39), 3, ([2], .null)), (45, .ireturn, 1, ([], .null))]) (by decide +kernel) ?_)⟩
  refine pk_c (pk_0 (Or.inr rfl) ⟨44, rfl, by decide⟩ (Or.inr rfl)) ?_
  refine pk_c (pk_0 (Or.inr rfl) ⟨4, 1, rfl, lf_Fr_25⟩ (Or.inr rfl)) ?_
  refine pk_c (pk_0 (Or.inr rfl) ⟨44, rfl, by decide⟩ (Or.inr rfl)) ?_
  refine pk_c (pk_0 (Or.inr rfl) ⟨4, 0, rfl, lf_Fr_9⟩ (Or.inr rfl)) ?_
  refine pk_c (pk_4 lm_Fr_48) ?_
  refine pk_c (pk_4 lm_Fr_72) ?_
  refine pk_c (pk_0 (Or.inr rfl) ⟨44, rfl, by decide⟩ (Or.inr rfl)) ?_
  refine pk_c (pk_0 (Or.inr rfl) ⟨2, rfl, by decide⟩ (Or.inr rfl)) ?_
  refine pk_c (pk_2 rfl (Or.inl ⟨rfl, rfl⟩)) ?_
  exact pk_n
theorem ok_JI_bitCount {s0 : State} (hS : pm_Str s0) : pm_OKI s0 mi_JI_bitCount := by
  refine ⟨Or.inl ⟨w_893, rfl⟩, w_24, by decide +kernel, ⟨by decide +kernel, by decide +kernel⟩, by decide, by decide +kernel, pk_i (by decide +kernel) (pk_all (ks := [(4, .ldc_w 265, 3, ([], .int 1431655765)), (11, .ldc_w 266, 3, ([], .int 858993459)), (18, .ldc_w 266, 3, ([], .int 858993459)), (29, .ldc_w 267, 3, ([], .int 252645135)), (52, .ireturn, 1, ([], .null))]) (by decide +kernel) ?_)⟩
  refine pk_c (pk_0 (Or.inr rfl) w_894 (Or.inr rfl)) ?_
  refine pk_c (pk_0 (Or.inr rfl) w_895 (Or.inr rfl)) ?_
  refine pk_c (pk_0 (Or.inr rfl) w_895 (Or.inr rfl)) ?_
  refine pk_c (pk_0 (Or.inr rfl) w_896 (Or.inr rfl)) ?_
  refine pk_c (pk_2 rfl (Or.inl ⟨rfl, rfl⟩)) ?_
  exact pk_n
theorem ok_L_octet {s0 : State} (hS : pm_Str s0) : pm_OKI s0 mi_L_octet := by
  refine ⟨Or.inr ⟨_, w_899, pk_hs ⟨rfl, rfl, by decide, ⟨by decide, by decide⟩, by decide, w_281, w_291, Or.inr ⟨3, rfl, by decide +kernel, rfl⟩⟩ (pk_h0)⟩, w_0, by decide +kernel, ⟨by decide +kernel, by decide +kernel⟩, by decide, by decide +kernel, pk_i (by decide +kernel) (pk_all (ks := [(4, .invokevirtual 84, 3, ([138, 2, 0, 1], .null)), (9, .goto 6, 3, ([15], .null)), (14, .ireturn, 1, ([], .null)), (16, .ireturn, 1, ([], .null))]) (by decide +kernel) ?_)⟩
  refine pk_c (pk_4 lm_L_84) ?_
  refine pk_c (pk_0 (Or.inr rfl) ⟨15, rfl, by decide⟩ (Or.inr rfl)) ?_
  refine pk_c (pk_2 rfl (Or.inl ⟨rfl, rfl⟩)) ?_
  refine pk_c (pk_2 rfl (Or.inl ⟨rfl, rfl⟩)) ?_
  exact pk_n
theorem ok_D_octet {s0 : State} (hS : pm_Str s0) : pm_OKI s0 mi_D_octet := by
  refine ⟨Or.inl ⟨w_903, rfl⟩, w_1, by decide +kernel, ⟨by decide +kernel, by decide +kernel⟩, by decide, by decide +kernel, pk_i (by decide +kernel) (pk_all (ks := [(1, .ifCond .lt 14, 3, ([15], .null)), (6, .getfield 53, 3, ([0, 6], .null)), (9, .getfield 261, 3, ([8, 1], .null)), (12, .if_icmp .lt 7, 3, ([19], .null)), (16, .goto 4, 3, ([20], .null)), (20, .invokestatic 61, 3, ([12, 1, 0, 0], .null)), (24, .getfield 53, 3, ([0, 6], .null)), (27, .getfield 266, 3, ([8, 0], .null)), (36, .ireturn, 1, ([], .null))]) (by decide +kernel) ?_)⟩
  refine pk_c (pk_0 (Or.inr rfl) ⟨15, rfl, by decide⟩ (Or.inr rfl)) ?_
  refine pk_c (pk_0 (Or.inr rfl) ⟨0, 6, rfl, lf_D_53⟩ (Or.inr rfl)) ?_
  refine pk_c (pk_0 (Or.inr rfl) ⟨8, 1, rfl, lf_D_261⟩ (Or.inr rfl)) ?_
  refine pk_c (pk_0 (Or.inr rfl) ⟨19, rfl, by decide⟩ (Or.inr rfl)) ?_
  refine pk_c (pk_0 (Or.inr rfl) ⟨20, rfl, by decide⟩ (Or.inr rfl)) ?_
  refine pk_c (pk_4 lm_D_61) ?_
  refine pk_c (pk_0 (Or.inr rfl) ⟨0, 6, rfl, lf_D_53⟩ (Or.inr rfl)) ?_
  refine pk_c (pk_0 (Or.inr rfl) ⟨8, 0, rfl, lf_D_266⟩ (Or.inr rfl)) ?_
  refine pk_c (pk_2 rfl (Or.inl ⟨rfl, rfl⟩)) ?_
  exact pk_n
theorem ok_L_feed {s0 : State} (hS : pm_Str s0) : pm_OKI s0 mi_L_feed := by
  refine ⟨Or.inr ⟨_, w_906, pk_hs ⟨rfl, rfl, by decide, ⟨by decide, by decide⟩, by decide, w_281, w_291, Or.inl ⟨by decide +kernel, rfl⟩⟩ (pk_hs ⟨rfl, rfl, by decide, ⟨by decide, by decide⟩, by decide, w_703, w_772, Or.inl ⟨by decide +kernel, rfl⟩⟩ (pk_h0))⟩, w_0, by decide +kernel, ⟨by decide +kernel, by decide +kernel⟩, by decide, by decide +kernel, pk_i (by decide +kernel) (pk_all (ks := [(6, .invokevirtual 87, 3, ([140, 3, 0, 1], .null)), (11, .goto 11, 3, ([22], .null)), (17, .ireturn, 1, ([], .null)), (21, .ireturn, 1, ([], .null)), (23, .ireturn, 1, ([], .null))]) (by decide +kernel) ?_)⟩
  refine pk_c (pk_4 lm_L_87) ?_
  refine pk_c (pk_0 (Or.inr rfl) ⟨22, rfl, by decide⟩ (Or.inr rfl)) ?_
  refine pk_c (pk_2 rfl (Or.inl ⟨rfl, rfl⟩)) ?_
  refine pk_c (pk_2 rfl (Or.inl ⟨rfl, rfl⟩)) ?_
  refine pk_c (pk_2 rfl (Or.inl ⟨rfl, rfl⟩)) ?_
  exact pk_n
theorem ok_D_feed {s0 : State} (hS : pm_Str s0) : pm_OKI s0 mi_D_feed := by
  refine ⟨Or.inl ⟨w_910, rfl⟩, w_1, by decide +kernel, ⟨by decide +kernel, by decide +kernel⟩, by decide, by decide +kernel, pk_i (by decide +kernel) (pk_all (ks := [(2, .if_icmp .lt 9, 3, ([11], .null)), (8, .if_icmp .le 7, 3, ([15], .null)), (12, .goto 4, 3, ([16], .null)), (16, .invokestatic 61, 3, ([12, 1, 0, 0], .null)), (20, .getfield 53, 3, ([0, 6], .null)), (23, .getfield 261, 3, ([8, 1], .null)), (31, .if_icmp .le 7, 3, ([38], .null)), (35, .goto 4, 3, ([39], .null)), (39, .invokestatic 270, 3, ([108, 1, 0, 0], .null)), (48, .if_icmp .ge 22, 3, ([70], .null)), (52, .getfield 53, 3, ([0, 6], .null)), (58, .invokestatic 273, 3, ([131, 2, 0, 0], .null)), (61, .invokevirtual 277, 3, ([132, 2, 0, 9], .null)), (67, .goto (-22), 3, ([45], .null)), (71, .getfield 53, 3, ([0, 6], .null)), (74, .getfield 261, 3, ([8, 1], .null)), (77, .ireturn, 1, ([], .null))]) (by decide +kernel) ?_)⟩
  refine pk_c (pk_0 (Or.inr rfl) ⟨11, rfl, by decide⟩ (Or.inr rfl)) ?_
  refine pk_c (pk_0 (Or.inr rfl) ⟨15, rfl, by decide⟩ (Or.inr rfl)) ?_
  refine pk_c (pk_0 (Or.inr rfl) ⟨16, rfl, by decide⟩ (Or.inr rfl)) ?_
  refine pk_c (pk_4 lm_D_61) ?_
  refine pk_c (pk_0 (Or.inr rfl) ⟨0, 6, rfl, lf_D_53⟩ (Or.inr rfl)) ?_
  refine pk_c (pk_0 (Or.inr rfl) ⟨8, 1, rfl, lf_D_261⟩ (Or.inr rfl)) ?_
  refine pk_c (pk_0 (Or.inr rfl) ⟨38, rfl, by decide⟩ (Or.inr rfl)) ?_
  refine pk_c (pk_0 (Or.inr rfl) ⟨39, rfl, by decide⟩ (Or.inr rfl)) ?_
  refine pk_c (pk_4 lm_D_270) ?_
  refine pk_c (pk_0 (Or.inr rfl) ⟨70, rfl, by decide⟩ (Or.inr rfl)) ?_
  refine pk_c (pk_0 (Or.inr rfl) ⟨0, 6, rfl, lf_D_53⟩ (Or.inr rfl)) ?_
  refine pk_c (pk_4 lm_D_273) ?_
  refine pk_c (pk_4 lm_D_277) ?_
  refine pk_c (pk_0 (Or.inr rfl) ⟨45, rfl, by decide⟩ (Or.inr rfl)) ?_
  refine pk_c (pk_0 (Or.inr rfl) ⟨0, 6, rfl, lf_D_53⟩ (Or.inr rfl)) ?_
  refine pk_c (pk_0 (Or.inr rfl) ⟨8, 1, rfl, lf_D_261⟩ (Or.inr rfl)) ?_
  refine pk_c (pk_2 rfl (Or.inl ⟨rfl, rfl⟩)) ?_
  exact pk_n
theorem ok_L_take {s0 : State} (hS : pm_Str s0) : pm_OKI s0 mi_L_take := by
  refine ⟨Or.inr ⟨_, w_916, pk_hs ⟨rfl, rfl, by decide, ⟨by decide, by decide⟩, by decide, w_409, w_422, Or.inr ⟨2, rfl, by decide +kernel, rfl⟩⟩ (pk_h0)⟩, w_0, by decide +kernel, ⟨by decide +kernel, by decide +kernel⟩, by decide, by decide +kernel, pk_i (by decide +kernel) (pk_all (ks := [(3, .invokevirtual 91, 3, ([142, 1, 0, 1], .null)), (8, .goto 6, 3, ([14], .null)), (13, .ireturn, 1, ([], .null)), (15, .ireturn, 1, ([], .null))]) (by decide +kernel) ?_)⟩
  refine pk_c (pk_4 lm_L_91) ?_
  refine pk_c (pk_0 (Or.inr rfl) ⟨14, rfl, by decide⟩ (Or.inr rfl)) ?_
  refine pk_c (pk_2 rfl (Or.inl ⟨rfl, rfl⟩)) ?_
  refine pk_c (pk_2 rfl (Or.inl ⟨rfl, rfl⟩)) ?_
  exact pk_n
theorem ok_D_take {s0 : State} (hS : pm_Str s0) : pm_OKI s0 mi_D_take := by
  refine ⟨Or.inl ⟨w_920, rfl⟩, w_1, by decide +kernel, ⟨by decide +kernel, by decide +kernel⟩, by decide, by decide +kernel, pk_i (by decide +kernel) (pk_all (ks := [(1, .getfield 33, 3, ([0, 3], .null)), (5, .getfield 53, 3, ([0, 6], .null)), (8, .invokevirtual 280, 3, ([143, 2, 0, 5], .null)), (12, .getfield 33, 3, ([0, 3], .null)), (15, .invokevirtual 283, 3, ([147, 1, 0, 5], .null)), (19, .getfield 33, 3, ([0, 3], .null)), (23, .getfield 12, 3, ([0, 0], .null)), (26, .invokevirtual 286, 3, ([149, 2, 0, 5], .null)), (30, .invokevirtual 77, 3, ([16, 1, 0, 1], .null)), (34, .getfield 12, 3, ([0, 0], .null)), (37, .getfield 289, 3, ([1, 2], .null)), (40, .ireturn, 1, ([], .null))]) (by decide +kernel) ?_)⟩
  refine pk_c (pk_0 (Or.inr rfl) ⟨0, 3, rfl, lf_D_33⟩ (Or.inr rfl)) ?_
  refine pk_c (pk_0 (Or.inr rfl) ⟨0, 6, rfl, lf_D_53⟩ (Or.inr rfl)) ?_
  refine pk_c (pk_4 lm_D_280) ?_
  refine pk_c (pk_0 (Or.inr rfl) ⟨0, 3, rfl, lf_D_33⟩ (Or.inr rfl)) ?_
  refine pk_c (pk_4 lm_D_283) ?_
  refine pk_c (pk_0 (Or.inr rfl) ⟨0, 3, rfl, lf_D_33⟩ (Or.inr rfl)) ?_
  refine pk_c (pk_0 (Or.inr rfl) ⟨0, 0, rfl, lf_D_12⟩ (Or.inr rfl)) ?_
  refine pk_c (pk_4 lm_D_286) ?_
  refine pk_c (pk_4 lm_D_77) ?_
  refine pk_c (pk_0 (Or.inr rfl) ⟨0, 0, rfl, lf_D_12⟩ (Or.inr rfl)) ?_
  refine pk_c (pk_0 (Or.inr rfl) ⟨1, 2, rfl, lf_D_289⟩ (Or.inr rfl)) ?_
  refine pk_c (pk_2 rfl (Or.inl ⟨rfl, rfl⟩)) ?_
  exact pk_n
theorem ok_Fr_unpack {s0 : State} (hS : pm_Str s0) : pm_OKI s0 mi_Fr_unpack := by
  refine ⟨Or.inl ⟨w_924, rfl⟩, w_5, by decide +kernel, ⟨by decide +kernel, by decide +kernel⟩, by decide, by decide +kernel, pk_i (by decide +kernel) (pk_all (ks := [(2, .putfield 25, 3, ([4, 1, 0], .null)), (7, .putfield 77, 3, ([4, 2, 0], .null)), (16, .if_icmp .ge 80, 3, ([96], .null)), (20, .getfield 77, 3, ([4, 2], .null)), (24, .getfield 80, 3, ([8, 1], .null)), (27, .if_icmp .ge 69, 3, ([96], .null)), (32, .invokevirtual 81, 3, ([144, 2, 0, 5], .null)), (40, .invokevirtual 85, 3, ([145, 3, 0, 5], .null)), (43, .invokevirtual 89, 3, ([146, 2, 0, 5], .null)), (47, .ifCond .eq 10, 3, ([57], .null)), (54, .if_icmp .ne 36, 3, ([90], .null)), (59, .invokevirtual 81, 3, ([144, 2, 0, 5], .null)), (71, .if_icmp .ge 19, 3, ([90], .null)), (78, .invokevirtual 85, 3, ([145, 3, 0, 5], .null)), (81, .invokevirtual 89, 3, ([146, 2, 0, 5], .null)), (87, .goto (-20), 3, ([67], .null)), (93, .goto (-81), 3, ([12], .null)), (96, .return_, 1, ([], .null))]) (by decide +kernel) ?_)⟩
  refine pk_c (pk_0 (Or.inr rfl) ⟨4, 1, 0, rfl, lp_Fr_25 _⟩ (Or.inr rfl)) ?_
  refine pk_c (pk_0 (Or.inr rfl) ⟨4, 2, 0, rfl, lp_Fr_77 _⟩ (Or.inr rfl)) ?_
  refine pk_c (pk_0 (Or.inr rfl) ⟨96, rfl, by decide⟩ (Or.inr rfl)) ?_
  refine pk_c (pk_0 (Or.inr rfl) ⟨4, 2, rfl, lf_Fr_77⟩ (Or.inr rfl)) ?_
  refine pk_c (pk_0 (Or.inr rfl) ⟨8, 1, rfl, lf_Fr_80⟩ (Or.inr rfl)) ?_
  refine pk_c (pk_0 (Or.inr rfl) ⟨96, rfl, by decide⟩ (Or.inr rfl)) ?_
  refine pk_c (pk_4 lm_Fr_81) ?_
  refine pk_c (pk_4 lm_Fr_85) ?_
  refine pk_c (pk_4 lm_Fr_89) ?_
  refine pk_c (pk_0 (Or.inr rfl) ⟨57, rfl, by decide⟩ (Or.inr rfl)) ?_
  refine pk_c (pk_0 (Or.inr rfl) ⟨90, rfl, by decide⟩ (Or.inr rfl)) ?_
  refine pk_c (pk_4 lm_Fr_81) ?_
  refine pk_c (pk_0 (Or.inr rfl) ⟨90, rfl, by decide⟩ (Or.inr rfl)) ?_
  refine pk_c (pk_4 lm_Fr_85) ?_
  refine pk_c (pk_4 lm_Fr_89) ?_
  refine pk_c (pk_0 (Or.inr rfl) ⟨67, rfl, by decide⟩ (Or.inr rfl)) ?_
  refine pk_c (pk_0 (Or.inr rfl) ⟨12, rfl, by decide⟩ (Or.inr rfl)) ?_
  refine pk_c (pk_2 rfl rfl) ?_
  exact pk_n
theorem ok_Fr_nextOctet {s0 : State} (hS : pm_Str s0) : pm_OKI s0 mi_Fr_nextOctet := by
  refine ⟨Or.inl ⟨w_928, rfl⟩, w_5, by decide +kernel, ⟨by decide +kernel, by decide +kernel⟩, by decide, by decide +kernel, pk_i (by decide +kernel) (pk_all (ks := [(1, .getfield 77, 3, ([4, 2], .null)), (5, .getfield 80, 3, ([8, 1], .null)), (8, .if_icmp .lt 7, 3, ([15], .null)), (12, .goto 4, 3, ([16], .null)), (16, .invokestatic 93, 3, ([29, 1, 0, 0], .null)), (21, .getfield 77, 3, ([4, 2], .null)), (26, .putfield 77, 3, ([4, 2, 0], .null)), (30, .getfield 97, 3, ([8, 0], .null)), (34, .getfield 77, 3, ([4, 2], .null)), (44, .ireturn, 1, ([], .null))]) (by decide +kernel) ?_)⟩
  refine pk_c (pk_0 (Or.inr rfl) ⟨4, 2, rfl, lf_Fr_77⟩ (Or.inr rfl)) ?_
  refine pk_c (pk_0 (Or.inr rfl) ⟨8, 1, rfl, lf_Fr_80⟩ (Or.inr rfl)) ?_
  refine pk_c (pk_0 (Or.inr rfl) ⟨15, rfl, by decide⟩ (Or.inr rfl)) ?_
  refine pk_c (pk_0 (Or.inr rfl) ⟨16, rfl, by decide⟩ (Or.inr rfl)) ?_
  refine pk_c (pk_4 lm_Fr_93) ?_
  refine pk_c (pk_0 (Or.inr rfl) ⟨4, 2, rfl, lf_Fr_77⟩ (Or.inr rfl)) ?_
  refine pk_c (pk_0 (Or.inr rfl) ⟨4, 2, 0, rfl, lp_Fr_77 _⟩ (Or.inr rfl)) ?_
  refine pk_c (pk_0 (Or.inr rfl) ⟨8, 0, rfl, lf_Fr_97⟩ (Or.inr rfl)) ?_
  refine pk_c (pk_0 (Or.inr rfl) ⟨4, 2, rfl, lf_Fr_77⟩ (Or.inr rfl)) ?_
  refine pk_c (pk_2 rfl (Or.inl ⟨rfl, rfl⟩)) ?_
  exact pk_n
theorem ok_Fr_nextGroup {s0 : State} (hS : pm_Str s0) : pm_OKI s0 mi_Fr_nextGroup := by
  refine ⟨Or.inl ⟨w_933, rfl⟩, w_5, by decide +kernel, ⟨by decide +kernel, by decide +kernel⟩, by decide, by decide +kernel, pk_i (by decide +kernel) (pk_all (ks := [(9, .if_icmp .ge 33, 3, ([42], .null)), (18, .ifCond .eq 18, 3, ([36], .null)), (24, .invokevirtual 81, 3, ([144, 2, 0, 5], .null)), (39, .goto (-34), 3, ([5], .null)), (43, .lreturn, 1, ([], .null))]) (by decide +kernel) ?_)⟩
  refine pk_c (pk_0 (Or.inr rfl) ⟨42, rfl, by decide⟩ (Or.inr rfl)) ?_
  refine pk_c (pk_0 (Or.inr rfl) ⟨36, rfl, by decide⟩ (Or.inr rfl)) ?_
  refine pk_c (pk_4 lm_Fr_81) ?_
  refine pk_c (pk_0 (Or.inr rfl) ⟨5, rfl, by decide⟩ (Or.inr rfl)) ?_
  refine pk_c (pk_2 rfl rfl) ?_
  exact pk_n
theorem ok_Fr_addGroup {s0 : State} (hS : pm_Str s0) : pm_OKI s0 mi_Fr_addGroup := by
  refine ⟨Or.inl ⟨w_937, rfl⟩, w_5, by decide +kernel, ⟨by decide +kernel, by decide +kernel⟩, by decide, by decide +kernel, pk_i (by decide +kernel) (pk_all (ks := [(1, .getfield 25, 3, ([4, 1], .null)), (7, .if_icmp .lt 7, 3, ([14], .null)), (11, .goto 4, 3, ([15], .null)), (15, .invokestatic 93, 3, ([29, 1, 0, 0], .null)), (19, .getfield 9, 3, ([4, 0], .null)), (23, .getfield 25, 3, ([4, 1], .null)), (30, .getfield 25, 3, ([4, 1], .null)), (35, .putfield 25, 3, ([4, 1, 0], .null)), (38, .return_, 1, ([], .null))]) (by decide +kernel) ?_)⟩
  refine pk_c (pk_0 (Or.inr rfl) ⟨4, 1, rfl, lf_Fr_25⟩ (Or.inr rfl)) ?_
  refine pk_c (pk_0 (Or.inr rfl) ⟨14, rfl, by decide⟩ (Or.inr rfl)) ?_
  refine pk_c (pk_0 (Or.inr rfl) ⟨15, rfl, by decide⟩ (Or.inr rfl)) ?_
  refine pk_c (pk_4 lm_Fr_93) ?_
  refine pk_c (pk_0 (Or.inr rfl) ⟨4, 0, rfl, lf_Fr_9⟩ (Or.inr rfl)) ?_
  refine pk_c (pk_0 (Or.inr rfl) ⟨4, 1, rfl, lf_Fr_25⟩ (Or.inr rfl)) ?_
  refine pk_c (pk_0 (Or.inr rfl) ⟨4, 1, rfl, lf_Fr_25⟩ (Or.inr rfl)) ?_
  refine pk_c (pk_0 (Or.inr rfl) ⟨4, 1, 0, rfl, lp_Fr_25 _⟩ (Or.inr rfl)) ?_
  refine pk_c (pk_2 rfl rfl) ?_
  exact pk_n
theorem ok_Fr_check {s0 : State} (hS : pm_Str s0) : pm_OKI s0 mi_Fr_check := by
  refine ⟨Or.inl ⟨w_941, rfl⟩, w_5, by decide +kernel, ⟨by decide +kernel, by decide +kernel⟩, by decide, by decide +kernel, pk_i (by decide +kernel) (pk_all (ks := [(1, .getfield 25, 3, ([4, 1], .null)), (4, .ifCond .eq 15, 3, ([19], .null)), (9, .invokevirtual 101, 3, ([148, 2, 0, 5], .null)), (12, .ldc2_w 105, 3, ([], .long 4)), (16, .ifCond .lt 7, 3, ([23], .null)), (20, .goto 4, 3, ([24], .null)), (24, .invokestatic 93, 3, ([29, 1, 0, 0], .null)), (29, .invokevirtual 101, 3, ([148, 2, 0, 5], .null)), (37, .invokestatic 21, 3, ([127, 1, 0, 0], .null)), (42, .getfield 25, 3, ([4, 1], .null)), (46, .if_icmp .ge 7, 3, ([53], .null)), (50, .goto 4, 3, ([54], .null)), (54, .invokestatic 93, 3, ([29, 1, 0, 0], .null)), (61, .if_icmp .ge 42, 3, ([103], .null)), (68, .invokevirtual 101, 3, ([148, 2, 0, 5], .null)), (71, .ldc2_w 107, 3, ([], .long 64)), (75, .ifCond .le 7, 3, ([82], .null)), (79, .goto 4, 3, ([83], .null)), (83, .invokestatic 93, 3, ([29, 1, 0, 0], .null)), (91, .invokevirtual 101, 3, ([148, 2, 0, 5], .null)), (100, .goto (-41), 3, ([59], .null)), (104, .getfield 25, 3, ([4, 1], .null)), (108, .if_icmp .eq 7, 3, ([115], .null)), (112, .goto 4, 3, ([116], .null)), (116, .invokestatic 93, 3, ([29, 1, 0, 0], .null)), (119, .return_, 1, ([], .null))]) (by decide +kernel) ?_)⟩
  refine pk_c (pk_0 (Or.inr rfl) ⟨4, 1, rfl, lf_Fr_25⟩ (Or.inr rfl)) ?_
  refine pk_c (pk_0 (Or.inr rfl) ⟨19, rfl, by decide⟩ (Or.inr rfl)) ?_
  refine pk_c (pk_4 lm_Fr_101) ?_
  refine pk_c (pk_0 (Or.inr rfl) w_947 (Or.inr rfl)) ?_
  refine pk_c (pk_0 (Or.inr rfl) ⟨23, rfl, by decide⟩ (Or.inr rfl)) ?_
  refine pk_c (pk_0 (Or.inr rfl) ⟨24, rfl, by decide⟩ (Or.inr rfl)) ?_
  refine pk_c (pk_4 lm_Fr_93) ?_
  refine pk_c (pk_4 lm_Fr_101) ?_
  refine pk_c (pk_4 lm_Fr_21) ?_
  refine pk_c (pk_0 (Or.inr rfl) ⟨4, 1, rfl, lf_Fr_25⟩ (Or.inr rfl)) ?_
  refine pk_c (pk_0 (Or.inr rfl) ⟨53, rfl, by decide⟩ (Or.inr rfl)) ?_
  refine pk_c (pk_0 (Or.inr rfl) ⟨54, rfl, by decide⟩ (Or.inr rfl)) ?_
  refine pk_c (pk_4 lm_Fr_93) ?_
  refine pk_c (pk_0 (Or.inr rfl) ⟨103, rfl, by decide⟩ (Or.inr rfl)) ?_
  refine pk_c (pk_4 lm_Fr_101) ?_
  refine pk_c (pk_0 (Or.inr rfl) w_948 (Or.inr rfl)) ?_
  refine pk_c (pk_0 (Or.inr rfl) ⟨82, rfl, by decide⟩ (Or.inr rfl)) ?_
  refine pk_c (pk_0 (Or.inr rfl) ⟨83, rfl, by decide⟩ (Or.inr rfl)) ?_
  refine pk_c (pk_4 lm_Fr_93) ?_
  refine pk_c (pk_4 lm_Fr_101) ?_
  refine pk_c (pk_0 (Or.inr rfl) ⟨59, rfl, by decide⟩ (Or.inr rfl)) ?_
  refine pk_c (pk_0 (Or.inr rfl) ⟨4, 1, rfl, lf_Fr_25⟩ (Or.inr rfl)) ?_
  refine pk_c (pk_0 (Or.inr rfl) ⟨115, rfl, by decide⟩ (Or.inr rfl)) ?_
  refine pk_c (pk_0 (Or.inr rfl) ⟨116, rfl, by decide⟩ (Or.inr rfl)) ?_
  refine pk_c (pk_4 lm_Fr_93) ?_
  refine pk_c (pk_2 rfl rfl) ?_
  exact pk_n
theorem ok_Fr_headNumber {s0 : State} (hS : pm_Str s0) : pm_OKI s0 mi_Fr_headNumber := by
  refine ⟨Or.inl ⟨w_945, rfl⟩, w_5, by decide +kernel, ⟨by decide +kernel, by decide +kernel⟩, by decide, by decide +kernel, pk_i (by decide +kernel) (pk_all (ks := [(1, .getfield 9, 3, ([4, 0], .null)), (15, .ldc2_w 46, 3, ([], .long 4294967295)), (19, .lreturn, 1, ([], .null))]) (by decide +kernel) ?_)⟩
  refine pk_c (pk_0 (Or.inr rfl) ⟨4, 0, rfl, lf_Fr_9⟩ (Or.inr rfl)) ?_
  refine pk_c (pk_0 (Or.inr rfl) w_946 (Or.inr rfl)) ?_
  refine pk_c (pk_2 rfl rfl) ?_
  exact pk_n
theorem ok_Fr_empty {s0 : State} (hS : pm_Str s0) : pm_OKI s0 mi_Fr_empty := by
  refine ⟨Or.inl ⟨w_952, rfl⟩, w_5, by decide +kernel, ⟨by decide +kernel, by decide +kernel⟩, by decide, by decide +kernel, pk_i (by decide +kernel) (pk_all (ks := [(2, .invokevirtual 101, 3, ([148, 2, 0, 5], .null)), (10, .invokestatic 21, 3, ([127, 1, 0, 0], .null)), (16, .invokevirtual 109, 3, ([14, 2, 0, 2], .null)), (25, .if_icmp .ge 52, 3, ([77], .null)), (33, .invokevirtual 101, 3, ([148, 2, 0, 5], .null)), (40, .getfield 9, 3, ([4, 0], .null)), (45, .getfield 32, 3, ([1, 0], .null)), (54, .invokestatic 40, 3, ([4], .null)), (58, .getfield 36, 3, ([1, 1], .null)), (74, .goto (-52), 3, ([22], .null)), (77, .return_, 1, ([], .null))]) (by decide +kernel) ?_)⟩
  refine pk_c (pk_4 lm_Fr_101) ?_
  refine pk_c (pk_4 lm_Fr_21) ?_
  refine pk_c (pk_4 lm_Fr_109) ?_
  refine pk_c (pk_0 (Or.inr rfl) ⟨77, rfl, by decide⟩ (Or.inr rfl)) ?_
  refine pk_c (pk_4 lm_Fr_101) ?_
  refine pk_c (pk_0 (Or.inr rfl) ⟨4, 0, rfl, lf_Fr_9⟩ (Or.inr rfl)) ?_
  refine pk_c (pk_0 (Or.inr rfl) ⟨1, 0, rfl, lf_Fr_32⟩ (Or.inr rfl)) ?_
  refine pk_c (pk_0 (Or.inr rfl) (Or.inr ⟨rfl, w_862, w_864, w_863, w_23⟩) (Or.inr rfl)) ?_
  refine pk_c (pk_0 (Or.inr rfl) ⟨1, 1, rfl, lf_Fr_36⟩ (Or.inr rfl)) ?_
  refine pk_c (pk_0 (Or.inr rfl) ⟨22, rfl, by decide⟩ (Or.inr rfl)) ?_
  refine pk_c (pk_2 rfl rfl) ?_
  exact pk_n
