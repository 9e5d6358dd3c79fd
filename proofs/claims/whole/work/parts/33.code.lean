/-! the methods: code, table (printed by wip/whole/gen4.py) -/
def kc_D_init : List (Nat × Instr × Nat × pm_L) := [
  (0, .aload_n 0, 1, ([], .null)), (1, .invokespecial 3, 3, ([0], .null)), (4, .aload_n 0, 1, ([], .null)), (5, .new 9, 3, ([1], .null)), (8, .dup, 1, ([], .null)), 
  (9, .invokespecial 11, 3, ([1, 1, 1, 2], .null)), (12, .putfield 12, 3, ([0, 0, 2], .null)), (15, .aload_n 0, 1, ([], .null)), (16, .new 16, 3, ([2], .null)), 
  (19, .dup, 1, ([], .null)), (20, .invokespecial 18, 3, ([2, 1, 0, 3], .null)), (23, .putfield 19, 3, ([0, 1, 2], .null)), (26, .aload_n 0, 1, ([], .null)), 
  (27, .new 23, 3, ([3], .null)), (30, .dup, 1, ([], .null)), (31, .invokespecial 25, 3, ([3, 1, 0, 4], .null)), (34, .putfield 26, 3, ([0, 2, 2], .null)), 
  (37, .aload_n 0, 1, ([], .null)), (38, .new 30, 3, ([4], .null)), (41, .dup, 1, ([], .null)), (42, .invokespecial 32, 3, ([4, 1, 1, 5], .null)), 
  (45, .putfield 33, 3, ([0, 3, 2], .null)), (48, .aload_n 0, 1, ([], .null)), (49, .new 37, 3, ([5], .null)), (52, .dup, 1, ([], .null)), 
  (53, .invokespecial 39, 3, ([5, 1, 1, 6], .null)), (56, .putfield 40, 3, ([0, 4, 2], .null)), (59, .aload_n 0, 1, ([], .null)), (60, .bipush 16, 2, ([], .null)), 
  (62, .anewarray 44, 3, ([6], .null)), (65, .putfield 46, 3, ([0, 5, 2], .null)), (68, .aload_n 0, 1, ([], .null)), (69, .new 50, 3, ([8], .null)), (72, .dup, 1, ([], .null)), 
  (73, .invokespecial 52, 3, ([8, 1, 1, 9], .null)), (76, .putfield 53, 3, ([0, 6, 2], .null)), (79, .aload_n 0, 1, ([], .null)), (80, .new 50, 3, ([8], .null)), 
  (83, .dup, 1, ([], .null)), (84, .invokespecial 52, 3, ([8, 1, 1, 9], .null)), (87, .putfield 57, 3, ([0, 7, 2], .null)), (90, .iconst 0, 1, ([], .null)), 
  (91, .istore_n 1, 1, ([], .null)), (92, .iload_n 1, 1, ([], .null)), (93, .bipush 16, 2, ([], .null)), (95, .if_icmp .ge 22, 3, ([117], .null)), 
  (98, .aload_n 0, 1, ([], .null)), (99, .getfield 46, 3, ([0, 5], .null)), (102, .iload_n 1, 1, ([], .null)), (103, .new 44, 3, ([7], .null)), (106, .dup, 1, ([], .null)), 
  (107, .invokespecial 60, 3, ([7, 1, 0, 8], .null)), (110, .aastore, 1, ([], .null)), (111, .iinc 1 1, 3, ([], .null)), (114, .goto (-22), 3, ([92], .null)), 
  (117, .return_, 1, ([], .null))
]
def mi_D_init : pm_I := ((kc_D_init, []), 2, ⟨"SegmentDesk", "<init>", "()V"⟩, prog_1_method_1_code, none, 0)
def kc_Me_init : List (Nat × Instr × Nat × pm_L) := [
  (0, .aload_n 0, 1, ([], .null)), (1, .invokespecial 3, 3, ([0], .null)), (4, .aload_n 0, 1, ([], .null)), (5, .iconst 4, 1, ([], .null)), (6, .bipush 64, 2, ([], .null)), 
  (8, .multianewarray 9 2, 4, ([5, 1], .null)), (12, .putfield 11, 3, ([1, 0, 2], .null)), (15, .aload_n 0, 1, ([], .null)), (16, .iconst 4, 1, ([], .null)), 
  (17, .newarray .int, 2, ([0], .null)), (19, .putfield 16, 3, ([1, 1, 2], .null)), (22, .aload_n 0, 1, ([], .null)), (23, .iconst 1, 1, ([], .null)), 
  (24, .putfield 20, 3, ([1, 2, 0], .null)), (27, .return_, 1, ([], .null))
]
def mi_Me_init : pm_I := ((kc_Me_init, []), 1, ⟨"SegmentDesk$Message", "<init>", "()V"⟩, prog_6_method_1_code, none, 0)
def kc_Re_init : List (Nat × Instr × Nat × pm_L) := [
  (0, .aload_n 0, 1, ([], .null)), (1, .invokespecial 3, 3, ([0], .null)), (4, .aload_n 0, 1, ([], .null)), (5, .sipush 1000, 3, ([], .null)), 
  (8, .putfield 9, 3, ([2, 0, 0], .null)), (11, .return_, 1, ([], .null))
]
def mi_Re_init : pm_I := ((kc_Re_init, []), 1, ⟨"SegmentDesk$Reader", "<init>", "()V"⟩, prog_9_method_1_code, none, 0)
def kc_Bu_init : List (Nat × Instr × Nat × pm_L) := [
  (0, .aload_n 0, 1, ([], .null)), (1, .invokespecial 3, 3, ([0], .null)), (4, .return_, 1, ([], .null))
]
def mi_Bu_init : pm_I := ((kc_Bu_init, []), 1, ⟨"SegmentDesk$Builder", "<init>", "()V"⟩, prog_2_method_1_code, none, 0)
def kc_Fr_init : List (Nat × Instr × Nat × pm_L) := [
  (0, .aload_n 0, 1, ([], .null)), (1, .invokespecial 3, 3, ([0], .null)), (4, .aload_n 0, 1, ([], .null)), (5, .sipush 259, 3, ([], .null)), 
  (8, .newarray .long, 2, ([1], .null)), (10, .putfield 9, 3, ([4, 0, 2], .null)), (13, .return_, 1, ([], .null))
]
def mi_Fr_init : pm_I := ((kc_Fr_init, []), 1, ⟨"SegmentDesk$Frame", "<init>", "()V"⟩, prog_4_method_1_code, none, 0)
def kc_Ca_init : List (Nat × Instr × Nat × pm_L) := [
  (0, .aload_n 0, 1, ([], .null)), (1, .invokespecial 3, 3, ([0], .null)), (4, .aload_n 0, 1, ([], .null)), (5, .bipush 64, 2, ([], .null)), (7, .newarray .long, 2, ([1], .null)), 
  (9, .putfield 9, 3, ([5, 0, 2], .null)), (12, .aload_n 0, 1, ([], .null)), (13, .bipush 65, 2, ([], .null)), (15, .anewarray 15, 3, ([7], .null)), 
  (18, .putfield 17, 3, ([5, 2, 2], .null)), (21, .iconst 0, 1, ([], .null)), (22, .istore_n 1, 1, ([], .null)), (23, .iload_n 1, 1, ([], .null)), 
  (24, .bipush 64, 2, ([], .null)), (26, .if_icmp .gt 22, 3, ([48], .null)), (29, .aload_n 0, 1, ([], .null)), (30, .getfield 17, 3, ([5, 2], .null)), 
  (33, .iload_n 1, 1, ([], .null)), (34, .new 15, 3, ([6], .null)), (37, .dup, 1, ([], .null)), (38, .invokespecial 21, 3, ([6, 1, 1, 7], .null)), (41, .aastore, 1, ([], .null)), 
  (42, .iinc 1 1, 3, ([], .null)), (45, .goto (-22), 3, ([23], .null)), (48, .return_, 1, ([], .null))
]
def mi_Ca_init : pm_I := ((kc_Ca_init, []), 2, ⟨"SegmentDesk$Canon", "<init>", "()V"⟩, prog_3_method_1_code, none, 0)
def kc_Le_init : List (Nat × Instr × Nat × pm_L) := [
  (0, .aload_n 0, 1, ([], .null)), (1, .invokespecial 1, 3, ([0], .null)), (4, .aload_n 0, 1, ([], .null)), (5, .new 7, 3, ([7], .null)), (8, .dup, 1, ([], .null)), 
  (9, .invokespecial 9, 3, ([7, 1, 0, 8], .null)), (12, .putfield 10, 3, ([6, 0, 2], .null)), (15, .return_, 1, ([], .null))
]
def mi_Le_init : pm_I := ((kc_Le_init, []), 1, ⟨"SegmentDesk$Level", "<init>", "()V"⟩, prog_5_method_1_code, none, 0)
def kc_Sp_init : List (Nat × Instr × Nat × pm_L) := [
  (0, .aload_n 0, 1, ([], .null)), (1, .invokespecial 3, 3, ([0], .null)), (4, .return_, 1, ([], .null))
]
def mi_Sp_init : pm_I := ((kc_Sp_init, []), 1, ⟨"SegmentDesk$Spot", "<init>", "()V"⟩, prog_11_method_1_code, none, 0)
def kc_Oc_init : List (Nat × Instr × Nat × pm_L) := [
  (0, .aload_n 0, 1, ([], .null)), (1, .invokespecial 3, 3, ([0], .null)), (4, .aload_n 0, 1, ([], .null)), (5, .sipush 1500, 3, ([], .null)), 
  (8, .newarray .byte, 2, ([2], .null)), (10, .putfield 9, 3, ([8, 0, 2], .null)), (13, .return_, 1, ([], .null))
]
def mi_Oc_init : pm_I := ((kc_Oc_init, []), 1, ⟨"SegmentDesk$Octets", "<init>", "()V"⟩, prog_7_method_1_code, none, 0)
def kc_D_drop : List (Nat × Instr × Nat × pm_L) := [
  (0, .aload_n 0, 1, ([], .null)), (1, .getfield 53, 3, ([0, 6], .null)), (4, .getfield 261, 3, ([8, 1], .null)), (7, .istore_n 1, 1, ([], .null)), 
  (8, .aload_n 0, 1, ([], .null)), (9, .getfield 53, 3, ([0, 6], .null)), (12, .iconst 0, 1, ([], .null)), (13, .putfield 261, 3, ([8, 1, 0], .null)), 
  (16, .iload_n 1, 1, ([], .null)), (17, .ireturn, 1, ([], .null))
]
def mi_D_drop : pm_I := ((kc_D_drop, []), 2, ⟨"SegmentDesk", "drop", "()I"⟩, prog_1_method_21_code, (some .int), 0)
def kc_L_segment : List (Nat × Instr × Nat × pm_L) := [
  (0, .aload_n 0, 1, ([], .null)), (1, .iload_n 1, 1, ([], .null)), (2, .iload_n 2, 1, ([], .null)), (3, .iload_n 3, 1, ([], .null)), (4, .iload 4, 2, ([], .null)), 
  (6, .iload 5, 2, ([], .null)), (8, .invokevirtual 7, 3, ([11, 6, 0, 1], .null)), (11, .goto 7, 3, ([18], .null)), (14, .astore 6, 2, ([], .null)), 
  (16, .iconst 1, 1, ([], .null)), (17, .ireturn, 1, ([], .null)), (18, .iconst 0, 1, ([], .null)), (19, .ireturn, 1, ([], .null))
]
def mi_L_segment : pm_I := ((kc_L_segment, [(0, 11, 16, 1, 6)]), 7, ⟨"SegmentDeskLaw", "segment", "(LSegmentDesk;IIIII)I"⟩, method_3_code, (some .int), 6)
def kc_D_segment : List (Nat × Instr × Nat × pm_L) := [
  (0, .iload_n 1, 1, ([], .null)), (1, .iconst 1, 1, ([], .null)), (2, .if_icmp .lt 8, 3, ([10], .null)), (5, .iload_n 1, 1, ([], .null)), (6, .iconst 4, 1, ([], .null)), 
  (7, .if_icmp .le 7, 3, ([14], .null)), (10, .iconst 1, 1, ([], .null)), (11, .goto 4, 3, ([15], .null)), (14, .iconst 0, 1, ([], .null)), 
  (15, .invokestatic 61, 3, ([12, 1, 0, 0], .null)), (18, .iload_n 2, 1, ([], .null)), (19, .bipush 64, 2, ([], .null)), (21, .invokestatic 65, 3, ([13, 2, 0, 0], .null)), 
  (24, .ifCond .eq 17, 3, ([41], .null)), (27, .iload_n 1, 1, ([], .null)), (28, .iconst 1, 1, ([], .null)), (29, .if_icmp .le 16, 3, ([45], .null)), 
  (32, .iload_n 3, 1, ([], .null)), (33, .bipush 64, 2, ([], .null)), (35, .invokestatic 65, 3, ([13, 2, 0, 0], .null)), (38, .ifCond .ne 7, 3, ([45], .null)), 
  (41, .iconst 1, 1, ([], .null)), (42, .goto 4, 3, ([46], .null)), (45, .iconst 0, 1, ([], .null)), (46, .invokestatic 61, 3, ([12, 1, 0, 0], .null)), 
  (49, .iload_n 1, 1, ([], .null)), (50, .iconst 2, 1, ([], .null)), (51, .if_icmp .le 13, 3, ([64], .null)), (54, .iload 4, 2, ([], .null)), (56, .bipush 64, 2, ([], .null)), 
  (58, .invokestatic 65, 3, ([13, 2, 0, 0], .null)), (61, .ifCond .eq 18, 3, ([79], .null)), (64, .iload_n 1, 1, ([], .null)), (65, .iconst 3, 1, ([], .null)), 
  (66, .if_icmp .le 17, 3, ([83], .null)), (69, .iload 5, 2, ([], .null)), (71, .bipush 64, 2, ([], .null)), (73, .invokestatic 65, 3, ([13, 2, 0, 0], .null)), 
  (76, .ifCond .ne 7, 3, ([83], .null)), (79, .iconst 1, 1, ([], .null)), (80, .goto 4, 3, ([84], .null)), (83, .iconst 0, 1, ([], .null)), 
  (84, .invokestatic 61, 3, ([12, 1, 0, 0], .null)), (87, .aload_n 0, 1, ([], .null)), (88, .getfield 12, 3, ([0, 0], .null)), (91, .iload_n 1, 1, ([], .null)), 
  (92, .invokevirtual 69, 3, ([14, 2, 0, 2], .null)), (95, .aload_n 0, 1, ([], .null)), (96, .getfield 12, 3, ([0, 0], .null)), (99, .getfield 73, 3, ([1, 1], .null)), 
  (102, .iconst 0, 1, ([], .null)), (103, .iload_n 2, 1, ([], .null)), (104, .iastore, 1, ([], .null)), (105, .aload_n 0, 1, ([], .null)), (106, .getfield 12, 3, ([0, 0], .null)), 
  (109, .getfield 73, 3, ([1, 1], .null)), (112, .iconst 1, 1, ([], .null)), (113, .iload_n 1, 1, ([], .null)), (114, .iconst 1, 1, ([], .null)), 
  (115, .if_icmp .le 7, 3, ([122], .null)), (118, .iload_n 3, 1, ([], .null)), (119, .goto 4, 3, ([123], .null)), (122, .iconst 0, 1, ([], .null)), 
  (123, .iastore, 1, ([], .null)), (124, .aload_n 0, 1, ([], .null)), (125, .getfield 12, 3, ([0, 0], .null)), (128, .getfield 73, 3, ([1, 1], .null)), 
  (131, .iconst 2, 1, ([], .null)), (132, .iload_n 1, 1, ([], .null)), (133, .iconst 2, 1, ([], .null)), (134, .if_icmp .le 8, 3, ([142], .null)), (137, .iload 4, 2, ([], .null)), 
  (139, .goto 4, 3, ([143], .null)), (142, .iconst 0, 1, ([], .null)), (143, .iastore, 1, ([], .null)), (144, .aload_n 0, 1, ([], .null)), (145, .getfield 12, 3, ([0, 0], .null)), 
  (148, .getfield 73, 3, ([1, 1], .null)), (151, .iconst 3, 1, ([], .null)), (152, .iload_n 1, 1, ([], .null)), (153, .iconst 3, 1, ([], .null)), 
  (154, .if_icmp .le 8, 3, ([162], .null)), (157, .iload 5, 2, ([], .null)), (159, .goto 4, 3, ([163], .null)), (162, .iconst 0, 1, ([], .null)), (163, .iastore, 1, ([], .null)), 
  (164, .aload_n 0, 1, ([], .null)), (165, .invokevirtual 77, 3, ([16, 1, 0, 1], .null)), (168, .return_, 1, ([], .null))
]
def mi_D_segment : pm_I := ((kc_D_segment, []), 6, ⟨"SegmentDesk", "segment", "(IIIII)V"⟩, prog_1_method_2_code, none, 5)
def kc_D_badIf : List (Nat × Instr × Nat × pm_L) := [
  (0, .iload_n 0, 1, ([], .null)), (1, .ifCond .eq 14, 3, ([15], .null)), (4, .new 192, 3, ([1, 1, 6], .null)), (15, .return_, 1, ([], .null))
]
def mi_D_badIf : pm_I := ((kc_D_badIf, []), 1, ⟨"SegmentDesk", "badIf", "(Z)V"⟩, prog_1_method_38_code, none, 1)
def kc_D_isWithin : List (Nat × Instr × Nat × pm_L) := [
  (0, .iload_n 0, 1, ([], .null)), (1, .ifCond .lt 12, 3, ([13], .null)), (4, .iload_n 0, 1, ([], .null)), (5, .iload_n 1, 1, ([], .null)), (6, .if_icmp .gt 7, 3, ([13], .null)), 
  (9, .iconst 1, 1, ([], .null)), (10, .goto 4, 3, ([14], .null)), (13, .iconst 0, 1, ([], .null)), (14, .ireturn, 1, ([1], .null))
]
def mi_D_isWithin : pm_I := ((kc_D_isWithin, []), 2, ⟨"SegmentDesk", "isWithin", "(II)Z"⟩, prog_1_method_32_code, (some .boolean), 2)
def kc_Me_renew : List (Nat × Instr × Nat × pm_L) := [
  (0, .iconst 0, 1, ([], .null)), (1, .istore_n 2, 1, ([], .null)), (2, .iload_n 2, 1, ([], .null)), (3, .iconst 4, 1, ([], .null)), (4, .if_icmp .ge 26, 3, ([30], .null)), 
  (7, .aload_n 0, 1, ([], .null)), (8, .getfield 11, 3, ([1, 0], .null)), (11, .iload_n 2, 1, ([], .null)), (12, .aaload, 1, ([], .null)), (13, .lconst 0, 1, ([], .null)), 
  (14, .invokestatic 24, 3, ([15, 2, 0, 0], .null)), (17, .aload_n 0, 1, ([], .null)), (18, .getfield 16, 3, ([1, 1], .null)), (21, .iload_n 2, 1, ([], .null)), 
  (22, .iconst 0, 1, ([], .null)), (23, .iastore, 1, ([], .null)), (24, .iinc 2 1, 3, ([], .null)), (27, .goto (-25), 3, ([2], .null)), (30, .aload_n 0, 1, ([], .null)), 
  (31, .iload_n 1, 1, ([], .null)), (32, .putfield 20, 3, ([1, 2, 0], .null)), (35, .aload_n 0, 1, ([], .null)), (36, .iconst 0, 1, ([], .null)), 
  (37, .putfield 30, 3, ([1, 3, 0], .null)), (40, .return_, 1, ([], .null))
]
def mi_Me_renew : pm_I := ((kc_Me_renew, []), 3, ⟨"SegmentDesk$Message", "renew", "(I)V"⟩, prog_6_method_2_code, none, 1)
def kc_JA_fill : List (Nat × Instr × Nat × pm_L) := [
  (0, .iconst 0, 1, ([], .null)), (1, .istore_n 3, 1, ([], .null)), (2, .aload_n 0, 1, ([], .null)), (3, .arraylength, 1, ([], .null)), (4, .istore 4, 2, ([], .null)), 
  (6, .iload_n 3, 1, ([], .null)), (7, .iload 4, 2, ([], .null)), (9, .if_icmp .ge 13, 3, ([22], .null)), (12, .aload_n 0, 1, ([], .null)), (13, .iload_n 3, 1, ([], .null)), 
  (14, .lload_n 1, 1, ([], .null)), (15, .lastore, 1, ([], .null)), (16, .iinc 3 1, 3, ([], .null)), (19, .goto (-13), 3, ([6], .null)), (22, .return_, 1, ([], .null))
]
def mi_JA_fill : pm_I := ((kc_JA_fill, []), 5, ⟨"java/util/Arrays", "fill", "([JJ)V"⟩, prog_26_method_101_code, none, 2)
def kc_D_cursorsToNothing : List (Nat × Instr × Nat × pm_L) := [
  (0, .iconst 0, 1, ([], .null)), (1, .istore_n 1, 1, ([], .null)), (2, .iload_n 1, 1, ([], .null)), (3, .bipush 16, 2, ([], .null)), (5, .if_icmp .ge 18, 3, ([23], .null)), 
  (8, .aload_n 0, 1, ([], .null)), (9, .getfield 46, 3, ([0, 5], .null)), (12, .iload_n 1, 1, ([], .null)), (13, .aaload, 1, ([], .null)), 
  (14, .invokevirtual 134, 3, ([17, 1, 0, 8], .null)), (17, .iinc 1 1, 3, ([], .null)), (20, .goto (-18), 3, ([2], .null)), (23, .return_, 1, ([], .null))
]
def mi_D_cursorsToNothing : pm_I := ((kc_D_cursorsToNothing, []), 2, ⟨"SegmentDesk", "cursorsToNothing", "()V"⟩, prog_1_method_25_code, none, 0)
def kc_Sp_toNothing : List (Nat × Instr × Nat × pm_L) := [
  (0, .aload_n 0, 1, ([], .null)), (1, .iconst 0, 1, ([], .null)), (2, .iconst 0, 1, ([], .null)), (3, .iconst 0, 1, ([], .null)), (4, .iconst 0, 1, ([], .null)), 
  (5, .invokevirtual 9, 3, ([18, 5, 0, 8], .null)), (8, .return_, 1, ([], .null))
]
def mi_Sp_toNothing : pm_I := ((kc_Sp_toNothing, []), 1, ⟨"SegmentDesk$Spot", "toNothing", "()V"⟩, prog_11_method_2_code, none, 0)
def kc_Sp_stand : List (Nat × Instr × Nat × pm_L) := [
  (0, .aload_n 0, 1, ([], .null)), (1, .iload_n 1, 1, ([], .null)), (2, .putfield 49, 3, ([7, 0, 0], .null)), (5, .aload_n 0, 1, ([], .null)), (6, .iload_n 2, 1, ([], .null)), 
  (7, .putfield 36, 3, ([7, 2, 0], .null)), (10, .aload_n 0, 1, ([], .null)), (11, .iload_n 3, 1, ([], .null)), (12, .putfield 52, 3, ([7, 3, 0], .null)), 
  (15, .aload_n 0, 1, ([], .null)), (16, .iload 4, 2, ([], .null)), (18, .putfield 39, 3, ([7, 1, 0], .null)), (21, .aload_n 0, 1, ([], .null)), (22, .iconst 0, 1, ([], .null)), 
  (23, .putfield 46, 3, ([7, 4, 0], .null)), (26, .aload_n 0, 1, ([], .null)), (27, .iconst 0, 1, ([], .null)), (28, .putfield 15, 3, ([7, 5, 0], .null)), 
  (31, .aload_n 0, 1, ([], .null)), (32, .iconst 0, 1, ([], .null)), (33, .putfield 19, 3, ([7, 6, 0], .null)), (36, .aload_n 0, 1, ([], .null)), (37, .iconst 0, 1, ([], .null)), 
  (38, .putfield 25, 3, ([7, 7, 0], .null)), (41, .aload_n 0, 1, ([], .null)), (42, .iconst 0, 1, ([], .null)), (43, .putfield 22, 3, ([7, 8, 0], .null)), 
  (46, .return_, 1, ([], .null))
]
def mi_Sp_stand : pm_I := ((kc_Sp_stand, []), 5, ⟨"SegmentDesk$Spot", "stand", "(IIII)V"⟩, prog_11_method_7_code, none, 4)
def kc_L_word : List (Nat × Instr × Nat × pm_L) := [
  (0, .aload 5, 2, ([], .null)), (2, .iconst 0, 1, ([], .null)), (3, .aload_n 0, 1, ([], .null)), (4, .iload_n 1, 1, ([], .null)), (5, .iload_n 2, 1, ([], .null)), 
  (6, .lload_n 3, 1, ([], .null)), (7, .invokevirtual 15, 3, ([20, 4, 0, 1], .null)), (10, .lastore, 1, ([], .null)), (11, .goto 7, 3, ([18], .null)), 
  (14, .astore 6, 2, ([], .null)), (16, .iconst 1, 1, ([], .null)), (17, .ireturn, 1, ([], .null)), (18, .iconst 0, 1, ([], .null)), (19, .ireturn, 1, ([], .null))
]
def mi_L_word : pm_I := ((kc_L_word, [(0, 11, 16, 1, 6)]), 7, ⟨"SegmentDeskLaw", "word", "(LSegmentDesk;IIJ[J)I"⟩, method_4_code, (some .int), 5)
def kc_D_word : List (Nat × Instr × Nat × pm_L) := [
  (0, .aload_n 0, 1, ([], .null)), (1, .getfield 12, 3, ([0, 0], .null)), (4, .iload_n 1, 1, ([], .null)), (5, .i2l, 1, ([], .null)), (6, .iload_n 2, 1, ([], .null)), 
  (7, .invokevirtual 80, 3, ([21, 3, 0, 2], .null)), (10, .ifCond .ne 7, 3, ([17], .null)), (13, .iconst 1, 1, ([], .null)), (14, .goto 4, 3, ([18], .null)), 
  (17, .iconst 0, 1, ([], .null)), (18, .invokestatic 61, 3, ([12, 1, 0, 0], .null)), (21, .aload_n 0, 1, ([], .null)), (22, .getfield 12, 3, ([0, 0], .null)), 
  (25, .getfield 84, 3, ([1, 0], .null)), (28, .iload_n 1, 1, ([], .null)), (29, .aaload, 1, ([], .null)), (30, .iload_n 2, 1, ([], .null)), (31, .laload, 1, ([], .null)), 
  (32, .lstore 5, 2, ([], .null)), (34, .aload_n 0, 1, ([], .null)), (35, .getfield 12, 3, ([0, 0], .null)), (38, .getfield 84, 3, ([1, 0], .null)), 
  (41, .iload_n 1, 1, ([], .null)), (42, .aaload, 1, ([], .null)), (43, .iload_n 2, 1, ([], .null)), (44, .lload_n 3, 1, ([], .null)), (45, .lastore, 1, ([], .null)), 
  (46, .aload_n 0, 1, ([], .null)), (47, .getfield 12, 3, ([0, 0], .null)), (50, .iconst 0, 1, ([], .null)), (51, .putfield 88, 3, ([1, 3, 0], .null)), 
  (54, .lload 5, 2, ([], .null)), (56, .lreturn, 1, ([], .null))
]
def mi_D_word : pm_I := ((kc_D_word, []), 7, ⟨"SegmentDesk", "word", "(IIJ)J"⟩, prog_1_method_3_code, (some .long), 3)
def kc_Me_holds : List (Nat × Instr × Nat × pm_L) := [
  (0, .lload_n 1, 1, ([], .null)), (1, .lconst 0, 1, ([], .null)), (2, .lcmp, 1, ([], .null)), (3, .ifCond .lt 32, 3, ([35], .null)), (6, .lload_n 1, 1, ([], .null)), 
  (7, .aload_n 0, 1, ([], .null)), (8, .getfield 20, 3, ([1, 2], .null)), (11, .i2l, 1, ([], .null)), (12, .lcmp, 1, ([], .null)), (13, .ifCond .ge 22, 3, ([35], .null)), 
  (16, .iload_n 3, 1, ([], .null)), (17, .ifCond .lt 18, 3, ([35], .null)), (20, .iload_n 3, 1, ([], .null)), (21, .aload_n 0, 1, ([], .null)), 
  (22, .getfield 16, 3, ([1, 1], .null)), (25, .lload_n 1, 1, ([], .null)), (26, .l2i, 1, ([], .null)), (27, .iaload, 1, ([], .null)), (28, .if_icmp .ge 7, 3, ([35], .null)), 
  (31, .iconst 1, 1, ([], .null)), (32, .goto 4, 3, ([36], .null)), (35, .iconst 0, 1, ([], .null)), (36, .ireturn, 1, ([1], .null))
]
def mi_Me_holds : pm_I := ((kc_Me_holds, []), 4, ⟨"SegmentDesk$Message", "holds", "(JI)Z"⟩, prog_6_method_4_code, (some .boolean), 2)
def kc_L_at : List (Nat × Instr × Nat × pm_L) := [
  (0, .aload_n 3, 1, ([], .null)), (1, .iconst 0, 1, ([], .null)), (2, .aload_n 0, 1, ([], .null)), (3, .iload_n 1, 1, ([], .null)), (4, .iload_n 2, 1, ([], .null)), 
  (5, .invokevirtual 19, 3, ([23, 3, 0, 1], .null)), (8, .lastore, 1, ([], .null)), (9, .goto 7, 3, ([16], .null)), (12, .astore 4, 2, ([], .null)), 
  (14, .iconst 1, 1, ([], .null)), (15, .ireturn, 1, ([], .null)), (16, .iconst 0, 1, ([], .null)), (17, .ireturn, 1, ([], .null))
]
def mi_L_at : pm_I := ((kc_L_at, [(0, 9, 14, 1, 4)]), 5, ⟨"SegmentDeskLaw", "at", "(LSegmentDesk;II[J)I"⟩, method_5_code, (some .int), 4)
def kc_D_at : List (Nat × Instr × Nat × pm_L) := [
  (0, .aload_n 0, 1, ([], .null)), (1, .getfield 12, 3, ([0, 0], .null)), (4, .iload_n 1, 1, ([], .null)), (5, .i2l, 1, ([], .null)), (6, .iload_n 2, 1, ([], .null)), 
  (7, .invokevirtual 80, 3, ([21, 3, 0, 2], .null)), (10, .ifCond .ne 7, 3, ([17], .null)), (13, .iconst 1, 1, ([], .null)), (14, .goto 4, 3, ([18], .null)), 
  (17, .iconst 0, 1, ([], .null)), (18, .invokestatic 61, 3, ([12, 1, 0, 0], .null)), (21, .aload_n 0, 1, ([], .null)), (22, .getfield 12, 3, ([0, 0], .null)), 
  (25, .getfield 84, 3, ([1, 0], .null)), (28, .iload_n 1, 1, ([], .null)), (29, .aaload, 1, ([], .null)), (30, .iload_n 2, 1, ([], .null)), (31, .laload, 1, ([], .null)), 
  (32, .lreturn, 1, ([], .null))
]
def mi_D_at : pm_I := ((kc_D_at, []), 3, ⟨"SegmentDesk", "at", "(II)J"⟩, prog_1_method_4_code, (some .long), 2)
def kc_L_allow : List (Nat × Instr × Nat × pm_L) := [
  (0, .aload_n 2, 1, ([], .null)), (1, .iconst 0, 1, ([], .null)), (2, .aload_n 0, 1, ([], .null)), (3, .iload_n 1, 1, ([], .null)), 
  (4, .invokevirtual 23, 3, ([25, 2, 0, 1], .null)), (7, .i2l, 1, ([], .null)), (8, .lastore, 1, ([], .null)), (9, .goto 6, 3, ([15], .null)), (12, .astore_n 3, 1, ([], .null)), 
  (13, .iconst 1, 1, ([], .null)), (14, .ireturn, 1, ([], .null)), (15, .iconst 0, 1, ([], .null)), (16, .ireturn, 1, ([], .null))
]
def mi_L_allow : pm_I := ((kc_L_allow, [(0, 9, 13, 1, 3)]), 4, ⟨"SegmentDeskLaw", "allow", "(LSegmentDesk;I[J)I"⟩, method_6_code, (some .int), 3)
def kc_D_allow : List (Nat × Instr × Nat × pm_L) := [
  (0, .iload_n 1, 1, ([], .null)), (1, .ifCond .lt 9, 3, ([10], .null)), (4, .iload_n 1, 1, ([], .null)), (5, .ldc 92, 2, ([], .int 100000)), 
  (7, .if_icmp .le 7, 3, ([14], .null)), (10, .iconst 1, 1, ([], .null)), (11, .goto 4, 3, ([15], .null)), (14, .iconst 0, 1, ([], .null)), 
  (15, .invokestatic 61, 3, ([12, 1, 0, 0], .null)), (18, .aload_n 0, 1, ([], .null)), (19, .getfield 19, 3, ([0, 1], .null)), (22, .getfield 93, 3, ([2, 0], .null)), 
  (25, .istore_n 2, 1, ([], .null)), (26, .aload_n 0, 1, ([], .null)), (27, .getfield 19, 3, ([0, 1], .null)), (30, .iload_n 1, 1, ([], .null)), 
  (31, .putfield 93, 3, ([2, 0, 0], .null)), (34, .iload_n 2, 1, ([], .null)), (35, .ireturn, 1, ([], .null))
]
def mi_D_allow : pm_I := ((kc_D_allow, []), 3, ⟨"SegmentDesk", "allow", "(I)I"⟩, prog_1_method_5_code, (some .int), 1)
def kc_L_root : List (Nat × Instr × Nat × pm_L) := [
  (0, .aload_n 3, 1, ([], .null)), (1, .iconst 0, 1, ([], .null)), (2, .aload_n 0, 1, ([], .null)), (3, .iload_n 1, 1, ([], .null)), (4, .iload_n 2, 1, ([], .null)), 
  (5, .invokevirtual 27, 3, ([27, 3, 0, 1], .null)), (8, .i2l, 1, ([], .null)), (9, .lastore, 1, ([], .null)), (10, .goto 11, 3, ([21], .null)), (13, .astore 4, 2, ([], .null)), 
  (15, .iconst 1, 1, ([], .null)), (16, .ireturn, 1, ([], .null)), (17, .astore 4, 2, ([], .null)), (19, .iconst 2, 1, ([], .null)), (20, .ireturn, 1, ([], .null)), 
  (21, .iconst 0, 1, ([], .null)), (22, .ireturn, 1, ([], .null))
]
def mi_L_root : pm_I := ((kc_L_root, [(0, 10, 15, 1, 4), (0, 10, 19, 2, 4)]), 5, ⟨"SegmentDeskLaw", "root", "(LSegmentDesk;II[J)I"⟩, method_7_code, (some .int), 4)
def kc_D_root : List (Nat × Instr × Nat × pm_L) := [
  (0, .iload_n 1, 1, ([], .null)), (1, .invokestatic 96, 3, ([28, 1, 0, 0], .null)), (4, .ifCond .eq 13, 3, ([17], .null)), (7, .iload_n 2, 1, ([], .null)), 
  (8, .ifCond .lt 9, 3, ([17], .null)), (11, .iload_n 2, 1, ([], .null)), (12, .bipush 64, 2, ([], .null)), (14, .if_icmp .le 7, 3, ([21], .null)), 
  (17, .iconst 1, 1, ([], .null)), (18, .goto 4, 3, ([22], .null)), (21, .iconst 0, 1, ([], .null)), (22, .invokestatic 61, 3, ([12, 1, 0, 0], .null)), 
  (25, .aload_n 0, 1, ([], .null)), (26, .getfield 12, 3, ([0, 0], .null)), (29, .lconst 0, 1, ([], .null)), (30, .iconst 0, 1, ([], .null)), 
  (31, .invokevirtual 80, 3, ([21, 3, 0, 2], .null)), (34, .ifCond .ne 7, 3, ([41], .null)), (37, .iconst 1, 1, ([], .null)), (38, .goto 4, 3, ([42], .null)), 
  (41, .iconst 0, 1, ([], .null)), (42, .invokestatic 100, 3, ([29, 1, 0, 0], .null)), (45, .aload_n 0, 1, ([], .null)), (46, .getfield 19, 3, ([0, 1], .null)), 
  (49, .aload_n 0, 1, ([], .null)), (50, .getfield 12, 3, ([0, 0], .null)), (53, .aload_n 0, 1, ([], .null)), (54, .getfield 46, 3, ([0, 5], .null)), 
  (57, .iload_n 1, 1, ([], .null)), (58, .aaload, 1, ([], .null)), (59, .iconst 0, 1, ([], .null)), (60, .iconst 0, 1, ([], .null)), (61, .iload_n 2, 1, ([], .null)), 
  (62, .invokevirtual 103, 3, ([30, 6, 0, 3], .null)), (65, .aload_n 0, 1, ([], .null)), (66, .getfield 46, 3, ([0, 5], .null)), (69, .iload_n 1, 1, ([], .null)), 
  (70, .aaload, 1, ([], .null)), (71, .getfield 107, 3, ([7, 0], .null)), (74, .ireturn, 1, ([], .null))
]
def mi_D_root : pm_I := ((kc_D_root, []), 3, ⟨"SegmentDesk", "root", "(II)I"⟩, prog_1_method_6_code, (some .int), 2)
def kc_D_isCursor : List (Nat × Instr × Nat × pm_L) := [
  (0, .iload_n 0, 1, ([], .null)), (1, .ifCond .lt 13, 3, ([14], .null)), (4, .iload_n 0, 1, ([], .null)), (5, .bipush 16, 2, ([], .null)), (7, .if_icmp .ge 7, 3, ([14], .null)), 
  (10, .iconst 1, 1, ([], .null)), (11, .goto 4, 3, ([15], .null)), (14, .iconst 0, 1, ([], .null)), (15, .ireturn, 1, ([1], .null))
]
def mi_D_isCursor : pm_I := ((kc_D_isCursor, []), 1, ⟨"SegmentDesk", "isCursor", "(I)Z"⟩, prog_1_method_30_code, (some .boolean), 1)
def kc_D_malformedIf : List (Nat × Instr × Nat × pm_L) := [
  (0, .iload_n 0, 1, ([], .null)), (1, .ifCond .eq 14, 3, ([15], .null)), (4, .new 322, 3, ([2, 1, 6], .null)), (15, .return_, 1, ([], .null))
]
def mi_D_malformedIf : pm_I := ((kc_D_malformedIf, []), 1, ⟨"SegmentDesk", "malformedIf", "(Z)V"⟩, prog_1_method_40_code, none, 1)
def kc_Re_lead : List (Nat × Instr × Nat × pm_L) := [
  (0, .aload_n 1, 1, ([], .null)), (1, .getfield 15, 3, ([1, 0], .null)), (4, .iload_n 3, 1, ([], .null)), (5, .aaload, 1, ([], .null)), (6, .iload 4, 2, ([], .null)), 
  (8, .laload, 1, ([], .null)), (9, .lstore 6, 2, ([], .null)), (11, .lload 6, 2, ([], .null)), (13, .lconst 0, 1, ([], .null)), (14, .lcmp, 1, ([], .null)), 
  (15, .ifCond .ne 8, 3, ([23], .null)), (18, .aload_n 2, 1, ([], .null)), (19, .invokevirtual 21, 3, ([17, 1, 0, 8], .null)), (22, .return_, 1, ([], .null)), 
  (23, .aload_n 0, 1, ([], .null)), (24, .aload_n 1, 1, ([], .null)), (25, .lload 6, 2, ([], .null)), (27, .iload_n 3, 1, ([], .null)), (28, .iload 4, 2, ([], .null)), 
  (30, .invokevirtual 26, 3, ([31, 5, 0, 3], .null)), (33, .iload 5, 2, ([], .null)), (35, .ifCond .ne 7, 3, ([42], .null)), (38, .iconst 1, 1, ([], .null)), 
  (39, .goto 4, 3, ([43], .null)), (42, .iconst 0, 1, ([], .null)), (43, .invokestatic 30, 3, ([29, 1, 0, 0], .null)), (46, .aload_n 0, 1, ([], .null)), 
  (47, .getfield 34, 3, ([2, 3], .null)), (50, .invokestatic 38, 3, ([32, 1, 0, 0], .null)), (53, .ifCond .ne 16, 3, ([69], .null)), (56, .aload_n 0, 1, ([], .null)), 
  (57, .aload_n 1, 1, ([], .null)), (58, .aload_n 2, 1, ([], .null)), (59, .iload 5, 2, ([], .null)), (61, .iconst 1, 1, ([], .null)), (62, .isub, 1, ([], .null)), 
  (63, .invokevirtual 44, 3, ([40, 4, 0, 3], .null)), (66, .goto 38, 3, ([104], .null)), (69, .aload_n 0, 1, ([], .null)), (70, .getfield 34, 3, ([2, 3], .null)), 
  (73, .invokestatic 48, 3, ([46, 1, 0, 0], .null)), (76, .bipush 7, 2, ([], .null)), (78, .if_icmp .ne 16, 3, ([94], .null)), (81, .aload_n 0, 1, ([], .null)), 
  (82, .aload_n 1, 1, ([], .null)), (83, .aload_n 2, 1, ([], .null)), (84, .iload 5, 2, ([], .null)), (86, .iconst 1, 1, ([], .null)), (87, .isub, 1, ([], .null)), 
  (88, .invokevirtual 51, 3, ([47, 4, 0, 3], .null)), (91, .goto 13, 3, ([104], .null)), (94, .aload_n 0, 1, ([], .null)), (95, .aload_n 1, 1, ([], .null)), 
  (96, .aload_n 2, 1, ([], .null)), (97, .iload 5, 2, ([], .null)), (99, .iconst 1, 1, ([], .null)), (100, .isub, 1, ([], .null)), 
  (101, .invokevirtual 54, 3, ([50, 4, 0, 3], .null)), (104, .return_, 1, ([], .null))
]
def mi_Re_lead : pm_I := ((kc_Re_lead, []), 8, ⟨"SegmentDesk$Reader", "lead", "(LSegmentDesk$Message;LSegmentDesk$Spot;III)V"⟩, prog_9_method_2_code, none, 5)
def kc_Re_find : List (Nat × Instr × Nat × pm_L) := [
  (0, .lload_n 2, 1, ([], .null)), (1, .invokestatic 38, 3, ([32, 1, 0, 0], .null)), (4, .iconst 2, 1, ([], .null)), (5, .if_icmp .eq 13, 3, ([18], .null)), 
  (8, .aload_n 0, 1, ([], .null)), (9, .lload_n 2, 1, ([], .null)), (10, .iload 4, 2, ([], .null)), (12, .iload 5, 2, ([], .null)), 
  (14, .invokevirtual 57, 3, ([33, 4, 0, 3], .null)), (17, .return_, 1, ([], .null)), (18, .lload_n 2, 1, ([], .null)), (19, .invokestatic 61, 3, ([36, 1, 0, 0], .null)), 
  (22, .lstore 6, 2, ([], .null)), (24, .lload_n 2, 1, ([], .null)), (25, .invokestatic 65, 3, ([37, 1, 0, 0], .null)), (28, .istore 8, 2, ([], .null)), 
  (30, .aload_n 1, 1, ([], .null)), (31, .lload 6, 2, ([], .null)), (33, .iload 8, 2, ([], .null)), (35, .invokevirtual 68, 3, ([21, 3, 0, 2], .null)), 
  (38, .ifCond .ne 7, 3, ([45], .null)), (41, .iconst 1, 1, ([], .null)), (42, .goto 4, 3, ([46], .null)), (45, .iconst 0, 1, ([], .null)), 
  (46, .invokestatic 30, 3, ([29, 1, 0, 0], .null)), (49, .lload_n 2, 1, ([], .null)), (50, .invokestatic 72, 3, ([38, 1, 0, 0], .null)), (53, .ifCond .eq 56, 3, ([109], .null)), 
  (56, .aload_n 1, 1, ([], .null)), (57, .lload 6, 2, ([], .null)), (59, .iload 8, 2, ([], .null)), (61, .iconst 1, 1, ([], .null)), (62, .iadd, 1, ([], .null)), 
  (63, .invokevirtual 68, 3, ([21, 3, 0, 2], .null)), (66, .ifCond .ne 7, 3, ([73], .null)), (69, .iconst 1, 1, ([], .null)), (70, .goto 4, 3, ([74], .null)), 
  (73, .iconst 0, 1, ([], .null)), (74, .invokestatic 30, 3, ([29, 1, 0, 0], .null)), (77, .aload_n 0, 1, ([], .null)), (78, .aload_n 1, 1, ([], .null)), 
  (79, .aload_n 1, 1, ([], .null)), (80, .getfield 15, 3, ([1, 0], .null)), (83, .lload 6, 2, ([], .null)), (85, .l2i, 1, ([], .null)), (86, .aaload, 1, ([], .null)), 
  (87, .iload 8, 2, ([], .null)), (89, .laload, 1, ([], .null)), (90, .aload_n 1, 1, ([], .null)), (91, .getfield 15, 3, ([1, 0], .null)), (94, .lload 6, 2, ([], .null)), 
  (96, .l2i, 1, ([], .null)), (97, .aaload, 1, ([], .null)), (98, .iload 8, 2, ([], .null)), (100, .iconst 1, 1, ([], .null)), (101, .iadd, 1, ([], .null)), 
  (102, .laload, 1, ([], .null)), (103, .invokevirtual 76, 3, ([39, 4, 0, 3], .null)), (106, .goto 47, 3, ([153], .null)), (109, .aload_n 1, 1, ([], .null)), 
  (110, .getfield 15, 3, ([1, 0], .null)), (113, .lload 6, 2, ([], .null)), (115, .l2i, 1, ([], .null)), (116, .aaload, 1, ([], .null)), (117, .iload 8, 2, ([], .null)), 
  (119, .laload, 1, ([], .null)), (120, .lconst 0, 1, ([], .null)), (121, .lcmp, 1, ([], .null)), (122, .ifCond .ne 7, 3, ([129], .null)), (125, .iconst 1, 1, ([], .null)), 
  (126, .goto 4, 3, ([130], .null)), (129, .iconst 0, 1, ([], .null)), (130, .invokestatic 30, 3, ([29, 1, 0, 0], .null)), (133, .aload_n 0, 1, ([], .null)), 
  (134, .aload_n 1, 1, ([], .null)), (135, .getfield 15, 3, ([1, 0], .null)), (138, .lload 6, 2, ([], .null)), (140, .l2i, 1, ([], .null)), (141, .aaload, 1, ([], .null)), 
  (142, .iload 8, 2, ([], .null)), (144, .laload, 1, ([], .null)), (145, .lload 6, 2, ([], .null)), (147, .l2i, 1, ([], .null)), (148, .iload 8, 2, ([], .null)), 
  (150, .invokevirtual 57, 3, ([33, 4, 0, 3], .null)), (153, .return_, 1, ([], .null))
]
def mi_Re_find : pm_I := ((kc_Re_find, []), 9, ⟨"SegmentDesk$Reader", "find", "(LSegmentDesk$Message;JII)V"⟩, prog_9_method_3_code, none, 4)
def kc_Po_kind : List (Nat × Instr × Nat × pm_L) := [
  (0, .lload_n 0, 1, ([], .null)), (1, .l2i, 1, ([], .null)), (2, .iconst 3, 1, ([], .null)), (3, .iand, 1, ([], .null)), (4, .ireturn, 1, ([], .null))
]
def mi_Po_kind : pm_I := ((kc_Po_kind, []), 2, ⟨"SegmentDesk$Pointer", "kind", "(J)I"⟩, prog_8_method_2_code, (some .int), 1)
def kc_Re_findNear : List (Nat × Instr × Nat × pm_L) := [
  (0, .lload_n 1, 1, ([], .null)), (1, .invokestatic 80, 3, ([34, 1, 0, 0], .null)), (4, .ifCond .ne 7, 3, ([11], .null)), (7, .iconst 1, 1, ([], .null)), 
  (8, .goto 4, 3, ([12], .null)), (11, .iconst 0, 1, ([], .null)), (12, .invokestatic 30, 3, ([29, 1, 0, 0], .null)), (15, .aload_n 0, 1, ([], .null)), 
  (16, .iload_n 3, 1, ([], .null)), (17, .putfield 83, 3, ([2, 1, 0], .null)), (20, .aload_n 0, 1, ([], .null)), (21, .iload 4, 2, ([], .null)), (23, .iconst 1, 1, ([], .null)), 
  (24, .iadd, 1, ([], .null)), (25, .lload_n 1, 1, ([], .null)), (26, .invokestatic 86, 3, ([35, 1, 0, 0], .null)), (29, .iadd, 1, ([], .null)), 
  (30, .putfield 89, 3, ([2, 2, 0], .null)), (33, .aload_n 0, 1, ([], .null)), (34, .lload_n 1, 1, ([], .null)), (35, .putfield 34, 3, ([2, 3, 1], .null)), 
  (38, .return_, 1, ([], .null))
]
def mi_Re_findNear : pm_I := ((kc_Re_findNear, []), 5, ⟨"SegmentDesk$Reader", "findNear", "(JII)V"⟩, prog_9_method_4_code, none, 3)
def kc_Po_isNear : List (Nat × Instr × Nat × pm_L) := [
  (0, .lload_n 0, 1, ([], .null)), (1, .ldc2_w 7, 3, ([], .long 2)), (4, .land, 1, ([], .null)), (5, .lconst 0, 1, ([], .null)), (6, .lcmp, 1, ([], .null)), 
  (7, .ifCond .ne 7, 3, ([14], .null)), (10, .iconst 1, 1, ([], .null)), (11, .goto 4, 3, ([15], .null)), (14, .iconst 0, 1, ([], .null)), (15, .ireturn, 1, ([1], .null))
]
def mi_Po_isNear : pm_I := ((kc_Po_isNear, []), 2, ⟨"SegmentDesk$Pointer", "isNear", "(J)Z"⟩, prog_8_method_3_code, (some .boolean), 1)
def kc_Po_offset : List (Nat × Instr × Nat × pm_L) := [
  (0, .lload_n 0, 1, ([], .null)), (1, .l2i, 1, ([], .null)), (2, .iconst 2, 1, ([], .null)), (3, .ishr, 1, ([], .null)), (4, .ireturn, 1, ([], .null))
]
def mi_Po_offset : pm_I := ((kc_Po_offset, []), 2, ⟨"SegmentDesk$Pointer", "offset", "(J)I"⟩, prog_8_method_4_code, (some .int), 1)
def kc_Po_farSegment : List (Nat × Instr × Nat × pm_L) := [
  (0, .lload_n 0, 1, ([], .null)), (1, .bipush 32, 2, ([], .null)), (3, .lushr, 1, ([], .null)), (4, .lreturn, 1, ([], .null))
]
def mi_Po_farSegment : pm_I := ((kc_Po_farSegment, []), 2, ⟨"SegmentDesk$Pointer", "farSegment", "(J)J"⟩, prog_8_method_11_code, (some .long), 1)
def kc_Po_farPlace : List (Nat × Instr × Nat × pm_L) := [
  (0, .lload_n 0, 1, ([], .null)), (1, .l2i, 1, ([], .null)), (2, .iconst 3, 1, ([], .null)), (3, .iushr, 1, ([], .null)), (4, .ireturn, 1, ([], .null))
]
def mi_Po_farPlace : pm_I := ((kc_Po_farPlace, []), 2, ⟨"SegmentDesk$Pointer", "farPlace", "(J)I"⟩, prog_8_method_10_code, (some .int), 1)
def kc_Po_isDouble : List (Nat × Instr × Nat × pm_L) := [
  (0, .lload_n 0, 1, ([], .null)), (1, .ldc2_w 10, 3, ([], .long 4)), (4, .land, 1, ([], .null)), (5, .lconst 0, 1, ([], .null)), (6, .lcmp, 1, ([], .null)), 
  (7, .ifCond .eq 7, 3, ([14], .null)), (10, .iconst 1, 1, ([], .null)), (11, .goto 4, 3, ([15], .null)), (14, .iconst 0, 1, ([], .null)), (15, .ireturn, 1, ([1], .null))
]
def mi_Po_isDouble : pm_I := ((kc_Po_isDouble, []), 2, ⟨"SegmentDesk$Pointer", "isDouble", "(J)Z"⟩, prog_8_method_9_code, (some .boolean), 1)
def kc_Re_findDouble : List (Nat × Instr × Nat × pm_L) := [
  (0, .lload_n 2, 1, ([], .null)), (1, .invokestatic 38, 3, ([32, 1, 0, 0], .null)), (4, .iconst 2, 1, ([], .null)), (5, .if_icmp .ne 10, 3, ([15], .null)), 
  (8, .lload_n 2, 1, ([], .null)), (9, .invokestatic 72, 3, ([38, 1, 0, 0], .null)), (12, .ifCond .eq 7, 3, ([19], .null)), (15, .iconst 1, 1, ([], .null)), 
  (16, .goto 4, 3, ([20], .null)), (19, .iconst 0, 1, ([], .null)), (20, .invokestatic 30, 3, ([29, 1, 0, 0], .null)), (23, .lload_n 2, 1, ([], .null)), 
  (24, .invokestatic 61, 3, ([36, 1, 0, 0], .null)), (27, .aload_n 1, 1, ([], .null)), (28, .getfield 92, 3, ([1, 2], .null)), (31, .i2l, 1, ([], .null)), 
  (32, .lcmp, 1, ([], .null)), (33, .ifCond .lt 7, 3, ([40], .null)), (36, .iconst 1, 1, ([], .null)), (37, .goto 4, 3, ([41], .null)), (40, .iconst 0, 1, ([], .null)), 
  (41, .invokestatic 30, 3, ([29, 1, 0, 0], .null)), (44, .lload 4, 2, ([], .null)), (46, .invokestatic 80, 3, ([34, 1, 0, 0], .null)), (49, .ifCond .eq 11, 3, ([60], .null)), 
  (52, .lload 4, 2, ([], .null)), (54, .invokestatic 86, 3, ([35, 1, 0, 0], .null)), (57, .ifCond .eq 7, 3, ([64], .null)), (60, .iconst 1, 1, ([], .null)), 
  (61, .goto 4, 3, ([65], .null)), (64, .iconst 0, 1, ([], .null)), (65, .invokestatic 30, 3, ([29, 1, 0, 0], .null)), (68, .aload_n 0, 1, ([], .null)), 
  (69, .lload_n 2, 1, ([], .null)), (70, .invokestatic 61, 3, ([36, 1, 0, 0], .null)), (73, .l2i, 1, ([], .null)), (74, .putfield 83, 3, ([2, 1, 0], .null)), 
  (77, .aload_n 0, 1, ([], .null)), (78, .lload_n 2, 1, ([], .null)), (79, .invokestatic 65, 3, ([37, 1, 0, 0], .null)), (82, .putfield 89, 3, ([2, 2, 0], .null)), 
  (85, .aload_n 0, 1, ([], .null)), (86, .lload 4, 2, ([], .null)), (88, .putfield 34, 3, ([2, 3, 1], .null)), (91, .return_, 1, ([], .null))
]
def mi_Re_findDouble : pm_I := ((kc_Re_findDouble, []), 6, ⟨"SegmentDesk$Reader", "findDouble", "(LSegmentDesk$Message;JJ)V"⟩, prog_9_method_5_code, none, 3)
def kc_Re_leadToStruct : List (Nat × Instr × Nat × pm_L) := [
  (0, .aload_n 0, 1, ([], .null)), (1, .getfield 34, 3, ([2, 3], .null)), (4, .invokestatic 95, 3, ([41, 1, 0, 0], .null)), (7, .istore 4, 2, ([], .null)), 
  (9, .aload_n 0, 1, ([], .null)), (10, .getfield 34, 3, ([2, 3], .null)), (13, .invokestatic 98, 3, ([42, 1, 0, 0], .null)), (16, .istore 5, 2, ([], .null)), 
  (18, .aload_n 0, 1, ([], .null)), (19, .aload_n 1, 1, ([], .null)), (20, .iload 4, 2, ([], .null)), (22, .iload 5, 2, ([], .null)), (24, .iadd, 1, ([], .null)), 
  (25, .invokevirtual 101, 3, ([43, 3, 0, 3], .null)), (28, .aload_n 0, 1, ([], .null)), (29, .iload 4, 2, ([], .null)), (31, .iload 5, 2, ([], .null)), 
  (33, .iadd, 1, ([], .null)), (34, .invokevirtual 105, 3, ([44, 2, 0, 3], .null)), (37, .aload_n 2, 1, ([], .null)), (38, .aload_n 0, 1, ([], .null)), 
  (39, .getfield 83, 3, ([2, 1], .null)), (42, .aload_n 0, 1, ([], .null)), (43, .getfield 89, 3, ([2, 2], .null)), (46, .iload_n 3, 1, ([], .null)), 
  (47, .iload 4, 2, ([], .null)), (49, .bipush 64, 2, ([], .null)), (51, .imul, 1, ([], .null)), (52, .iload 5, 2, ([], .null)), 
  (54, .invokevirtual 109, 3, ([45, 6, 0, 8], .null)), (57, .return_, 1, ([], .null))
]
def mi_Re_leadToStruct : pm_I := ((kc_Re_leadToStruct, []), 6, ⟨"SegmentDesk$Reader", "leadToStruct", "(LSegmentDesk$Message;LSegmentDesk$Spot;I)V"⟩, prog_9_method_6_code, none, 3)
def kc_Po_data : List (Nat × Instr × Nat × pm_L) := [
  (0, .lload_n 0, 1, ([], .null)), (1, .bipush 32, 2, ([], .null)), (3, .lushr, 1, ([], .null)), (4, .l2i, 1, ([], .null)), (5, .ldc 9, 2, ([], .int 65535)), 
  (7, .iand, 1, ([], .null)), (8, .ireturn, 1, ([], .null))
]
def mi_Po_data : pm_I := ((kc_Po_data, []), 2, ⟨"SegmentDesk$Pointer", "data", "(J)I"⟩, prog_8_method_5_code, (some .int), 1)
def kc_Po_pointers : List (Nat × Instr × Nat × pm_L) := [
  (0, .lload_n 0, 1, ([], .null)), (1, .bipush 48, 2, ([], .null)), (3, .lushr, 1, ([], .null)), (4, .l2i, 1, ([], .null)), (5, .ireturn, 1, ([], .null))
]
def mi_Po_pointers : pm_I := ((kc_Po_pointers, []), 2, ⟨"SegmentDesk$Pointer", "pointers", "(J)I"⟩, prog_8_method_6_code, (some .int), 1)
def kc_Re_checkWithin : List (Nat × Instr × Nat × pm_L) := [
  (0, .aload_n 0, 1, ([], .null)), (1, .getfield 89, 3, ([2, 2], .null)), (4, .ifCond .lt 21, 3, ([25], .null)), (7, .aload_n 0, 1, ([], .null)), 
  (8, .getfield 89, 3, ([2, 2], .null)), (11, .aload_n 1, 1, ([], .null)), (12, .getfield 127, 3, ([1, 1], .null)), (15, .aload_n 0, 1, ([], .null)), 
  (16, .getfield 83, 3, ([2, 1], .null)), (19, .iaload, 1, ([], .null)), (20, .iload_n 2, 1, ([], .null)), (21, .isub, 1, ([], .null)), (22, .if_icmp .le 7, 3, ([29], .null)), 
  (25, .iconst 1, 1, ([], .null)), (26, .goto 4, 3, ([30], .null)), (29, .iconst 0, 1, ([], .null)), (30, .invokestatic 30, 3, ([29, 1, 0, 0], .null)), 
  (33, .return_, 1, ([], .null))
]
def mi_Re_checkWithin : pm_I := ((kc_Re_checkWithin, []), 3, ⟨"SegmentDesk$Reader", "checkWithin", "(LSegmentDesk$Message;I)V"⟩, prog_9_method_9_code, none, 2)
def kc_Re_charge : List (Nat × Instr × Nat × pm_L) := [
  (0, .iload_n 1, 1, ([], .null)), (1, .aload_n 0, 1, ([], .null)), (2, .getfield 9, 3, ([2, 0], .null)), (5, .if_icmp .le 7, 3, ([12], .null)), (8, .iconst 1, 1, ([], .null)), 
  (9, .goto 4, 3, ([13], .null)), (12, .iconst 0, 1, ([], .null)), (13, .invokestatic 30, 3, ([29, 1, 0, 0], .null)), (16, .aload_n 0, 1, ([], .null)), (17, .dup, 1, ([], .null)), 
  (18, .getfield 9, 3, ([2, 0], .null)), (21, .iload_n 1, 1, ([], .null)), (22, .isub, 1, ([], .null)), (23, .putfield 9, 3, ([2, 0, 0], .null)), (26, .return_, 1, ([], .null))
]
def mi_Re_charge : pm_I := ((kc_Re_charge, []), 2, ⟨"SegmentDesk$Reader", "charge", "(I)V"⟩, prog_9_method_10_code, none, 1)
def kc_Sp_toStruct : List (Nat × Instr × Nat × pm_L) := [
  (0, .aload_n 0, 1, ([], .null)), (1, .iconst 1, 1, ([], .null)), (2, .iload_n 1, 1, ([], .null)), (3, .iload_n 2, 1, ([], .null)), (4, .iload_n 3, 1, ([], .null)), 
  (5, .invokevirtual 9, 3, ([18, 5, 0, 8], .null)), (8, .aload_n 0, 1, ([], .null)), (9, .iload 4, 2, ([], .null)), (11, .putfield 15, 3, ([7, 5, 0], .null)), 
  (14, .aload_n 0, 1, ([], .null)), (15, .iload 5, 2, ([], .null)), (17, .putfield 19, 3, ([7, 6, 0], .null)), (20, .return_, 1, ([], .null))
]
def mi_Sp_toStruct : pm_I := ((kc_Sp_toStruct, []), 6, ⟨"SegmentDesk$Spot", "toStruct", "(IIIII)V"⟩, prog_11_method_3_code, none, 5)
def kc_Po_code : List (Nat × Instr × Nat × pm_L) := [
  (0, .lload_n 0, 1, ([], .null)), (1, .bipush 32, 2, ([], .null)), (3, .lushr, 1, ([], .null)), (4, .l2i, 1, ([], .null)), (5, .bipush 7, 2, ([], .null)), 
  (7, .iand, 1, ([], .null)), (8, .ireturn, 1, ([], .null))
]
def mi_Po_code : pm_I := ((kc_Po_code, []), 2, ⟨"SegmentDesk$Pointer", "code", "(J)I"⟩, prog_8_method_7_code, (some .int), 1)
def kc_Re_leadToStructs : List (Nat × Instr × Nat × pm_L) := [
  (0, .aload_n 0, 1, ([], .null)), (1, .getfield 34, 3, ([2, 3], .null)), (4, .invokestatic 113, 3, ([48, 1, 0, 0], .null)), (7, .istore 4, 2, ([], .null)), 
  (9, .aload_n 0, 1, ([], .null)), (10, .aload_n 1, 1, ([], .null)), (11, .iload 4, 2, ([], .null)), (13, .iconst 1, 1, ([], .null)), (14, .iadd, 1, ([], .null)), 
  (15, .invokevirtual 101, 3, ([43, 3, 0, 3], .null)), (18, .aload_n 1, 1, ([], .null)), (19, .getfield 15, 3, ([1, 0], .null)), (22, .aload_n 0, 1, ([], .null)), 
  (23, .getfield 83, 3, ([2, 1], .null)), (26, .aaload, 1, ([], .null)), (27, .aload_n 0, 1, ([], .null)), (28, .getfield 89, 3, ([2, 2], .null)), (31, .laload, 1, ([], .null)), 
  (32, .lstore 5, 2, ([], .null)), (34, .lload 5, 2, ([], .null)), (36, .invokestatic 86, 3, ([35, 1, 0, 0], .null)), (39, .istore 7, 2, ([], .null)), 
  (41, .lload 5, 2, ([], .null)), (43, .invokestatic 95, 3, ([41, 1, 0, 0], .null)), (46, .istore 8, 2, ([], .null)), (48, .lload 5, 2, ([], .null)), 
  (50, .invokestatic 98, 3, ([42, 1, 0, 0], .null)), (53, .istore 9, 2, ([], .null)), (55, .lload 5, 2, ([], .null)), (57, .invokestatic 38, 3, ([32, 1, 0, 0], .null)), 
  (60, .ifCond .ne 8, 3, ([68], .null)), (63, .iload 7, 2, ([], .null)), (65, .ifCond .ge 7, 3, ([72], .null)), (68, .iconst 1, 1, ([], .null)), (69, .goto 4, 3, ([73], .null)), 
  (72, .iconst 0, 1, ([], .null)), (73, .invokestatic 30, 3, ([29, 1, 0, 0], .null)), (76, .iload 7, 2, ([], .null)), (78, .i2l, 1, ([], .null)), (79, .iload 8, 2, ([], .null)), 
  (81, .iload 9, 2, ([], .null)), (83, .iadd, 1, ([], .null)), (84, .i2l, 1, ([], .null)), (85, .lmul, 1, ([], .null)), (86, .iload 4, 2, ([], .null)), (88, .i2l, 1, ([], .null)), 
  (89, .lcmp, 1, ([], .null)), (90, .ifCond .le 7, 3, ([97], .null)), (93, .iconst 1, 1, ([], .null)), (94, .goto 4, 3, ([98], .null)), (97, .iconst 0, 1, ([], .null)), 
  (98, .invokestatic 30, 3, ([29, 1, 0, 0], .null)), (101, .aload_n 0, 1, ([], .null)), (102, .iload 4, 2, ([], .null)), (104, .iconst 1, 1, ([], .null)), 
  (105, .iadd, 1, ([], .null)), (106, .iload 8, 2, ([], .null)), (108, .iload 9, 2, ([], .null)), (110, .iadd, 1, ([], .null)), (111, .ifCond .ne 8, 3, ([119], .null)), 
  (114, .iload 7, 2, ([], .null)), (116, .goto 4, 3, ([120], .null)), (119, .iconst 0, 1, ([], .null)), (120, .iadd, 1, ([], .null)), 
  (121, .invokevirtual 105, 3, ([44, 2, 0, 3], .null)), (124, .aload_n 2, 1, ([], .null)), (125, .aload_n 0, 1, ([], .null)), (126, .getfield 83, 3, ([2, 1], .null)), 
  (129, .aload_n 0, 1, ([], .null)), (130, .getfield 89, 3, ([2, 2], .null)), (133, .iload_n 3, 1, ([], .null)), (134, .iload 7, 2, ([], .null)), (136, .iload 8, 2, ([], .null)), 
  (138, .iload 9, 2, ([], .null)), (140, .invokevirtual 123, 3, ([49, 7, 0, 8], .null)), (143, .return_, 1, ([], .null))
]
def mi_Re_leadToStructs : pm_I := ((kc_Re_leadToStructs, []), 10, ⟨"SegmentDesk$Reader", "leadToStructs", "(LSegmentDesk$Message;LSegmentDesk$Spot;I)V"⟩, prog_9_method_8_code, none, 3)
def kc_Po_elements : List (Nat × Instr × Nat × pm_L) := [
  (0, .lload_n 0, 1, ([], .null)), (1, .bipush 35, 2, ([], .null)), (3, .lushr, 1, ([], .null)), (4, .l2i, 1, ([], .null)), (5, .ireturn, 1, ([], .null))
]
def mi_Po_elements : pm_I := ((kc_Po_elements, []), 2, ⟨"SegmentDesk$Pointer", "elements", "(J)I"⟩, prog_8_method_8_code, (some .int), 1)
def kc_Sp_toStructs : List (Nat × Instr × Nat × pm_L) := [
  (0, .aload_n 0, 1, ([], .null)), (1, .iconst 2, 1, ([], .null)), (2, .iload_n 1, 1, ([], .null)), (3, .iload_n 2, 1, ([], .null)), (4, .iload_n 3, 1, ([], .null)), 
  (5, .invokevirtual 9, 3, ([18, 5, 0, 8], .null)), (8, .aload_n 0, 1, ([], .null)), (9, .bipush 7, 2, ([], .null)), (11, .putfield 22, 3, ([7, 8, 0], .null)), 
  (14, .aload_n 0, 1, ([], .null)), (15, .iload 4, 2, ([], .null)), (17, .putfield 25, 3, ([7, 7, 0], .null)), (20, .aload_n 0, 1, ([], .null)), (21, .iload 5, 2, ([], .null)), 
  (23, .bipush 64, 2, ([], .null)), (25, .imul, 1, ([], .null)), (26, .putfield 15, 3, ([7, 5, 0], .null)), (29, .aload_n 0, 1, ([], .null)), (30, .iload 6, 2, ([], .null)), 
  (32, .putfield 19, 3, ([7, 6, 0], .null)), (35, .return_, 1, ([], .null))
]
def mi_Sp_toStructs : pm_I := ((kc_Sp_toStructs, []), 7, ⟨"SegmentDesk$Spot", "toStructs", "(IIIIII)V"⟩, prog_11_method_5_code, none, 6)
def kc_Re_leadToList : List (Nat × Instr × Nat × pm_L) := [
  (0, .aload_n 0, 1, ([], .null)), (1, .getfield 34, 3, ([2, 3], .null)), (4, .invokestatic 48, 3, ([46, 1, 0, 0], .null)), (7, .istore 4, 2, ([], .null)), 
  (9, .aload_n 0, 1, ([], .null)), (10, .getfield 34, 3, ([2, 3], .null)), (13, .invokestatic 113, 3, ([48, 1, 0, 0], .null)), (16, .istore 5, 2, ([], .null)), 
  (18, .iload 4, 2, ([], .null)), (20, .iload 5, 2, ([], .null)), (22, .invokestatic 116, 3, ([51, 2, 0, 0], .null)), (25, .istore 6, 2, ([], .null)), 
  (27, .aload_n 0, 1, ([], .null)), (28, .aload_n 1, 1, ([], .null)), (29, .iload 6, 2, ([], .null)), (31, .invokevirtual 101, 3, ([43, 3, 0, 3], .null)), 
  (34, .aload_n 0, 1, ([], .null)), (35, .iload 4, 2, ([], .null)), (37, .ifCond .ne 8, 3, ([45], .null)), (40, .iload 5, 2, ([], .null)), (42, .goto 5, 3, ([47], .null)), 
  (45, .iload 6, 2, ([], .null)), (47, .invokevirtual 105, 3, ([44, 2, 0, 3], .null)), (50, .aload_n 2, 1, ([], .null)), (51, .aload_n 0, 1, ([], .null)), 
  (52, .getfield 83, 3, ([2, 1], .null)), (55, .aload_n 0, 1, ([], .null)), (56, .getfield 89, 3, ([2, 2], .null)), (59, .iload_n 3, 1, ([], .null)), 
  (60, .iload 4, 2, ([], .null)), (62, .iload 5, 2, ([], .null)), (64, .invokevirtual 120, 3, ([52, 6, 0, 8], .null)), (67, .return_, 1, ([], .null))
]
def mi_Re_leadToList : pm_I := ((kc_Re_leadToList, []), 7, ⟨"SegmentDesk$Reader", "leadToList", "(LSegmentDesk$Message;LSegmentDesk$Spot;I)V"⟩, prog_9_method_7_code, none, 3)
def kc_D_listWords : List (Nat × Instr × Nat × pm_L) := [
  (0, .iload_n 1, 1, ([], .null)), (1, .i2l, 1, ([], .null)), (2, .getstatic 172, 3, ([], .retAddr 1)), (5, .iload_n 0, 1, ([], .null)), (6, .iaload, 1, ([], .null)), 
  (7, .i2l, 1, ([], .null)), (8, .lmul, 1, ([], .null)), (9, .ldc2_w 311, 3, ([], .long 63)), (12, .ladd, 1, ([], .null)), (13, .ldc2_w 313, 3, ([], .long 64)), 
  (16, .ldiv, 1, ([], .null)), (17, .l2i, 1, ([], .null)), (18, .ireturn, 1, ([], .null))
]
def mi_D_listWords : pm_I := ((kc_D_listWords, []), 2, ⟨"SegmentDesk", "listWords", "(II)I"⟩, prog_1_method_37_code, (some .int), 2)
def kc_Sp_toList : List (Nat × Instr × Nat × pm_L) := [
  (0, .aload_n 0, 1, ([], .null)), (1, .iconst 2, 1, ([], .null)), (2, .iload_n 1, 1, ([], .null)), (3, .iload_n 2, 1, ([], .null)), (4, .iload_n 3, 1, ([], .null)), 
  (5, .invokevirtual 9, 3, ([18, 5, 0, 8], .null)), (8, .aload_n 0, 1, ([], .null)), (9, .iload 4, 2, ([], .null)), (11, .putfield 22, 3, ([7, 8, 0], .null)), 
  (14, .aload_n 0, 1, ([], .null)), (15, .iload 5, 2, ([], .null)), (17, .putfield 25, 3, ([7, 7, 0], .null)), (20, .aload_n 0, 1, ([], .null)), (21, .iload 4, 2, ([], .null)), 
  (23, .iconst 5, 1, ([], .null)), (24, .if_icmp .gt 12, 3, ([36], .null)), (27, .getstatic 28, 3, ([], .retAddr 1)), (30, .iload 4, 2, ([], .null)), 
  (32, .iaload, 1, ([], .null)), (33, .goto 4, 3, ([37], .null)), (36, .iconst 0, 1, ([], .null)), (37, .putfield 15, 3, ([7, 5, 0], .null)), (40, .aload_n 0, 1, ([], .null)), 
  (41, .iload 4, 2, ([], .null)), (43, .bipush 6, 2, ([], .null)), (45, .if_icmp .ne 7, 3, ([52], .null)), (48, .iconst 1, 1, ([], .null)), (49, .goto 4, 3, ([53], .null)), 
  (52, .iconst 0, 1, ([], .null)), (53, .putfield 19, 3, ([7, 6, 0], .null)), (56, .return_, 1, ([], .null))
]
def mi_Sp_toList : pm_I := ((kc_Sp_toList, []), 6, ⟨"SegmentDesk$Spot", "toList", "(IIIII)V"⟩, prog_11_method_4_code, none, 5)
def kc_L_follow : List (Nat × Instr × Nat × pm_L) := [
  (0, .aload 4, 2, ([], .null)), (2, .iconst 0, 1, ([], .null)), (3, .aload_n 0, 1, ([], .null)), (4, .iload_n 1, 1, ([], .null)), (5, .iload_n 2, 1, ([], .null)), 
  (6, .iload_n 3, 1, ([], .null)), (7, .invokevirtual 33, 3, ([54, 4, 0, 1], .null)), (10, .i2l, 1, ([], .null)), (11, .lastore, 1, ([], .null)), (12, .goto 15, 3, ([27], .null)), 
  (15, .astore 5, 2, ([], .null)), (17, .iconst 1, 1, ([], .null)), (18, .ireturn, 1, ([], .null)), (19, .astore 5, 2, ([], .null)), (21, .iconst 2, 1, ([], .null)), 
  (22, .ireturn, 1, ([], .null)), (23, .astore 5, 2, ([], .null)), (25, .iconst 3, 1, ([], .null)), (26, .ireturn, 1, ([], .null)), (27, .iconst 0, 1, ([], .null)), 
  (28, .ireturn, 1, ([], .null))
]
def mi_L_follow : pm_I := ((kc_L_follow, [(0, 12, 17, 1, 5), (0, 12, 21, 4, 5), (0, 12, 25, 2, 5)]), 6, ⟨"SegmentDeskLaw", "follow", "(LSegmentDesk;III[J)I"⟩, method_8_code, (some .int), 5)
def kc_D_follow : List (Nat × Instr × Nat × pm_L) := [
  (0, .iload_n 1, 1, ([], .null)), (1, .invokestatic 96, 3, ([28, 1, 0, 0], .null)), (4, .ifCond .eq 14, 3, ([18], .null)), (7, .iload_n 2, 1, ([], .null)), 
  (8, .invokestatic 96, 3, ([28, 1, 0, 0], .null)), (11, .ifCond .eq 7, 3, ([18], .null)), (14, .iload_n 3, 1, ([], .null)), (15, .ifCond .ge 7, 3, ([22], .null)), 
  (18, .iconst 1, 1, ([], .null)), (19, .goto 4, 3, ([23], .null)), (22, .iconst 0, 1, ([], .null)), (23, .invokestatic 61, 3, ([12, 1, 0, 0], .null)), 
  (26, .aload_n 0, 1, ([], .null)), (27, .getfield 46, 3, ([0, 5], .null)), (30, .iload_n 2, 1, ([], .null)), (31, .aaload, 1, ([], .null)), (32, .astore 4, 2, ([], .null)), 
  (34, .aload 4, 2, ([], .null)), (36, .invokevirtual 110, 3, ([55, 1, 0, 8], .null)), (39, .ifCond .eq 16, 3, ([55], .null)), (42, .iload_n 3, 1, ([], .null)), 
  (43, .aload 4, 2, ([], .null)), (45, .getfield 114, 3, ([7, 7], .null)), (48, .if_icmp .lt 7, 3, ([55], .null)), (51, .iconst 1, 1, ([], .null)), 
  (52, .goto 4, 3, ([56], .null)), (55, .iconst 0, 1, ([], .null)), (56, .invokestatic 61, 3, ([12, 1, 0, 0], .null)), (59, .aload 4, 2, ([], .null)), 
  (61, .getfield 107, 3, ([7, 0], .null)), (64, .iconst 2, 1, ([], .null)), (65, .if_icmp .ne 15, 3, ([80], .null)), (68, .aload 4, 2, ([], .null)), 
  (70, .invokevirtual 110, 3, ([55, 1, 0, 8], .null)), (73, .ifCond .ne 7, 3, ([80], .null)), (76, .iconst 1, 1, ([], .null)), (77, .goto 4, 3, ([81], .null)), 
  (80, .iconst 0, 1, ([], .null)), (81, .invokestatic 117, 3, ([56, 1, 0, 0], .null)), (84, .iload_n 3, 1, ([], .null)), (85, .aload 4, 2, ([], .null)), 
  (87, .invokevirtual 120, 3, ([57, 1, 0, 8], .null)), (90, .if_icmp .ge 39, 3, ([129], .null)), (93, .aload_n 0, 1, ([], .null)), (94, .getfield 19, 3, ([0, 1], .null)), 
  (97, .aload_n 0, 1, ([], .null)), (98, .getfield 12, 3, ([0, 0], .null)), (101, .aload_n 0, 1, ([], .null)), (102, .getfield 46, 3, ([0, 5], .null)), 
  (105, .iload_n 1, 1, ([], .null)), (106, .aaload, 1, ([], .null)), (107, .aload 4, 2, ([], .null)), (109, .getfield 124, 3, ([7, 2], .null)), (112, .aload 4, 2, ([], .null)), 
  (114, .iload_n 3, 1, ([], .null)), (115, .invokevirtual 127, 3, ([58, 2, 0, 8], .null)), (118, .aload 4, 2, ([], .null)), (120, .getfield 131, 3, ([7, 1], .null)), 
  (123, .invokevirtual 103, 3, ([30, 6, 0, 3], .null)), (126, .goto 12, 3, ([138], .null)), (129, .aload_n 0, 1, ([], .null)), (130, .getfield 46, 3, ([0, 5], .null)), 
  (133, .iload_n 1, 1, ([], .null)), (134, .aaload, 1, ([], .null)), (135, .invokevirtual 134, 3, ([17, 1, 0, 8], .null)), (138, .aload_n 0, 1, ([], .null)), 
  (139, .getfield 46, 3, ([0, 5], .null)), (142, .iload_n 1, 1, ([], .null)), (143, .aaload, 1, ([], .null)), (144, .getfield 107, 3, ([7, 0], .null)), 
  (147, .ireturn, 1, ([], .null))
]
def mi_D_follow : pm_I := ((kc_D_follow, []), 5, ⟨"SegmentDesk", "follow", "(III)I"⟩, prog_1_method_7_code, (some .int), 3)
def kc_Sp_isPointerList : List (Nat × Instr × Nat × pm_L) := [
  (0, .aload_n 0, 1, ([], .null)), (1, .getfield 49, 3, ([7, 0], .null)), (4, .iconst 2, 1, ([], .null)), (5, .if_icmp .ne 16, 3, ([21], .null)), (8, .aload_n 0, 1, ([], .null)), 
  (9, .getfield 22, 3, ([7, 8], .null)), (12, .bipush 6, 2, ([], .null)), (14, .if_icmp .ne 7, 3, ([21], .null)), (17, .iconst 1, 1, ([], .null)), (18, .goto 4, 3, ([22], .null)), 
  (21, .iconst 0, 1, ([], .null)), (22, .ireturn, 1, ([1], .null))
]
def mi_Sp_isPointerList : pm_I := ((kc_Sp_isPointerList, []), 1, ⟨"SegmentDesk$Spot", "isPointerList", "()Z"⟩, prog_11_method_10_code, (some .boolean), 0)
def kc_D_kindIf : List (Nat × Instr × Nat × pm_L) := [
  (0, .iload_n 0, 1, ([], .null)), (1, .ifCond .eq 14, 3, ([15], .null)), (4, .new 317, 3, ([4, 1, 6], .null)), (15, .return_, 1, ([], .null))
]
def mi_D_kindIf : pm_I := ((kc_D_kindIf, []), 1, ⟨"SegmentDesk", "kindIf", "(Z)V"⟩, prog_1_method_39_code, none, 1)
def kc_Sp_pointerCount : List (Nat × Instr × Nat × pm_L) := [
  (0, .aload_n 0, 1, ([], .null)), (1, .getfield 49, 3, ([7, 0], .null)), (4, .iconst 2, 1, ([], .null)), (5, .if_icmp .ne 10, 3, ([15], .null)), (8, .aload_n 0, 1, ([], .null)), 
  (9, .getfield 25, 3, ([7, 7], .null)), (12, .goto 7, 3, ([19], .null)), (15, .aload_n 0, 1, ([], .null)), (16, .getfield 19, 3, ([7, 6], .null)), (19, .ireturn, 1, ([], .null))
]
def mi_Sp_pointerCount : pm_I := ((kc_Sp_pointerCount, []), 1, ⟨"SegmentDesk$Spot", "pointerCount", "()I"⟩, prog_11_method_11_code, (some .int), 0)
def kc_Sp_pointerPlace : List (Nat × Instr × Nat × pm_L) := [
  (0, .aload_n 0, 1, ([], .null)), (1, .getfield 52, 3, ([7, 3], .null)), (4, .aload_n 0, 1, ([], .null)), (5, .invokevirtual 55, 3, ([59, 1, 0, 8], .null)), 
  (8, .iadd, 1, ([], .null)), (9, .iload_n 1, 1, ([], .null)), (10, .iadd, 1, ([], .null)), (11, .ireturn, 1, ([], .null))
]
def mi_Sp_pointerPlace : pm_I := ((kc_Sp_pointerPlace, []), 2, ⟨"SegmentDesk$Spot", "pointerPlace", "(I)I"⟩, prog_11_method_12_code, (some .int), 1)
def kc_Sp_dataWords : List (Nat × Instr × Nat × pm_L) := [
  (0, .aload_n 0, 1, ([], .null)), (1, .getfield 15, 3, ([7, 5], .null)), (4, .bipush 64, 2, ([], .null)), (6, .idiv, 1, ([], .null)), (7, .ireturn, 1, ([], .null))
]
def mi_Sp_dataWords : pm_I := ((kc_Sp_dataWords, []), 1, ⟨"SegmentDesk$Spot", "dataWords", "()I"⟩, prog_11_method_9_code, (some .int), 0)
def kc_L_element : List (Nat × Instr × Nat × pm_L) := [
  (0, .aload 4, 2, ([], .null)), (2, .iconst 0, 1, ([], .null)), (3, .aload_n 0, 1, ([], .null)), (4, .iload_n 1, 1, ([], .null)), (5, .iload_n 2, 1, ([], .null)), 
  (6, .iload_n 3, 1, ([], .null)), (7, .invokevirtual 39, 3, ([61, 4, 0, 1], .null)), (10, .i2l, 1, ([], .null)), (11, .lastore, 1, ([], .null)), (12, .goto 15, 3, ([27], .null)), 
  (15, .astore 5, 2, ([], .null)), (17, .iconst 1, 1, ([], .null)), (18, .ireturn, 1, ([], .null)), (19, .astore 5, 2, ([], .null)), (21, .iconst 2, 1, ([], .null)), 
  (22, .ireturn, 1, ([], .null)), (23, .astore 5, 2, ([], .null)), (25, .iconst 3, 1, ([], .null)), (26, .ireturn, 1, ([], .null)), (27, .iconst 0, 1, ([], .null)), 
  (28, .ireturn, 1, ([], .null))
]
def mi_L_element : pm_I := ((kc_L_element, [(0, 12, 17, 1, 5), (0, 12, 21, 4, 5), (0, 12, 25, 2, 5)]), 6, ⟨"SegmentDeskLaw", "element", "(LSegmentDesk;III[J)I"⟩, method_9_code, (some .int), 5)
def kc_D_element : List (Nat × Instr × Nat × pm_L) := [
  (0, .iload_n 1, 1, ([], .null)), (1, .invokestatic 96, 3, ([28, 1, 0, 0], .null)), (4, .ifCond .eq 10, 3, ([14], .null)), (7, .iload_n 2, 1, ([], .null)), 
  (8, .invokestatic 96, 3, ([28, 1, 0, 0], .null)), (11, .ifCond .ne 7, 3, ([18], .null)), (14, .iconst 1, 1, ([], .null)), (15, .goto 4, 3, ([19], .null)), 
  (18, .iconst 0, 1, ([], .null)), (19, .invokestatic 61, 3, ([12, 1, 0, 0], .null)), (22, .aload_n 0, 1, ([], .null)), (23, .getfield 46, 3, ([0, 5], .null)), 
  (26, .iload_n 2, 1, ([], .null)), (27, .aaload, 1, ([], .null)), (28, .astore 4, 2, ([], .null)), (30, .aload 4, 2, ([], .null)), (32, .getfield 107, 3, ([7, 0], .null)), 
  (35, .iconst 2, 1, ([], .null)), (36, .if_icmp .eq 7, 3, ([43], .null)), (39, .iconst 1, 1, ([], .null)), (40, .goto 4, 3, ([44], .null)), (43, .iconst 0, 1, ([], .null)), 
  (44, .invokestatic 117, 3, ([56, 1, 0, 0], .null)), (47, .iload_n 3, 1, ([], .null)), (48, .ifCond .lt 12, 3, ([60], .null)), (51, .iload_n 3, 1, ([], .null)), 
  (52, .aload 4, 2, ([], .null)), (54, .getfield 114, 3, ([7, 7], .null)), (57, .if_icmp .lt 7, 3, ([64], .null)), (60, .iconst 1, 1, ([], .null)), 
  (61, .goto 4, 3, ([65], .null)), (64, .iconst 0, 1, ([], .null)), (65, .invokestatic 61, 3, ([12, 1, 0, 0], .null)), (68, .aload 4, 2, ([], .null)), 
  (70, .getfield 137, 3, ([7, 8], .null)), (73, .iconst 1, 1, ([], .null)), (74, .if_icmp .ne 7, 3, ([81], .null)), (77, .iconst 1, 1, ([], .null)), 
  (78, .goto 4, 3, ([82], .null)), (81, .iconst 0, 1, ([], .null)), (82, .invokestatic 100, 3, ([29, 1, 0, 0], .null)), (85, .aload_n 0, 1, ([], .null)), 
  (86, .getfield 46, 3, ([0, 5], .null)), (89, .iload_n 1, 1, ([], .null)), (90, .aaload, 1, ([], .null)), (91, .aload 4, 2, ([], .null)), (93, .iload_n 3, 1, ([], .null)), 
  (94, .invokevirtual 140, 3, ([62, 3, 0, 8], .null)), (97, .iconst 1, 1, ([], .null)), (98, .ireturn, 1, ([], .null))
]
def mi_D_element : pm_I := ((kc_D_element, []), 5, ⟨"SegmentDesk", "element", "(III)I"⟩, prog_1_method_8_code, (some .int), 3)
def kc_Sp_toElement : List (Nat × Instr × Nat × pm_L) := [
  (0, .aload_n 1, 1, ([], .null)), (1, .invokevirtual 32, 3, ([63, 1, 0, 8], .null)), (4, .bipush 64, 2, ([], .null)), (6, .imul, 1, ([], .null)), (7, .iload_n 2, 1, ([], .null)), 
  (8, .aload_n 1, 1, ([], .null)), (9, .getfield 15, 3, ([7, 5], .null)), (12, .aload_n 1, 1, ([], .null)), (13, .getfield 19, 3, ([7, 6], .null)), 
  (16, .bipush 64, 2, ([], .null)), (18, .imul, 1, ([], .null)), (19, .iadd, 1, ([], .null)), (20, .imul, 1, ([], .null)), (21, .iadd, 1, ([], .null)), 
  (22, .istore_n 3, 1, ([], .null)), (23, .aload_n 0, 1, ([], .null)), (24, .aload_n 1, 1, ([], .null)), (25, .getfield 36, 3, ([7, 2], .null)), (28, .iload_n 3, 1, ([], .null)), 
  (29, .bipush 64, 2, ([], .null)), (31, .idiv, 1, ([], .null)), (32, .aload_n 1, 1, ([], .null)), (33, .getfield 39, 3, ([7, 1], .null)), (36, .aload_n 1, 1, ([], .null)), 
  (37, .getfield 15, 3, ([7, 5], .null)), (40, .aload_n 1, 1, ([], .null)), (41, .getfield 19, 3, ([7, 6], .null)), (44, .invokevirtual 42, 3, ([45, 6, 0, 8], .null)), 
  (47, .aload_n 0, 1, ([], .null)), (48, .iload_n 3, 1, ([], .null)), (49, .bipush 64, 2, ([], .null)), (51, .irem, 1, ([], .null)), (52, .putfield 46, 3, ([7, 4, 0], .null)), 
  (55, .return_, 1, ([], .null))
]
def mi_Sp_toElement : pm_I := ((kc_Sp_toElement, []), 4, ⟨"SegmentDesk$Spot", "toElement", "(LSegmentDesk$Spot;I)V"⟩, prog_11_method_6_code, none, 2)
def kc_Sp_firstElement : List (Nat × Instr × Nat × pm_L) := [
  (0, .aload_n 0, 1, ([], .null)), (1, .getfield 22, 3, ([7, 8], .null)), (4, .bipush 7, 2, ([], .null)), (6, .if_icmp .ne 12, 3, ([18], .null)), (9, .aload_n 0, 1, ([], .null)), 
  (10, .getfield 52, 3, ([7, 3], .null)), (13, .iconst 1, 1, ([], .null)), (14, .iadd, 1, ([], .null)), (15, .goto 7, 3, ([22], .null)), (18, .aload_n 0, 1, ([], .null)), 
  (19, .getfield 52, 3, ([7, 3], .null)), (22, .ireturn, 1, ([], .null))
]
def mi_Sp_firstElement : pm_I := ((kc_Sp_firstElement, []), 1, ⟨"SegmentDesk$Spot", "firstElement", "()I"⟩, prog_11_method_8_code, (some .int), 0)
def kc_L_number : List (Nat × Instr × Nat × pm_L) := [
  (0, .aload 6, 2, ([], .null)), (2, .iconst 0, 1, ([], .null)), (3, .aload_n 0, 1, ([], .null)), (4, .iload_n 1, 1, ([], .null)), (5, .iload_n 2, 1, ([], .null)), 
  (6, .iload_n 3, 1, ([], .null)), (7, .lload 4, 2, ([], .null)), (9, .invokevirtual 42, 3, ([65, 5, 0, 1], .null)), (12, .lastore, 1, ([], .null)), 
  (13, .goto 11, 3, ([24], .null)), (16, .astore 7, 2, ([], .null)), (18, .iconst 1, 1, ([], .null)), (19, .ireturn, 1, ([], .null)), (20, .astore 7, 2, ([], .null)), 
  (22, .iconst 2, 1, ([], .null)), (23, .ireturn, 1, ([], .null)), (24, .iconst 0, 1, ([], .null)), (25, .ireturn, 1, ([], .null))
]
def mi_L_number : pm_I := ((kc_L_number, [(0, 13, 18, 1, 7), (0, 13, 22, 4, 7)]), 8, ⟨"SegmentDeskLaw", "number", "(LSegmentDesk;IIIJ[J)I"⟩, method_10_code, (some .int), 6)
def kc_D_number : List (Nat × Instr × Nat × pm_L) := [
  (0, .iload_n 1, 1, ([], .null)), (1, .invokestatic 96, 3, ([28, 1, 0, 0], .null)), (4, .ifCond .eq 14, 3, ([18], .null)), (7, .iload_n 2, 1, ([], .null)), 
  (8, .invokestatic 144, 3, ([66, 1, 0, 0], .null)), (11, .ifCond .eq 7, 3, ([18], .null)), (14, .iload_n 3, 1, ([], .null)), (15, .ifCond .ge 7, 3, ([22], .null)), 
  (18, .iconst 1, 1, ([], .null)), (19, .goto 4, 3, ([23], .null)), (22, .iconst 0, 1, ([], .null)), (23, .invokestatic 61, 3, ([12, 1, 0, 0], .null)), 
  (26, .aload_n 0, 1, ([], .null)), (27, .getfield 46, 3, ([0, 5], .null)), (30, .iload_n 1, 1, ([], .null)), (31, .aaload, 1, ([], .null)), 
  (32, .getfield 107, 3, ([7, 0], .null)), (35, .iconst 2, 1, ([], .null)), (36, .if_icmp .ne 7, 3, ([43], .null)), (39, .iconst 1, 1, ([], .null)), 
  (40, .goto 4, 3, ([44], .null)), (43, .iconst 0, 1, ([], .null)), (44, .invokestatic 117, 3, ([56, 1, 0, 0], .null)), (47, .aload_n 0, 1, ([], .null)), 
  (48, .aload_n 0, 1, ([], .null)), (49, .getfield 46, 3, ([0, 5], .null)), (52, .iload_n 1, 1, ([], .null)), (53, .aaload, 1, ([], .null)), (54, .iload_n 2, 1, ([], .null)), 
  (55, .iload_n 3, 1, ([], .null)), (56, .invokevirtual 147, 3, ([67, 4, 0, 1], .null)), (59, .lload 4, 2, ([], .null)), (61, .iload_n 2, 1, ([], .null)), 
  (62, .invokestatic 151, 3, ([71, 1, 0, 0], .null)), (65, .land, 1, ([], .null)), (66, .lxor, 1, ([], .null)), (67, .iload_n 2, 1, ([], .null)), 
  (68, .invokestatic 155, 3, ([72, 2, 0, 0], .null)), (71, .lreturn, 1, ([], .null))
]
def mi_D_number : pm_I := ((kc_D_number, []), 6, ⟨"SegmentDesk", "number", "(IIIJ)J"⟩, prog_1_method_9_code, (some .long), 4)
def kc_D_isFieldSize : List (Nat × Instr × Nat × pm_L) := [
  (0, .iload_n 0, 1, ([], .null)), (1, .iconst 1, 1, ([], .null)), (2, .if_icmp .eq 27, 3, ([29], .null)), (5, .iload_n 0, 1, ([], .null)), (6, .bipush 8, 2, ([], .null)), 
  (8, .if_icmp .eq 21, 3, ([29], .null)), (11, .iload_n 0, 1, ([], .null)), (12, .bipush 16, 2, ([], .null)), (14, .if_icmp .eq 15, 3, ([29], .null)), 
  (17, .iload_n 0, 1, ([], .null)), (18, .bipush 32, 2, ([], .null)), (20, .if_icmp .eq 9, 3, ([29], .null)), (23, .iload_n 0, 1, ([], .null)), (24, .bipush 64, 2, ([], .null)), 
  (26, .if_icmp .ne 7, 3, ([33], .null)), (29, .iconst 1, 1, ([], .null)), (30, .goto 4, 3, ([34], .null)), (33, .iconst 0, 1, ([], .null)), (34, .ireturn, 1, ([1], .null))
]
def mi_D_isFieldSize : pm_I := ((kc_D_isFieldSize, []), 1, ⟨"SegmentDesk", "isFieldSize", "(I)Z"⟩, prog_1_method_33_code, (some .boolean), 1)
def kc_D_fieldOf : List (Nat × Instr × Nat × pm_L) := [
  (0, .aload_n 1, 1, ([], .null)), (1, .iload_n 2, 1, ([], .null)), (2, .iload_n 3, 1, ([], .null)), (3, .invokevirtual 242, 3, ([68, 3, 0, 8], .null)), 
  (6, .ifCond .eq 24, 3, ([30], .null)), (9, .aload_n 0, 1, ([], .null)), (10, .getfield 12, 3, ([0, 0], .null)), (13, .aload_n 1, 1, ([], .null)), 
  (14, .getfield 124, 3, ([7, 2], .null)), (17, .aload_n 1, 1, ([], .null)), (18, .iload_n 2, 1, ([], .null)), (19, .iload_n 3, 1, ([], .null)), 
  (20, .invokevirtual 175, 3, ([69, 3, 0, 8], .null)), (23, .iload_n 2, 1, ([], .null)), (24, .invokevirtual 179, 3, ([70, 4, 0, 2], .null)), (27, .goto 4, 3, ([31], .null)), 
  (30, .lconst 0, 1, ([], .null)), (31, .lreturn, 1, ([], .null))
]
def mi_D_fieldOf : pm_I := ((kc_D_fieldOf, []), 4, ⟨"SegmentDesk", "fieldOf", "(LSegmentDesk$Spot;II)J"⟩, prog_1_method_26_code, (some .long), 3)
def kc_Sp_hasPiece : List (Nat × Instr × Nat × pm_L) := [
  (0, .aload_n 0, 1, ([], .null)), (1, .getfield 49, 3, ([7, 0], .null)), (4, .iconst 2, 1, ([], .null)), (5, .if_icmp .ne 19, 3, ([24], .null)), (8, .iload_n 2, 1, ([], .null)), 
  (9, .aload_n 0, 1, ([], .null)), (10, .getfield 25, 3, ([7, 7], .null)), (13, .if_icmp .ge 7, 3, ([20], .null)), (16, .iconst 1, 1, ([], .null)), 
  (17, .goto 28, 3, ([45], .null)), (20, .iconst 0, 1, ([], .null)), (21, .goto 24, 3, ([45], .null)), (24, .iload_n 2, 1, ([], .null)), (25, .i2l, 1, ([], .null)), 
  (26, .lconst 1, 1, ([], .null)), (27, .ladd, 1, ([], .null)), (28, .iload_n 1, 1, ([], .null)), (29, .i2l, 1, ([], .null)), (30, .lmul, 1, ([], .null)), 
  (31, .aload_n 0, 1, ([], .null)), (32, .getfield 15, 3, ([7, 5], .null)), (35, .i2l, 1, ([], .null)), (36, .lcmp, 1, ([], .null)), (37, .ifCond .gt 7, 3, ([44], .null)), 
  (40, .iconst 1, 1, ([], .null)), (41, .goto 4, 3, ([45], .null)), (44, .iconst 0, 1, ([], .null)), (45, .ireturn, 1, ([1], .null))
]
def mi_Sp_hasPiece : pm_I := ((kc_Sp_hasPiece, []), 3, ⟨"SegmentDesk$Spot", "hasPiece", "(II)Z"⟩, prog_11_method_14_code, (some .boolean), 2)
def kc_Sp_pieceBit : List (Nat × Instr × Nat × pm_L) := [
  (0, .aload_n 0, 1, ([], .null)), (1, .getfield 52, 3, ([7, 3], .null)), (4, .bipush 64, 2, ([], .null)), (6, .imul, 1, ([], .null)), (7, .aload_n 0, 1, ([], .null)), 
  (8, .getfield 46, 3, ([7, 4], .null)), (11, .iadd, 1, ([], .null)), (12, .iload_n 2, 1, ([], .null)), (13, .iload_n 1, 1, ([], .null)), (14, .imul, 1, ([], .null)), 
  (15, .iadd, 1, ([], .null)), (16, .ireturn, 1, ([], .null))
]
def mi_Sp_pieceBit : pm_I := ((kc_Sp_pieceBit, []), 3, ⟨"SegmentDesk$Spot", "pieceBit", "(II)I"⟩, prog_11_method_15_code, (some .int), 2)
def kc_Me_piece : List (Nat × Instr × Nat × pm_L) := [
  (0, .aload_n 0, 1, ([], .null)), (1, .getfield 11, 3, ([1, 0], .null)), (4, .iload_n 1, 1, ([], .null)), (5, .aaload, 1, ([], .null)), (6, .iload_n 2, 1, ([], .null)), 
  (7, .bipush 64, 2, ([], .null)), (9, .idiv, 1, ([], .null)), (10, .laload, 1, ([], .null)), (11, .iload_n 2, 1, ([], .null)), (12, .bipush 64, 2, ([], .null)), 
  (14, .irem, 1, ([], .null)), (15, .lushr, 1, ([], .null)), (16, .iload_n 3, 1, ([], .null)), (17, .invokestatic 37, 3, ([71, 1, 0, 0], .null)), (20, .land, 1, ([], .null)), 
  (21, .lreturn, 1, ([], .null))
]
def mi_Me_piece : pm_I := ((kc_Me_piece, []), 4, ⟨"SegmentDesk$Message", "piece", "(III)J"⟩, prog_6_method_8_code, (some .long), 3)
def kc_D_ones : List (Nat × Instr × Nat × pm_L) := [
  (0, .iload_n 0, 1, ([], .null)), (1, .bipush 64, 2, ([], .null)), (3, .if_icmp .lt 9, 3, ([12], .null)), (6, .ldc2_w 309, 3, ([], .long (-1))), (9, .goto 8, 3, ([17], .null)), 
  (12, .lconst 1, 1, ([], .null)), (13, .iload_n 0, 1, ([], .null)), (14, .lshl, 1, ([], .null)), (15, .lconst 1, 1, ([], .null)), (16, .lsub, 1, ([], .null)), 
  (17, .lreturn, 1, ([], .null))
]
def mi_D_ones : pm_I := ((kc_D_ones, []), 1, ⟨"SegmentDesk", "ones", "(I)J"⟩, prog_1_method_34_code, (some .long), 1)
def kc_D_signed : List (Nat × Instr × Nat × pm_L) := [
  (0, .iload_n 2, 1, ([], .null)), (1, .iconst 1, 1, ([], .null)), (2, .if_icmp .ne 7, 3, ([9], .null)), (5, .lload_n 0, 1, ([], .null)), (6, .goto 14, 3, ([20], .null)), 
  (9, .lload_n 0, 1, ([], .null)), (10, .bipush 64, 2, ([], .null)), (12, .iload_n 2, 1, ([], .null)), (13, .isub, 1, ([], .null)), (14, .lshl, 1, ([], .null)), 
  (15, .bipush 64, 2, ([], .null)), (17, .iload_n 2, 1, ([], .null)), (18, .isub, 1, ([], .null)), (19, .lshr, 1, ([], .null)), (20, .lreturn, 1, ([], .null))
]
def mi_D_signed : pm_I := ((kc_D_signed, []), 3, ⟨"SegmentDesk", "signed", "(JI)J"⟩, prog_1_method_35_code, (some .long), 2)
def kc_L_real : List (Nat × Instr × Nat × pm_L) := [
  (0, .aload 4, 2, ([], .null)), (2, .iconst 0, 1, ([], .null)), (3, .aload_n 0, 1, ([], .null)), (4, .iload_n 1, 1, ([], .null)), (5, .iload_n 2, 1, ([], .null)), 
  (6, .iload_n 3, 1, ([], .null)), (7, .invokevirtual 46, 3, ([74, 4, 0, 1], .null)), (10, .dastore, 1, ([], .null)), (11, .goto 15, 3, ([26], .null)), 
  (14, .astore 5, 2, ([], .null)), (16, .iconst 1, 1, ([], .null)), (17, .ireturn, 1, ([], .null)), (18, .astore 5, 2, ([], .null)), (20, .iconst 2, 1, ([], .null)), 
  (21, .ireturn, 1, ([], .null)), (22, .astore 5, 2, ([], .null)), (24, .iconst 3, 1, ([], .null)), (25, .ireturn, 1, ([], .null)), (26, .iconst 0, 1, ([], .null)), 
  (27, .ireturn, 1, ([], .null))
]
def mi_L_real : pm_I := ((kc_L_real, [(0, 11, 16, 1, 5), (0, 11, 20, 4, 5), (0, 11, 24, 5, 5)]), 6, ⟨"SegmentDeskLaw", "real", "(LSegmentDesk;IZI[D)I"⟩, method_11_code, (some .int), 5)
def kc_D_real : List (Nat × Instr × Nat × pm_L) := [
  (0, .iload_n 1, 1, ([], .null)), (1, .invokestatic 96, 3, ([28, 1, 0, 0], .null)), (4, .ifCond .eq 7, 3, ([11], .null)), (7, .iload_n 3, 1, ([], .null)), 
  (8, .ifCond .ge 7, 3, ([15], .null)), (11, .iconst 1, 1, ([], .null)), (12, .goto 4, 3, ([16], .null)), (15, .iconst 0, 1, ([], .null)), 
  (16, .invokestatic 61, 3, ([12, 1, 0, 0], .null)), (19, .aload_n 0, 1, ([], .null)), (20, .getfield 46, 3, ([0, 5], .null)), (23, .iload_n 1, 1, ([], .null)), 
  (24, .aaload, 1, ([], .null)), (25, .getfield 107, 3, ([7, 0], .null)), (28, .iconst 2, 1, ([], .null)), (29, .if_icmp .ne 7, 3, ([36], .null)), (32, .iconst 1, 1, ([], .null)), 
  (33, .goto 4, 3, ([37], .null)), (36, .iconst 0, 1, ([], .null)), (37, .invokestatic 117, 3, ([56, 1, 0, 0], .null)), (40, .aload_n 0, 1, ([], .null)), 
  (41, .aload_n 0, 1, ([], .null)), (42, .getfield 46, 3, ([0, 5], .null)), (45, .iload_n 1, 1, ([], .null)), (46, .aaload, 1, ([], .null)), (47, .iload_n 2, 1, ([], .null)), 
  (48, .ifCond .eq 8, 3, ([56], .null)), (51, .bipush 64, 2, ([], .null)), (53, .goto 5, 3, ([58], .null)), (56, .bipush 32, 2, ([], .null)), (58, .iload_n 3, 1, ([], .null)), 
  (59, .invokevirtual 147, 3, ([67, 4, 0, 1], .null)), (62, .lstore 4, 2, ([], .null)), (64, .lload 4, 2, ([], .null)), (66, .iload_n 2, 1, ([], .null)), 
  (67, .invokestatic 159, 3, ([75, 2, 0, 0], .null)), (70, .ifCond .ne 7, 3, ([77], .null)), (73, .iconst 1, 1, ([], .null)), (74, .goto 4, 3, ([78], .null)), 
  (77, .iconst 0, 1, ([], .null)), (78, .invokestatic 165, 3, ([79, 1, 0, 0], .null)), (81, .lload 4, 2, ([], .null)), (83, .iload_n 2, 1, ([], .null)), 
  (84, .invokestatic 168, 3, ([80, 2, 0, 0], .null)), (87, .dreturn, 1, ([], .null))
]
def mi_D_real : pm_I := ((kc_D_real, []), 6, ⟨"SegmentDesk", "real", "(IZI)D"⟩, prog_1_method_10_code, (some .double), 3)
def kc_Ra_isFinite : List (Nat × Instr × Nat × pm_L) := [
  (0, .lload_n 0, 1, ([], .null)), (1, .iload_n 2, 1, ([], .null)), (2, .invokestatic 16, 3, ([76, 2, 0, 0], .null)), (5, .iload_n 2, 1, ([], .null)), 
  (6, .invokestatic 13, 3, ([78, 1, 0, 0], .null)), (9, .if_icmp .eq 7, 3, ([16], .null)), (12, .iconst 1, 1, ([], .null)), (13, .goto 4, 3, ([17], .null)), 
  (16, .iconst 0, 1, ([], .null)), (17, .ireturn, 1, ([1], .null))
]
def mi_Ra_isFinite : pm_I := ((kc_Ra_isFinite, []), 3, ⟨"SegmentDesk$Reals", "isFinite", "(JZ)Z"⟩, prog_10_method_6_code, (some .boolean), 2)
def kc_Ra_exponentOf : List (Nat × Instr × Nat × pm_L) := [
  (0, .lload_n 0, 1, ([], .null)), (1, .iload_n 2, 1, ([], .null)), (2, .invokestatic 7, 3, ([77, 1, 0, 0], .null)), (5, .lushr, 1, ([], .null)), (6, .l2i, 1, ([], .null)), 
  (7, .iload_n 2, 1, ([], .null)), (8, .invokestatic 13, 3, ([78, 1, 0, 0], .null)), (11, .iand, 1, ([], .null)), (12, .ireturn, 1, ([], .null))
]
def mi_Ra_exponentOf : pm_I := ((kc_Ra_exponentOf, []), 3, ⟨"SegmentDesk$Reals", "exponentOf", "(JZ)I"⟩, prog_10_method_5_code, (some .int), 2)
def kc_Ra_fractionBits : List (Nat × Instr × Nat × pm_L) := [
  (0, .iload_n 0, 1, ([], .null)), (1, .ifCond .eq 8, 3, ([9], .null)), (4, .bipush 52, 2, ([], .null)), (6, .goto 5, 3, ([11], .null)), (9, .bipush 23, 2, ([], .null)), 
  (11, .ireturn, 1, ([], .null))
]
def mi_Ra_fractionBits : pm_I := ((kc_Ra_fractionBits, []), 1, ⟨"SegmentDesk$Reals", "fractionBits", "(Z)I"⟩, prog_10_method_2_code, (some .int), 1)
def kc_Ra_mostExponent : List (Nat × Instr × Nat × pm_L) := [
  (0, .iload_n 0, 1, ([], .null)), (1, .ifCond .eq 9, 3, ([10], .null)), (4, .sipush 2047, 3, ([], .null)), (7, .goto 6, 3, ([13], .null)), (10, .sipush 255, 3, ([], .null)), 
  (13, .ireturn, 1, ([], .null))
]
def mi_Ra_mostExponent : pm_I := ((kc_Ra_mostExponent, []), 1, ⟨"SegmentDesk$Reals", "mostExponent", "(Z)I"⟩, prog_10_method_3_code, (some .int), 1)
def kc_D_notFiniteIf : List (Nat × Instr × Nat × pm_L) := [
  (0, .iload_n 0, 1, ([], .null)), (1, .ifCond .eq 14, 3, ([15], .null)), (4, .new 332, 3, ([5, 1, 6], .null)), (15, .return_, 1, ([], .null))
]
def mi_D_notFiniteIf : pm_I := ((kc_D_notFiniteIf, []), 1, ⟨"SegmentDesk", "notFiniteIf", "(Z)V"⟩, prog_1_method_42_code, none, 1)
def kc_Ra_fromBits : List (Nat × Instr × Nat × pm_L) := [
  (0, .iload_n 2, 1, ([], .null)), (1, .invokestatic 7, 3, ([77, 1, 0, 0], .null)), (4, .istore_n 3, 1, ([], .null)), (5, .lload_n 0, 1, ([], .null)), 
  (6, .iload_n 3, 1, ([], .null)), (7, .invokestatic 20, 3, ([71, 1, 0, 0], .null)), (10, .land, 1, ([], .null)), (11, .lstore 4, 2, ([], .null)), 
  (13, .lload_n 0, 1, ([], .null)), (14, .iload_n 2, 1, ([], .null)), (15, .invokestatic 16, 3, ([76, 2, 0, 0], .null)), (18, .istore 6, 2, ([], .null)), 
  (20, .iload 6, 2, ([], .null)), (22, .ifCond .ne 9, 3, ([31], .null)), (25, .lload 4, 2, ([], .null)), (27, .l2d, 1, ([], .null)), (28, .goto 10, 3, ([38], .null)), 
  (31, .lload 4, 2, ([], .null)), (33, .lconst 1, 1, ([], .null)), (34, .iload_n 3, 1, ([], .null)), (35, .lshl, 1, ([], .null)), (36, .lor, 1, ([], .null)), 
  (37, .l2d, 1, ([], .null)), (38, .dstore 7, 2, ([], .null)), (40, .dload 7, 2, ([], .null)), (42, .iload 6, 2, ([], .null)), (44, .iconst 1, 1, ([], .null)), 
  (45, .invokestatic 26, 3, ([81, 2, 0, 0], .null)), (48, .iload_n 2, 1, ([], .null)), (49, .invokestatic 32, 3, ([82, 1, 0, 0], .null)), (52, .isub, 1, ([], .null)), 
  (53, .iload_n 3, 1, ([], .null)), (54, .isub, 1, ([], .null)), (55, .invokestatic 35, 3, ([83, 2, 0, 0], .null)), (58, .dstore 9, 2, ([], .null)), 
  (60, .lload_n 0, 1, ([], .null)), (61, .iload_n 2, 1, ([], .null)), (62, .ifCond .eq 8, 3, ([70], .null)), (65, .bipush 63, 2, ([], .null)), (67, .goto 5, 3, ([72], .null)), 
  (70, .bipush 31, 2, ([], .null)), (72, .lushr, 1, ([], .null)), (73, .lconst 1, 1, ([], .null)), (74, .land, 1, ([], .null)), (75, .lconst 0, 1, ([], .null)), 
  (76, .lcmp, 1, ([], .null)), (77, .ifCond .eq 7, 3, ([84], .null)), (80, .iconst 1, 1, ([], .null)), (81, .goto 4, 3, ([85], .null)), (84, .iconst 0, 1, ([], .null)), 
  (85, .istore 11, 2, ([], .null)), (87, .iload 11, 2, ([], .null)), (89, .ifCond .eq 9, 3, ([98], .null)), (92, .dload 9, 2, ([], .null)), (94, .dneg, 1, ([], .null)), 
  (95, .goto 5, 3, ([100], .null)), (98, .dload 9, 2, ([], .null)), (100, .dreturn, 1, ([], .null))
]
def mi_Ra_fromBits : pm_I := ((kc_Ra_fromBits, []), 12, ⟨"SegmentDesk$Reals", "fromBits", "(JZ)D"⟩, prog_10_method_7_code, (some .double), 2)
def kc_JM_max : List (Nat × Instr × Nat × pm_L) := [
  (0, .iload_n 0, 1, ([], .null)), (1, .iload_n 1, 1, ([], .null)), (2, .if_icmp .lt 7, 3, ([9], .null)), (5, .iload_n 0, 1, ([], .null)), (6, .goto 4, 3, ([10], .null)), 
  (9, .iload_n 1, 1, ([], .null)), (10, .ireturn, 1, ([], .null))
]
def mi_JM_max : pm_I := ((kc_JM_max, []), 2, ⟨"java/lang/Math", "max", "(II)I"⟩, prog_20_method_65_code, (some .int), 2)
def kc_Ra_bias : List (Nat × Instr × Nat × pm_L) := [
  (0, .iload_n 0, 1, ([], .null)), (1, .ifCond .eq 9, 3, ([10], .null)), (4, .sipush 1023, 3, ([], .null)), (7, .goto 5, 3, ([12], .null)), (10, .bipush 127, 2, ([], .null)), 
  (12, .ireturn, 1, ([], .null))
]
def mi_Ra_bias : pm_I := ((kc_Ra_bias, []), 1, ⟨"SegmentDesk$Reals", "bias", "(Z)I"⟩, prog_10_method_4_code, (some .int), 1)
def kc_Ra_scaled : List (Nat × Instr × Nat × pm_L) := [
  (0, .dload_n 0, 1, ([], .null)), (1, .dstore_n 3, 1, ([], .null)), (2, .iload_n 2, 1, ([], .null)), (3, .invokestatic 39, 3, ([84, 1, 0, 0], .null)), 
  (6, .istore 5, 2, ([], .null)), (8, .ldc2_w 43, 3, ([], .double 4751297606875873280)), (11, .dstore 6, 2, ([], .null)), (13, .iload 5, 2, ([], .null)), 
  (15, .ifCond .le 52, 3, ([67], .null)), (18, .iload 5, 2, ([], .null)), (20, .bipush 32, 2, ([], .null)), (22, .if_icmp .ge 8, 3, ([30], .null)), 
  (25, .ldc2_w 45, 3, ([], .double 4611686018427387904)), (28, .dstore 6, 2, ([], .null)), (30, .iload_n 2, 1, ([], .null)), (31, .ifCond .le 10, 3, ([41], .null)), 
  (34, .dload_n 3, 1, ([], .null)), (35, .dload 6, 2, ([], .null)), (37, .dmul, 1, ([], .null)), (38, .goto 7, 3, ([45], .null)), (41, .dload_n 3, 1, ([], .null)), 
  (42, .dload 6, 2, ([], .null)), (44, .ddiv, 1, ([], .null)), (45, .dstore_n 3, 1, ([], .null)), (46, .iload 5, 2, ([], .null)), (48, .iload 5, 2, ([], .null)), 
  (50, .bipush 32, 2, ([], .null)), (52, .if_icmp .ge 7, 3, ([59], .null)), (55, .iconst 1, 1, ([], .null)), (56, .goto 5, 3, ([61], .null)), (59, .bipush 32, 2, ([], .null)), 
  (61, .isub, 1, ([], .null)), (62, .istore 5, 2, ([], .null)), (64, .goto (-51), 3, ([13], .null)), (67, .dload_n 3, 1, ([], .null)), (68, .dreturn, 1, ([], .null))
]
def mi_Ra_scaled : pm_I := ((kc_Ra_scaled, []), 8, ⟨"SegmentDesk$Reals", "scaled", "(DI)D"⟩, prog_10_method_8_code, (some .double), 2)
def kc_JM_abs : List (Nat × Instr × Nat × pm_L) := [
  (0, .iload_n 0, 1, ([], .null)), (1, .ifCond .ge 8, 3, ([9], .null)), (4, .iload_n 0, 1, ([], .null)), (5, .ineg, 1, ([], .null)), (6, .goto 4, 3, ([10], .null)), 
  (9, .iload_n 0, 1, ([], .null)), (10, .ireturn, 1, ([], .null))
]
def mi_JM_abs : pm_I := ((kc_JM_abs, []), 1, ⟨"java/lang/Math", "abs", "(I)I"⟩, prog_20_method_59_code, (some .int), 1)
def kc_L_item : List (Nat × Instr × Nat × pm_L) := [
  (0, .aload_n 3, 1, ([], .null)), (1, .iconst 0, 1, ([], .null)), (2, .aload_n 0, 1, ([], .null)), (3, .iload_n 1, 1, ([], .null)), (4, .iload_n 2, 1, ([], .null)), 
  (5, .invokevirtual 52, 3, ([86, 3, 0, 1], .null)), (8, .lastore, 1, ([], .null)), (9, .goto 11, 3, ([20], .null)), (12, .astore 4, 2, ([], .null)), 
  (14, .iconst 1, 1, ([], .null)), (15, .ireturn, 1, ([], .null)), (16, .astore 4, 2, ([], .null)), (18, .iconst 2, 1, ([], .null)), (19, .ireturn, 1, ([], .null)), 
  (20, .iconst 0, 1, ([], .null)), (21, .ireturn, 1, ([], .null))
]
def mi_L_item : pm_I := ((kc_L_item, [(0, 9, 14, 1, 4), (0, 9, 18, 4, 4)]), 5, ⟨"SegmentDeskLaw", "item", "(LSegmentDesk;II[J)I"⟩, method_12_code, (some .int), 4)
def kc_D_item : List (Nat × Instr × Nat × pm_L) := [
  (0, .iload_n 1, 1, ([], .null)), (1, .invokestatic 96, 3, ([28, 1, 0, 0], .null)), (4, .ifCond .ne 7, 3, ([11], .null)), (7, .iconst 1, 1, ([], .null)), 
  (8, .goto 4, 3, ([12], .null)), (11, .iconst 0, 1, ([], .null)), (12, .invokestatic 61, 3, ([12, 1, 0, 0], .null)), (15, .aload_n 0, 1, ([], .null)), 
  (16, .getfield 46, 3, ([0, 5], .null)), (19, .iload_n 1, 1, ([], .null)), (20, .aaload, 1, ([], .null)), (21, .astore_n 3, 1, ([], .null)), (22, .aload_n 3, 1, ([], .null)), 
  (23, .getfield 107, 3, ([7, 0], .null)), (26, .iconst 2, 1, ([], .null)), (27, .if_icmp .ne 11, 3, ([38], .null)), (30, .aload_n 3, 1, ([], .null)), 
  (31, .getfield 137, 3, ([7, 8], .null)), (34, .iconst 5, 1, ([], .null)), (35, .if_icmp .le 7, 3, ([42], .null)), (38, .iconst 1, 1, ([], .null)), 
  (39, .goto 4, 3, ([43], .null)), (42, .iconst 0, 1, ([], .null)), (43, .invokestatic 117, 3, ([56, 1, 0, 0], .null)), (46, .iload_n 2, 1, ([], .null)), 
  (47, .ifCond .lt 11, 3, ([58], .null)), (50, .iload_n 2, 1, ([], .null)), (51, .aload_n 3, 1, ([], .null)), (52, .getfield 114, 3, ([7, 7], .null)), 
  (55, .if_icmp .lt 7, 3, ([62], .null)), (58, .iconst 1, 1, ([], .null)), (59, .goto 4, 3, ([63], .null)), (62, .iconst 0, 1, ([], .null)), 
  (63, .invokestatic 61, 3, ([12, 1, 0, 0], .null)), (66, .aload_n 3, 1, ([], .null)), (67, .getfield 137, 3, ([7, 8], .null)), (70, .ifCond .ne 5, 3, ([75], .null)), 
  (73, .lconst 0, 1, ([], .null)), (74, .lreturn, 1, ([], .null)), (75, .getstatic 172, 3, ([], .retAddr 1)), (78, .aload_n 3, 1, ([], .null)), 
  (79, .getfield 137, 3, ([7, 8], .null)), (82, .iaload, 1, ([], .null)), (83, .istore 4, 2, ([], .null)), (85, .aload_n 0, 1, ([], .null)), 
  (86, .getfield 12, 3, ([0, 0], .null)), (89, .aload_n 3, 1, ([], .null)), (90, .getfield 124, 3, ([7, 2], .null)), (93, .aload_n 3, 1, ([], .null)), 
  (94, .iload 4, 2, ([], .null)), (96, .iload_n 2, 1, ([], .null)), (97, .invokevirtual 175, 3, ([69, 3, 0, 8], .null)), (100, .iload 4, 2, ([], .null)), 
  (102, .invokevirtual 179, 3, ([70, 4, 0, 2], .null)), (105, .iload 4, 2, ([], .null)), (107, .invokestatic 155, 3, ([72, 2, 0, 0], .null)), (110, .lreturn, 1, ([], .null))
]
def mi_D_item : pm_I := ((kc_D_item, []), 5, ⟨"SegmentDesk", "item", "(II)J"⟩, prog_1_method_11_code, (some .long), 2)
def kc_L_look : List (Nat × Instr × Nat × pm_L) := [
  (0, .aload_n 3, 1, ([], .null)), (1, .iconst 0, 1, ([], .null)), (2, .aload_n 0, 1, ([], .null)), (3, .iload_n 1, 1, ([], .null)), (4, .iload_n 2, 1, ([], .null)), 
  (5, .invokevirtual 55, 3, ([88, 3, 0, 1], .null)), (8, .i2l, 1, ([], .null)), (9, .lastore, 1, ([], .null)), (10, .goto 7, 3, ([17], .null)), (13, .astore 4, 2, ([], .null)), 
  (15, .iconst 1, 1, ([], .null)), (16, .ireturn, 1, ([], .null)), (17, .iconst 0, 1, ([], .null)), (18, .ireturn, 1, ([], .null))
]
def mi_L_look : pm_I := ((kc_L_look, [(0, 10, 15, 1, 4)]), 5, ⟨"SegmentDeskLaw", "look", "(LSegmentDesk;II[J)I"⟩, method_13_code, (some .int), 4)
def kc_D_look : List (Nat × Instr × Nat × pm_L) := [
  (0, .iload_n 1, 1, ([], .null)), (1, .invokestatic 96, 3, ([28, 1, 0, 0], .null)), (4, .ifCond .ne 7, 3, ([11], .null)), (7, .iconst 1, 1, ([], .null)), 
  (8, .goto 4, 3, ([12], .null)), (11, .iconst 0, 1, ([], .null)), (12, .invokestatic 61, 3, ([12, 1, 0, 0], .null)), (15, .aload_n 0, 1, ([], .null)), 
  (16, .getfield 46, 3, ([0, 5], .null)), (19, .iload_n 1, 1, ([], .null)), (20, .aaload, 1, ([], .null)), (21, .astore_n 3, 1, ([], .null)), (22, .iload_n 2, 1, ([], .null)), 
  (23, .tableswitch 109 0 7 #[45, 50, 55, 60, 65, 82, 99, 104], 45, ([132, 68, 73, 78, 83, 88, 105, 122, 127], .null)), (68, .aload_n 3, 1, ([], .null)), 
  (69, .getfield 107, 3, ([7, 0], .null)), (72, .ireturn, 1, ([], .null)), (73, .aload_n 3, 1, ([], .null)), (74, .getfield 131, 3, ([7, 1], .null)), 
  (77, .ireturn, 1, ([], .null)), (78, .aload_n 3, 1, ([], .null)), (79, .getfield 124, 3, ([7, 2], .null)), (82, .ireturn, 1, ([], .null)), (83, .aload_n 3, 1, ([], .null)), 
  (84, .getfield 183, 3, ([7, 3], .null)), (87, .ireturn, 1, ([], .null)), (88, .aload_n 3, 1, ([], .null)), (89, .getfield 107, 3, ([7, 0], .null)), 
  (92, .iconst 1, 1, ([], .null)), (93, .if_icmp .ne 10, 3, ([103], .null)), (96, .aload_n 3, 1, ([], .null)), (97, .getfield 186, 3, ([7, 5], .null)), 
  (100, .goto 4, 3, ([104], .null)), (103, .iconst 0, 1, ([], .null)), (104, .ireturn, 1, ([], .null)), (105, .aload_n 3, 1, ([], .null)), 
  (106, .getfield 107, 3, ([7, 0], .null)), (109, .iconst 1, 1, ([], .null)), (110, .if_icmp .ne 10, 3, ([120], .null)), (113, .aload_n 3, 1, ([], .null)), 
  (114, .getfield 189, 3, ([7, 6], .null)), (117, .goto 4, 3, ([121], .null)), (120, .iconst 0, 1, ([], .null)), (121, .ireturn, 1, ([], .null)), 
  (122, .aload_n 3, 1, ([], .null)), (123, .getfield 114, 3, ([7, 7], .null)), (126, .ireturn, 1, ([], .null)), (127, .aload_n 3, 1, ([], .null)), 
  (128, .getfield 137, 3, ([7, 8], .null)), (131, .ireturn, 1, ([], .null)), (132, .new 192, 3, ([1, 1, 6], .null))
]
def mi_D_look : pm_I := ((kc_D_look, []), 4, ⟨"SegmentDesk", "look", "(II)I"⟩, prog_1_method_12_code, (some .int), 2)
def kc_L_begin : List (Nat × Instr × Nat × pm_L) := [
  (0, .aload_n 0, 1, ([], .null)), (1, .iload_n 1, 1, ([], .null)), (2, .invokevirtual 58, 3, ([90, 2, 0, 1], .null)), (5, .goto 6, 3, ([11], .null)), 
  (8, .astore_n 2, 1, ([], .null)), (9, .iconst 1, 1, ([], .null)), (10, .ireturn, 1, ([], .null)), (11, .iconst 0, 1, ([], .null)), (12, .ireturn, 1, ([], .null))
]
def mi_L_begin : pm_I := ((kc_L_begin, [(0, 5, 9, 1, 2)]), 3, ⟨"SegmentDeskLaw", "begin", "(LSegmentDesk;I)I"⟩, method_14_code, (some .int), 2)
def kc_D_begin : List (Nat × Instr × Nat × pm_L) := [
  (0, .iload_n 1, 1, ([], .null)), (1, .iconst 1, 1, ([], .null)), (2, .if_icmp .lt 9, 3, ([11], .null)), (5, .iload_n 1, 1, ([], .null)), (6, .bipush 64, 2, ([], .null)), 
  (8, .if_icmp .le 7, 3, ([15], .null)), (11, .iconst 1, 1, ([], .null)), (12, .goto 4, 3, ([16], .null)), (15, .iconst 0, 1, ([], .null)), 
  (16, .invokestatic 61, 3, ([12, 1, 0, 0], .null)), (19, .aload_n 0, 1, ([], .null)), (20, .getfield 12, 3, ([0, 0], .null)), (23, .iconst 1, 1, ([], .null)), 
  (24, .invokevirtual 69, 3, ([14, 2, 0, 2], .null)), (27, .aload_n 0, 1, ([], .null)), (28, .getfield 12, 3, ([0, 0], .null)), (31, .getfield 73, 3, ([1, 1], .null)), 
  (34, .iconst 0, 1, ([], .null)), (35, .iconst 1, 1, ([], .null)), (36, .iastore, 1, ([], .null)), (37, .aload_n 0, 1, ([], .null)), (38, .getfield 12, 3, ([0, 0], .null)), 
  (41, .iload_n 1, 1, ([], .null)), (42, .putfield 88, 3, ([1, 3, 0], .null)), (45, .aload_n 0, 1, ([], .null)), (46, .invokevirtual 77, 3, ([16, 1, 0, 1], .null)), 
  (49, .return_, 1, ([], .null))
]
def mi_D_begin : pm_I := ((kc_D_begin, []), 2, ⟨"SegmentDesk", "begin", "(I)V"⟩, prog_1_method_13_code, none, 1)
def kc_L_struct : List (Nat × Instr × Nat × pm_L) := [
  (0, .aload 6, 2, ([], .null)), (2, .iconst 0, 1, ([], .null)), (3, .aload_n 0, 1, ([], .null)), (4, .iload_n 1, 1, ([], .null)), (5, .iload_n 2, 1, ([], .null)), 
  (6, .iload_n 3, 1, ([], .null)), (7, .iload 4, 2, ([], .null)), (9, .iload 5, 2, ([], .null)), (11, .invokevirtual 62, 3, ([92, 6, 0, 1], .null)), (14, .i2l, 1, ([], .null)), 
  (15, .lastore, 1, ([], .null)), (16, .goto 15, 3, ([31], .null)), (19, .astore 7, 2, ([], .null)), (21, .iconst 1, 1, ([], .null)), (22, .ireturn, 1, ([], .null)), 
  (23, .astore 7, 2, ([], .null)), (25, .iconst 2, 1, ([], .null)), (26, .ireturn, 1, ([], .null)), (27, .astore 7, 2, ([], .null)), (29, .iconst 3, 1, ([], .null)), 
  (30, .ireturn, 1, ([], .null)), (31, .iconst 0, 1, ([], .null)), (32, .ireturn, 1, ([], .null))
]
def mi_L_struct : pm_I := ((kc_L_struct, [(0, 16, 21, 1, 7), (0, 16, 25, 4, 7), (0, 16, 29, 3, 7)]), 8, ⟨"SegmentDeskLaw", "struct", "(LSegmentDesk;IIIII[J)I"⟩, method_15_code, (some .int), 7)
def kc_D_struct : List (Nat × Instr × Nat × pm_L) := [
  (0, .iload_n 1, 1, ([], .null)), (1, .invokestatic 96, 3, ([28, 1, 0, 0], .null)), (4, .ifCond .eq 10, 3, ([14], .null)), (7, .iload_n 2, 1, ([], .null)), 
  (8, .invokestatic 199, 3, ([93, 1, 0, 0], .null)), (11, .ifCond .ne 7, 3, ([18], .null)), (14, .iconst 1, 1, ([], .null)), (15, .goto 4, 3, ([19], .null)), 
  (18, .iconst 0, 1, ([], .null)), (19, .invokestatic 61, 3, ([12, 1, 0, 0], .null)), (22, .iload 4, 2, ([], .null)), (24, .bipush 20, 2, ([], .null)), 
  (26, .invokestatic 65, 3, ([13, 2, 0, 0], .null)), (29, .ifCond .eq 23, 3, ([52], .null)), (32, .iload 5, 2, ([], .null)), (34, .bipush 20, 2, ([], .null)), 
  (36, .invokestatic 65, 3, ([13, 2, 0, 0], .null)), (39, .ifCond .eq 13, 3, ([52], .null)), (42, .aload_n 0, 1, ([], .null)), (43, .getfield 12, 3, ([0, 0], .null)), 
  (46, .invokevirtual 202, 3, ([94, 1, 0, 2], .null)), (49, .ifCond .ne 7, 3, ([56], .null)), (52, .iconst 1, 1, ([], .null)), (53, .goto 4, 3, ([57], .null)), 
  (56, .iconst 0, 1, ([], .null)), (57, .invokestatic 61, 3, ([12, 1, 0, 0], .null)), (60, .aload_n 0, 1, ([], .null)), (61, .iload_n 2, 1, ([], .null)), 
  (62, .iload_n 3, 1, ([], .null)), (63, .invokevirtual 205, 3, ([95, 3, 0, 1], .null)), (66, .aload_n 0, 1, ([], .null)), (67, .getfield 26, 3, ([0, 2], .null)), 
  (70, .aload_n 0, 1, ([], .null)), (71, .getfield 12, 3, ([0, 0], .null)), (74, .aload_n 0, 1, ([], .null)), (75, .iload_n 2, 1, ([], .null)), 
  (76, .invokevirtual 209, 3, ([96, 2, 0, 1], .null)), (79, .aload_n 0, 1, ([], .null)), (80, .iload_n 2, 1, ([], .null)), (81, .iload_n 3, 1, ([], .null)), 
  (82, .invokevirtual 212, 3, ([97, 3, 0, 1], .null)), (85, .iload 4, 2, ([], .null)), (87, .iload 5, 2, ([], .null)), (89, .invokevirtual 215, 3, ([98, 6, 0, 4], .null)), 
  (92, .aload_n 0, 1, ([], .null)), (93, .getfield 46, 3, ([0, 5], .null)), (96, .iload_n 1, 1, ([], .null)), (97, .aaload, 1, ([], .null)), (98, .aload_n 0, 1, ([], .null)), 
  (99, .getfield 26, 3, ([0, 2], .null)), (102, .getfield 219, 3, ([3, 0], .null)), (105, .aload_n 0, 1, ([], .null)), (106, .getfield 26, 3, ([0, 2], .null)), 
  (109, .getfield 220, 3, ([3, 1], .null)), (112, .bipush 64, 2, ([], .null)), (114, .iload 4, 2, ([], .null)), (116, .bipush 64, 2, ([], .null)), (118, .imul, 1, ([], .null)), 
  (119, .iload 5, 2, ([], .null)), (121, .invokevirtual 221, 3, ([45, 6, 0, 8], .null)), (124, .iconst 1, 1, ([], .null)), (125, .ireturn, 1, ([], .null))
]
def mi_D_struct : pm_I := ((kc_D_struct, []), 6, ⟨"SegmentDesk", "struct", "(IIIII)I"⟩, prog_1_method_14_code, (some .int), 5)
def kc_D_isBuildSource : List (Nat × Instr × Nat × pm_L) := [
  (0, .iload_n 0, 1, ([], .null)), (1, .iconst (-1), 1, ([], .null)), (2, .if_icmp .eq 10, 3, ([12], .null)), (5, .iload_n 0, 1, ([], .null)), 
  (6, .invokestatic 96, 3, ([28, 1, 0, 0], .null)), (9, .ifCond .eq 7, 3, ([16], .null)), (12, .iconst 1, 1, ([], .null)), (13, .goto 4, 3, ([17], .null)), 
  (16, .iconst 0, 1, ([], .null)), (17, .ireturn, 1, ([1], .null))
]
def mi_D_isBuildSource : pm_I := ((kc_D_isBuildSource, []), 1, ⟨"SegmentDesk", "isBuildSource", "(I)Z"⟩, prog_1_method_31_code, (some .boolean), 1)
def kc_Me_isOwn : List (Nat × Instr × Nat × pm_L) := [
  (0, .aload_n 0, 1, ([], .null)), (1, .getfield 30, 3, ([1, 3], .null)), (4, .ifCond .le 7, 3, ([11], .null)), (7, .iconst 1, 1, ([], .null)), (8, .goto 4, 3, ([12], .null)), 
  (11, .iconst 0, 1, ([], .null)), (12, .ireturn, 1, ([1], .null))
]
def mi_Me_isOwn : pm_I := ((kc_Me_isOwn, []), 1, ⟨"SegmentDesk$Message", "isOwn", "()Z"⟩, prog_6_method_3_code, (some .boolean), 0)
def kc_D_checkPointer : List (Nat × Instr × Nat × pm_L) := [
  (0, .iload_n 1, 1, ([], .null)), (1, .ifCond .lt 53, 3, ([54], .null)), (4, .aload_n 0, 1, ([], .null)), (5, .getfield 46, 3, ([0, 5], .null)), (8, .iload_n 1, 1, ([], .null)), 
  (9, .aaload, 1, ([], .null)), (10, .astore_n 3, 1, ([], .null)), (11, .aload_n 3, 1, ([], .null)), (12, .getfield 107, 3, ([7, 0], .null)), (15, .iconst 1, 1, ([], .null)), 
  (16, .if_icmp .eq 14, 3, ([30], .null)), (19, .aload_n 3, 1, ([], .null)), (20, .invokevirtual 110, 3, ([55, 1, 0, 8], .null)), (23, .ifCond .ne 7, 3, ([30], .null)), 
  (26, .iconst 1, 1, ([], .null)), (27, .goto 4, 3, ([31], .null)), (30, .iconst 0, 1, ([], .null)), (31, .invokestatic 117, 3, ([56, 1, 0, 0], .null)), 
  (34, .iload_n 2, 1, ([], .null)), (35, .ifCond .lt 11, 3, ([46], .null)), (38, .iload_n 2, 1, ([], .null)), (39, .aload_n 3, 1, ([], .null)), 
  (40, .invokevirtual 120, 3, ([57, 1, 0, 8], .null)), (43, .if_icmp .lt 7, 3, ([50], .null)), (46, .iconst 1, 1, ([], .null)), (47, .goto 4, 3, ([51], .null)), 
  (50, .iconst 0, 1, ([], .null)), (51, .invokestatic 61, 3, ([12, 1, 0, 0], .null)), (54, .return_, 1, ([], .null))
]
def mi_D_checkPointer : pm_I := ((kc_D_checkPointer, []), 4, ⟨"SegmentDesk", "checkPointer", "(II)V"⟩, prog_1_method_27_code, none, 2)
def kc_D_segmentOf : List (Nat × Instr × Nat × pm_L) := [
  (0, .iload_n 1, 1, ([], .null)), (1, .ifCond .ge 7, 3, ([8], .null)), (4, .iconst 0, 1, ([], .null)), (5, .goto 12, 3, ([17], .null)), (8, .aload_n 0, 1, ([], .null)), 
  (9, .getfield 46, 3, ([0, 5], .null)), (12, .iload_n 1, 1, ([], .null)), (13, .aaload, 1, ([], .null)), (14, .getfield 124, 3, ([7, 2], .null)), (17, .ireturn, 1, ([], .null))
]
def mi_D_segmentOf : pm_I := ((kc_D_segmentOf, []), 2, ⟨"SegmentDesk", "segmentOf", "(I)I"⟩, prog_1_method_28_code, (some .int), 1)
def kc_D_placeOf : List (Nat × Instr × Nat × pm_L) := [
  (0, .iload_n 1, 1, ([], .null)), (1, .ifCond .ge 7, 3, ([8], .null)), (4, .iconst 0, 1, ([], .null)), (5, .goto 13, 3, ([18], .null)), (8, .aload_n 0, 1, ([], .null)), 
  (9, .getfield 46, 3, ([0, 5], .null)), (12, .iload_n 1, 1, ([], .null)), (13, .aaload, 1, ([], .null)), (14, .iload_n 2, 1, ([], .null)), 
  (15, .invokevirtual 127, 3, ([58, 2, 0, 8], .null)), (18, .ireturn, 1, ([], .null))
]
def mi_D_placeOf : pm_I := ((kc_D_placeOf, []), 3, ⟨"SegmentDesk", "placeOf", "(II)I"⟩, prog_1_method_29_code, (some .int), 2)
def kc_Bu_addStruct : List (Nat × Instr × Nat × pm_L) := [
  (0, .iload 4, 2, ([], .null)), (2, .iload 5, 2, ([], .null)), (4, .invokestatic 9, 3, ([99, 2, 0, 0], .null)), (7, .lstore 6, 2, ([], .null)), (9, .iload 4, 2, ([], .null)), 
  (11, .iload 5, 2, ([], .null)), (13, .iadd, 1, ([], .null)), (14, .ifCond .ne 30, 3, ([44], .null)), (17, .aload_n 1, 1, ([], .null)), (18, .getfield 15, 3, ([1, 0], .null)), 
  (21, .iload_n 2, 1, ([], .null)), (22, .aaload, 1, ([], .null)), (23, .iload_n 3, 1, ([], .null)), (24, .lload 6, 2, ([], .null)), (26, .iconst (-1), 1, ([], .null)), 
  (27, .invokestatic 21, 3, ([100, 2, 0, 0], .null)), (30, .lastore, 1, ([], .null)), (31, .aload_n 0, 1, ([], .null)), (32, .iload_n 2, 1, ([], .null)), 
  (33, .putfield 25, 3, ([3, 0, 0], .null)), (36, .aload_n 0, 1, ([], .null)), (37, .iload_n 3, 1, ([], .null)), (38, .putfield 31, 3, ([3, 1, 0], .null)), 
  (41, .goto 17, 3, ([58], .null)), (44, .aload_n 0, 1, ([], .null)), (45, .aload_n 1, 1, ([], .null)), (46, .iload_n 2, 1, ([], .null)), (47, .iload_n 3, 1, ([], .null)), 
  (48, .lload 6, 2, ([], .null)), (50, .iload 4, 2, ([], .null)), (52, .iload 5, 2, ([], .null)), (54, .iadd, 1, ([], .null)), (55, .invokevirtual 34, 3, ([101, 6, 0, 4], .null)), 
  (58, .return_, 1, ([], .null))
]
def mi_Bu_addStruct : pm_I := ((kc_Bu_addStruct, []), 8, ⟨"SegmentDesk$Builder", "addStruct", "(LSegmentDesk$Message;IIII)V"⟩, prog_2_method_2_code, none, 5)
def kc_Po_toStruct : List (Nat × Instr × Nat × pm_L) := [
  (0, .lconst 0, 1, ([], .null)), (1, .iload_n 0, 1, ([], .null)), (2, .i2l, 1, ([], .null)), (3, .bipush 32, 2, ([], .null)), (5, .lshl, 1, ([], .null)), 
  (6, .lor, 1, ([], .null)), (7, .iload_n 1, 1, ([], .null)), (8, .i2l, 1, ([], .null)), (9, .bipush 48, 2, ([], .null)), (11, .lshl, 1, ([], .null)), (12, .lor, 1, ([], .null)), 
  (13, .lreturn, 1, ([], .null))
]
def mi_Po_toStruct : pm_I := ((kc_Po_toStruct, []), 2, ⟨"SegmentDesk$Pointer", "toStruct", "(II)J"⟩, prog_8_method_12_code, (some .long), 2)
def kc_Po_withOffset : List (Nat × Instr × Nat × pm_L) := [
  (0, .lload_n 0, 1, ([], .null)), (1, .ldc2_w 14, 3, ([], .long (-4294967293))), (4, .land, 1, ([], .null)), (5, .iload_n 2, 1, ([], .null)), (6, .i2l, 1, ([], .null)), 
  (7, .iconst 2, 1, ([], .null)), (8, .lshl, 1, ([], .null)), (9, .ldc2_w 16, 3, ([], .long 4294967292)), (12, .land, 1, ([], .null)), (13, .lor, 1, ([], .null)), 
  (14, .lreturn, 1, ([], .null))
]
def mi_Po_withOffset : pm_I := ((kc_Po_withOffset, []), 3, ⟨"SegmentDesk$Pointer", "withOffset", "(JI)J"⟩, prog_8_method_15_code, (some .long), 2)
def kc_Bu_allocate : List (Nat × Instr × Nat × pm_L) := [
  (0, .aload_n 1, 1, ([], .null)), (1, .iload_n 2, 1, ([], .null)), (2, .iload 6, 2, ([], .null)), (4, .invokevirtual 45, 3, ([102, 3, 0, 2], .null)), 
  (7, .ifCond .eq 41, 3, ([48], .null)), (10, .aload_n 0, 1, ([], .null)), (11, .iload_n 2, 1, ([], .null)), (12, .putfield 25, 3, ([3, 0, 0], .null)), 
  (15, .aload_n 0, 1, ([], .null)), (16, .aload_n 1, 1, ([], .null)), (17, .iload_n 2, 1, ([], .null)), (18, .iload 6, 2, ([], .null)), 
  (20, .invokevirtual 49, 3, ([103, 3, 0, 2], .null)), (23, .putfield 31, 3, ([3, 1, 0], .null)), (26, .aload_n 1, 1, ([], .null)), (27, .getfield 15, 3, ([1, 0], .null)), 
  (30, .iload_n 2, 1, ([], .null)), (31, .aaload, 1, ([], .null)), (32, .iload_n 3, 1, ([], .null)), (33, .lload 4, 2, ([], .null)), (35, .aload_n 0, 1, ([], .null)), 
  (36, .getfield 31, 3, ([3, 1], .null)), (39, .iload_n 3, 1, ([], .null)), (40, .isub, 1, ([], .null)), (41, .iconst 1, 1, ([], .null)), (42, .isub, 1, ([], .null)), 
  (43, .invokestatic 21, 3, ([100, 2, 0, 0], .null)), (46, .lastore, 1, ([], .null)), (47, .return_, 1, ([], .null)), (48, .aload_n 1, 1, ([], .null)), 
  (49, .iload 6, 2, ([], .null)), (51, .iconst 1, 1, ([], .null)), (52, .iadd, 1, ([], .null)), (53, .invokevirtual 52, 3, ([104, 2, 0, 2], .null)), 
  (56, .istore 7, 2, ([], .null)), (58, .iload 7, 2, ([], .null)), (60, .ifCond .ge 29, 3, ([89], .null)), (63, .aload_n 0, 1, ([], .null)), (64, .aload_n 1, 1, ([], .null)), 
  (65, .iload_n 2, 1, ([], .null)), (66, .iload_n 3, 1, ([], .null)), (67, .lload 4, 2, ([], .null)), (69, .iload 6, 2, ([], .null)), 
  (71, .invokevirtual 56, 3, ([105, 6, 0, 4], .null)), (74, .ifCond .eq 4, 3, ([78], .null)), (77, .return_, 1, ([], .null)), (78, .aload_n 0, 1, ([], .null)), 
  (79, .aload_n 1, 1, ([], .null)), (80, .iload 6, 2, ([], .null)), (82, .iconst 1, 1, ([], .null)), (83, .iadd, 1, ([], .null)), 
  (84, .invokevirtual 60, 3, ([107, 3, 0, 4], .null)), (87, .istore 7, 2, ([], .null)), (89, .aload_n 1, 1, ([], .null)), (90, .iload 7, 2, ([], .null)), 
  (92, .iload 6, 2, ([], .null)), (94, .iconst 1, 1, ([], .null)), (95, .iadd, 1, ([], .null)), (96, .invokevirtual 49, 3, ([103, 3, 0, 2], .null)), 
  (99, .istore 8, 2, ([], .null)), (101, .aload_n 1, 1, ([], .null)), (102, .getfield 15, 3, ([1, 0], .null)), (105, .iload_n 2, 1, ([], .null)), (106, .aaload, 1, ([], .null)), 
  (107, .iload_n 3, 1, ([], .null)), (108, .iconst 0, 1, ([], .null)), (109, .iload 7, 2, ([], .null)), (111, .iload 8, 2, ([], .null)), 
  (113, .invokestatic 64, 3, ([106, 3, 0, 0], .null)), (116, .lastore, 1, ([], .null)), (117, .aload_n 1, 1, ([], .null)), (118, .getfield 15, 3, ([1, 0], .null)), 
  (121, .iload 7, 2, ([], .null)), (123, .aaload, 1, ([], .null)), (124, .iload 8, 2, ([], .null)), (126, .lload 4, 2, ([], .null)), (128, .lastore, 1, ([], .null)), 
  (129, .aload_n 0, 1, ([], .null)), (130, .iload 7, 2, ([], .null)), (132, .putfield 25, 3, ([3, 0, 0], .null)), (135, .aload_n 0, 1, ([], .null)), 
  (136, .iload 8, 2, ([], .null)), (138, .iconst 1, 1, ([], .null)), (139, .iadd, 1, ([], .null)), (140, .putfield 31, 3, ([3, 1, 0], .null)), (143, .return_, 1, ([], .null))
]
def mi_Bu_allocate : pm_I := ((kc_Bu_allocate, []), 9, ⟨"SegmentDesk$Builder", "allocate", "(LSegmentDesk$Message;IIJI)V"⟩, prog_2_method_5_code, none, 5)
def kc_Me_hasRoom : List (Nat × Instr × Nat × pm_L) := [
  (0, .aload_n 0, 1, ([], .null)), (1, .getfield 30, 3, ([1, 3], .null)), (4, .aload_n 0, 1, ([], .null)), (5, .getfield 16, 3, ([1, 1], .null)), (8, .iload_n 1, 1, ([], .null)), 
  (9, .iaload, 1, ([], .null)), (10, .isub, 1, ([], .null)), (11, .iload_n 2, 1, ([], .null)), (12, .if_icmp .lt 7, 3, ([19], .null)), (15, .iconst 1, 1, ([], .null)), 
  (16, .goto 4, 3, ([20], .null)), (19, .iconst 0, 1, ([], .null)), (20, .ireturn, 1, ([1], .null))
]
def mi_Me_hasRoom : pm_I := ((kc_Me_hasRoom, []), 3, ⟨"SegmentDesk$Message", "hasRoom", "(II)Z"⟩, prog_6_method_5_code, (some .boolean), 2)
def kc_Me_claim : List (Nat × Instr × Nat × pm_L) := [
  (0, .aload_n 0, 1, ([], .null)), (1, .getfield 16, 3, ([1, 1], .null)), (4, .iload_n 1, 1, ([], .null)), (5, .iaload, 1, ([], .null)), (6, .istore_n 3, 1, ([], .null)), 
  (7, .aload_n 0, 1, ([], .null)), (8, .getfield 16, 3, ([1, 1], .null)), (11, .iload_n 1, 1, ([], .null)), (12, .dup2, 1, ([], .null)), (13, .iaload, 1, ([], .null)), 
  (14, .iload_n 2, 1, ([], .null)), (15, .iadd, 1, ([], .null)), (16, .iastore, 1, ([], .null)), (17, .iload_n 3, 1, ([], .null)), (18, .ireturn, 1, ([], .null))
]
def mi_Me_claim : pm_I := ((kc_Me_claim, []), 4, ⟨"SegmentDesk$Message", "claim", "(II)I"⟩, prog_6_method_7_code, (some .int), 2)
def kc_Me_firstWithRoom : List (Nat × Instr × Nat × pm_L) := [
  (0, .iconst 0, 1, ([], .null)), (1, .istore_n 2, 1, ([], .null)), (2, .iload_n 2, 1, ([], .null)), (3, .aload_n 0, 1, ([], .null)), (4, .getfield 20, 3, ([1, 2], .null)), 
  (7, .if_icmp .ge 20, 3, ([27], .null)), (10, .aload_n 0, 1, ([], .null)), (11, .iload_n 2, 1, ([], .null)), (12, .iload_n 1, 1, ([], .null)), 
  (13, .invokevirtual 33, 3, ([102, 3, 0, 2], .null)), (16, .ifCond .eq 5, 3, ([21], .null)), (19, .iload_n 2, 1, ([], .null)), (20, .ireturn, 1, ([], .null)), 
  (21, .iinc 2 1, 3, ([], .null)), (24, .goto (-22), 3, ([2], .null)), (27, .iconst (-1), 1, ([], .null)), (28, .ireturn, 1, ([], .null))
]
def mi_Me_firstWithRoom : pm_I := ((kc_Me_firstWithRoom, []), 3, ⟨"SegmentDesk$Message", "firstWithRoom", "(I)I"⟩, prog_6_method_6_code, (some .int), 1)
def kc_Bu_allocateDouble : List (Nat × Instr × Nat × pm_L) := [
  (0, .aload_n 1, 1, ([], .null)), (1, .iload 6, 2, ([], .null)), (3, .invokevirtual 52, 3, ([104, 2, 0, 2], .null)), (6, .istore 7, 2, ([], .null)), 
  (8, .iload 7, 2, ([], .null)), (10, .ifCond .ge 5, 3, ([15], .null)), (13, .iconst 0, 1, ([], .null)), (14, .ireturn, 1, ([1], .null)), (15, .aload_n 1, 1, ([], .null)), 
  (16, .iload 7, 2, ([], .null)), (18, .iload 6, 2, ([], .null)), (20, .invokevirtual 49, 3, ([103, 3, 0, 2], .null)), (23, .istore 8, 2, ([], .null)), 
  (25, .aload_n 1, 1, ([], .null)), (26, .iconst 2, 1, ([], .null)), (27, .invokevirtual 52, 3, ([104, 2, 0, 2], .null)), (30, .istore 9, 2, ([], .null)), 
  (32, .iload 9, 2, ([], .null)), (34, .ifCond .ge 14, 3, ([48], .null)), (37, .aload_n 1, 1, ([], .null)), (38, .getfield 68, 3, ([1, 1], .null)), (41, .iload 7, 2, ([], .null)), 
  (43, .iload 8, 2, ([], .null)), (45, .iastore, 1, ([], .null)), (46, .iconst 0, 1, ([], .null)), (47, .ireturn, 1, ([1], .null)), (48, .aload_n 1, 1, ([], .null)), 
  (49, .iload 9, 2, ([], .null)), (51, .iconst 2, 1, ([], .null)), (52, .invokevirtual 49, 3, ([103, 3, 0, 2], .null)), (55, .istore 10, 2, ([], .null)), 
  (57, .aload_n 1, 1, ([], .null)), (58, .getfield 15, 3, ([1, 0], .null)), (61, .iload_n 2, 1, ([], .null)), (62, .aaload, 1, ([], .null)), (63, .iload_n 3, 1, ([], .null)), 
  (64, .iconst 1, 1, ([], .null)), (65, .iload 9, 2, ([], .null)), (67, .iload 10, 2, ([], .null)), (69, .invokestatic 64, 3, ([106, 3, 0, 0], .null)), 
  (72, .lastore, 1, ([], .null)), (73, .aload_n 1, 1, ([], .null)), (74, .getfield 15, 3, ([1, 0], .null)), (77, .iload 9, 2, ([], .null)), (79, .aaload, 1, ([], .null)), 
  (80, .iload 10, 2, ([], .null)), (82, .iconst 0, 1, ([], .null)), (83, .iload 7, 2, ([], .null)), (85, .iload 8, 2, ([], .null)), 
  (87, .invokestatic 64, 3, ([106, 3, 0, 0], .null)), (90, .lastore, 1, ([], .null)), (91, .aload_n 1, 1, ([], .null)), (92, .getfield 15, 3, ([1, 0], .null)), 
  (95, .iload 9, 2, ([], .null)), (97, .aaload, 1, ([], .null)), (98, .iload 10, 2, ([], .null)), (100, .iconst 1, 1, ([], .null)), (101, .iadd, 1, ([], .null)), 
  (102, .lload 4, 2, ([], .null)), (104, .lastore, 1, ([], .null)), (105, .aload_n 0, 1, ([], .null)), (106, .iload 7, 2, ([], .null)), (108, .putfield 25, 3, ([3, 0, 0], .null)), 
  (111, .aload_n 0, 1, ([], .null)), (112, .iload 8, 2, ([], .null)), (114, .putfield 31, 3, ([3, 1, 0], .null)), (117, .iconst 1, 1, ([], .null)), (118, .ireturn, 1, ([1], .null))
]
def mi_Bu_allocateDouble : pm_I := ((kc_Bu_allocateDouble, []), 11, ⟨"SegmentDesk$Builder", "allocateDouble", "(LSegmentDesk$Message;IIJI)Z"⟩, prog_2_method_6_code, (some .boolean), 5)
def kc_Po_toFar : List (Nat × Instr × Nat × pm_L) := [
  (0, .iconst 2, 1, ([], .null)), (1, .iload_n 0, 1, ([], .null)), (2, .ifCond .eq 7, 3, ([9], .null)), (5, .iconst 4, 1, ([], .null)), (6, .goto 4, 3, ([10], .null)), 
  (9, .iconst 0, 1, ([], .null)), (10, .ior, 1, ([], .null)), (11, .i2l, 1, ([], .null)), (12, .iload_n 2, 1, ([], .null)), (13, .i2l, 1, ([], .null)), 
  (14, .iconst 3, 1, ([], .null)), (15, .lshl, 1, ([], .null)), (16, .lor, 1, ([], .null)), (17, .iload_n 1, 1, ([], .null)), (18, .i2l, 1, ([], .null)), 
  (19, .bipush 32, 2, ([], .null)), (21, .lshl, 1, ([], .null)), (22, .lor, 1, ([], .null)), (23, .lreturn, 1, ([], .null))
]
def mi_Po_toFar : pm_I := ((kc_Po_toFar, []), 3, ⟨"SegmentDesk$Pointer", "toFar", "(ZII)J"⟩, prog_8_method_14_code, (some .long), 3)
def kc_Bu_newSegment : List (Nat × Instr × Nat × pm_L) := [
  (0, .aload_n 1, 1, ([], .null)), (1, .getfield 72, 3, ([1, 2], .null)), (4, .iconst 4, 1, ([], .null)), (5, .if_icmp .ge 11, 3, ([16], .null)), (8, .iload_n 2, 1, ([], .null)), 
  (9, .aload_n 1, 1, ([], .null)), (10, .getfield 75, 3, ([1, 3], .null)), (13, .if_icmp .le 7, 3, ([20], .null)), (16, .iconst 1, 1, ([], .null)), 
  (17, .goto 4, 3, ([21], .null)), (20, .iconst 0, 1, ([], .null)), (21, .invokestatic 78, 3, ([108, 1, 0, 0], .null)), (24, .aload_n 1, 1, ([], .null)), 
  (25, .dup, 1, ([], .null)), (26, .getfield 72, 3, ([1, 2], .null)), (29, .iconst 1, 1, ([], .null)), (30, .iadd, 1, ([], .null)), (31, .putfield 72, 3, ([1, 2, 0], .null)), 
  (34, .aload_n 1, 1, ([], .null)), (35, .getfield 72, 3, ([1, 2], .null)), (38, .iconst 1, 1, ([], .null)), (39, .isub, 1, ([], .null)), (40, .ireturn, 1, ([], .null))
]
def mi_Bu_newSegment : pm_I := ((kc_Bu_newSegment, []), 3, ⟨"SegmentDesk$Builder", "newSegment", "(LSegmentDesk$Message;I)I"⟩, prog_2_method_7_code, (some .int), 2)
def kc_D_noRoomIf : List (Nat × Instr × Nat × pm_L) := [
  (0, .iload_n 0, 1, ([], .null)), (1, .ifCond .eq 14, 3, ([15], .null)), (4, .new 327, 3, ([3, 1, 6], .null)), (15, .return_, 1, ([], .null))
]
def mi_D_noRoomIf : pm_I := ((kc_D_noRoomIf, []), 1, ⟨"SegmentDesk", "noRoomIf", "(Z)V"⟩, prog_1_method_41_code, none, 1)
def kc_L_list : List (Nat × Instr × Nat × pm_L) := [
  (0, .aload 8, 2, ([], .null)), (2, .iconst 0, 1, ([], .null)), (3, .aload_n 0, 1, ([], .null)), (4, .iload_n 1, 1, ([], .null)), (5, .iload_n 2, 1, ([], .null)), 
  (6, .iload_n 3, 1, ([], .null)), (7, .iload 4, 2, ([], .null)), (9, .iload 5, 2, ([], .null)), (11, .iload 6, 2, ([], .null)), (13, .iload 7, 2, ([], .null)), 
  (15, .invokevirtual 68, 3, ([110, 8, 0, 1], .null)), (18, .i2l, 1, ([], .null)), (19, .lastore, 1, ([], .null)), (20, .goto 15, 3, ([35], .null)), 
  (23, .astore 9, 2, ([], .null)), (25, .iconst 1, 1, ([], .null)), (26, .ireturn, 1, ([], .null)), (27, .astore 9, 2, ([], .null)), (29, .iconst 2, 1, ([], .null)), 
  (30, .ireturn, 1, ([], .null)), (31, .astore 9, 2, ([], .null)), (33, .iconst 3, 1, ([], .null)), (34, .ireturn, 1, ([], .null)), (35, .iconst 0, 1, ([], .null)), 
  (36, .ireturn, 1, ([], .null))
]
def mi_L_list : pm_I := ((kc_L_list, [(0, 20, 25, 1, 9), (0, 20, 29, 4, 9), (0, 20, 33, 3, 9)]), 10, ⟨"SegmentDeskLaw", "list", "(LSegmentDesk;IIIIIII[J)I"⟩, method_16_code, (some .int), 9)
def kc_D_list : List (Nat × Instr × Nat × pm_L) := [
  (0, .iload_n 1, 1, ([], .null)), (1, .invokestatic 96, 3, ([28, 1, 0, 0], .null)), (4, .ifCond .eq 30, 3, ([34], .null)), (7, .iload_n 2, 1, ([], .null)), 
  (8, .invokestatic 199, 3, ([93, 1, 0, 0], .null)), (11, .ifCond .eq 23, 3, ([34], .null)), (14, .iload 4, 2, ([], .null)), (16, .bipush 7, 2, ([], .null)), 
  (18, .invokestatic 65, 3, ([13, 2, 0, 0], .null)), (21, .ifCond .eq 13, 3, ([34], .null)), (24, .iload 5, 2, ([], .null)), (26, .bipush 64, 2, ([], .null)), 
  (28, .invokestatic 65, 3, ([13, 2, 0, 0], .null)), (31, .ifCond .ne 7, 3, ([38], .null)), (34, .iconst 1, 1, ([], .null)), (35, .goto 4, 3, ([39], .null)), 
  (38, .iconst 0, 1, ([], .null)), (39, .invokestatic 61, 3, ([12, 1, 0, 0], .null)), (42, .iload 4, 2, ([], .null)), (44, .bipush 7, 2, ([], .null)), 
  (46, .if_icmp .ne 27, 3, ([73], .null)), (49, .iload 6, 2, ([], .null)), (51, .bipush 8, 2, ([], .null)), (53, .invokestatic 65, 3, ([13, 2, 0, 0], .null)), 
  (56, .ifCond .eq 13, 3, ([69], .null)), (59, .iload 7, 2, ([], .null)), (61, .bipush 8, 2, ([], .null)), (63, .invokestatic 65, 3, ([13, 2, 0, 0], .null)), 
  (66, .ifCond .ne 7, 3, ([73], .null)), (69, .iconst 1, 1, ([], .null)), (70, .goto 4, 3, ([74], .null)), (73, .iconst 0, 1, ([], .null)), 
  (74, .invokestatic 61, 3, ([12, 1, 0, 0], .null)), (77, .aload_n 0, 1, ([], .null)), (78, .getfield 12, 3, ([0, 0], .null)), (81, .invokevirtual 202, 3, ([94, 1, 0, 2], .null)), 
  (84, .ifCond .ne 7, 3, ([91], .null)), (87, .iconst 1, 1, ([], .null)), (88, .goto 4, 3, ([92], .null)), (91, .iconst 0, 1, ([], .null)), 
  (92, .invokestatic 61, 3, ([12, 1, 0, 0], .null)), (95, .aload_n 0, 1, ([], .null)), (96, .iload_n 2, 1, ([], .null)), (97, .iload_n 3, 1, ([], .null)), 
  (98, .invokevirtual 205, 3, ([95, 3, 0, 1], .null)), (101, .iload 4, 2, ([], .null)), (103, .bipush 7, 2, ([], .null)), (105, .if_icmp .ne 65, 3, ([170], .null)), 
  (108, .aload_n 0, 1, ([], .null)), (109, .getfield 26, 3, ([0, 2], .null)), (112, .aload_n 0, 1, ([], .null)), (113, .getfield 12, 3, ([0, 0], .null)), 
  (116, .aload_n 0, 1, ([], .null)), (117, .iload_n 2, 1, ([], .null)), (118, .invokevirtual 209, 3, ([96, 2, 0, 1], .null)), (121, .aload_n 0, 1, ([], .null)), 
  (122, .iload_n 2, 1, ([], .null)), (123, .iload_n 3, 1, ([], .null)), (124, .invokevirtual 212, 3, ([97, 3, 0, 1], .null)), (127, .iload 5, 2, ([], .null)), 
  (129, .iload 6, 2, ([], .null)), (131, .iload 7, 2, ([], .null)), (133, .invokevirtual 225, 3, ([111, 7, 0, 4], .null)), (136, .aload_n 0, 1, ([], .null)), 
  (137, .getfield 46, 3, ([0, 5], .null)), (140, .iload_n 1, 1, ([], .null)), (141, .aaload, 1, ([], .null)), (142, .aload_n 0, 1, ([], .null)), 
  (143, .getfield 26, 3, ([0, 2], .null)), (146, .getfield 219, 3, ([3, 0], .null)), (149, .aload_n 0, 1, ([], .null)), (150, .getfield 26, 3, ([0, 2], .null)), 
  (153, .getfield 220, 3, ([3, 1], .null)), (156, .bipush 64, 2, ([], .null)), (158, .iload 5, 2, ([], .null)), (160, .iload 6, 2, ([], .null)), (162, .iload 7, 2, ([], .null)), 
  (164, .invokevirtual 229, 3, ([49, 7, 0, 8], .null)), (167, .goto 58, 3, ([225], .null)), (170, .aload_n 0, 1, ([], .null)), (171, .getfield 26, 3, ([0, 2], .null)), 
  (174, .aload_n 0, 1, ([], .null)), (175, .getfield 12, 3, ([0, 0], .null)), (178, .aload_n 0, 1, ([], .null)), (179, .iload_n 2, 1, ([], .null)), 
  (180, .invokevirtual 209, 3, ([96, 2, 0, 1], .null)), (183, .aload_n 0, 1, ([], .null)), (184, .iload_n 2, 1, ([], .null)), (185, .iload_n 3, 1, ([], .null)), 
  (186, .invokevirtual 212, 3, ([97, 3, 0, 1], .null)), (189, .iload 4, 2, ([], .null)), (191, .iload 5, 2, ([], .null)), (193, .invokevirtual 233, 3, ([113, 6, 0, 4], .null)), 
  (196, .aload_n 0, 1, ([], .null)), (197, .getfield 46, 3, ([0, 5], .null)), (200, .iload_n 1, 1, ([], .null)), (201, .aaload, 1, ([], .null)), (202, .aload_n 0, 1, ([], .null)), 
  (203, .getfield 26, 3, ([0, 2], .null)), (206, .getfield 219, 3, ([3, 0], .null)), (209, .aload_n 0, 1, ([], .null)), (210, .getfield 26, 3, ([0, 2], .null)), 
  (213, .getfield 220, 3, ([3, 1], .null)), (216, .bipush 64, 2, ([], .null)), (218, .iload 4, 2, ([], .null)), (220, .iload 5, 2, ([], .null)), 
  (222, .invokevirtual 236, 3, ([52, 6, 0, 8], .null)), (225, .iconst 2, 1, ([], .null)), (226, .ireturn, 1, ([], .null))
]
def mi_D_list : pm_I := ((kc_D_list, []), 8, ⟨"SegmentDesk", "list", "(IIIIIII)I"⟩, prog_1_method_15_code, (some .int), 7)
def kc_Bu_addStructs : List (Nat × Instr × Nat × pm_L) := [
  (0, .iload 4, 2, ([], .null)), (2, .iload 5, 2, ([], .null)), (4, .iload 6, 2, ([], .null)), (6, .iadd, 1, ([], .null)), (7, .imul, 1, ([], .null)), 
  (8, .istore 7, 2, ([], .null)), (10, .aload_n 0, 1, ([], .null)), (11, .aload_n 1, 1, ([], .null)), (12, .iload_n 2, 1, ([], .null)), (13, .iload_n 3, 1, ([], .null)), 
  (14, .bipush 7, 2, ([], .null)), (16, .iload 7, 2, ([], .null)), (18, .invokestatic 38, 3, ([112, 2, 0, 0], .null)), (21, .iload 7, 2, ([], .null)), 
  (23, .iconst 1, 1, ([], .null)), (24, .iadd, 1, ([], .null)), (25, .invokevirtual 34, 3, ([101, 6, 0, 4], .null)), (28, .aload_n 1, 1, ([], .null)), 
  (29, .getfield 15, 3, ([1, 0], .null)), (32, .aload_n 0, 1, ([], .null)), (33, .getfield 25, 3, ([3, 0], .null)), (36, .aaload, 1, ([], .null)), 
  (37, .aload_n 0, 1, ([], .null)), (38, .getfield 31, 3, ([3, 1], .null)), (41, .iload 5, 2, ([], .null)), (43, .iload 6, 2, ([], .null)), 
  (45, .invokestatic 9, 3, ([99, 2, 0, 0], .null)), (48, .iload 4, 2, ([], .null)), (50, .invokestatic 21, 3, ([100, 2, 0, 0], .null)), (53, .lastore, 1, ([], .null)), 
  (54, .return_, 1, ([], .null))
]
def mi_Bu_addStructs : pm_I := ((kc_Bu_addStructs, []), 8, ⟨"SegmentDesk$Builder", "addStructs", "(LSegmentDesk$Message;IIIII)V"⟩, prog_2_method_4_code, none, 6)
def kc_Po_toList : List (Nat × Instr × Nat × pm_L) := [
  (0, .lconst 1, 1, ([], .null)), (1, .iload_n 0, 1, ([], .null)), (2, .i2l, 1, ([], .null)), (3, .bipush 32, 2, ([], .null)), (5, .lshl, 1, ([], .null)), 
  (6, .lor, 1, ([], .null)), (7, .iload_n 1, 1, ([], .null)), (8, .i2l, 1, ([], .null)), (9, .bipush 35, 2, ([], .null)), (11, .lshl, 1, ([], .null)), (12, .lor, 1, ([], .null)), 
  (13, .lreturn, 1, ([], .null))
]
def mi_Po_toList : pm_I := ((kc_Po_toList, []), 2, ⟨"SegmentDesk$Pointer", "toList", "(II)J"⟩, prog_8_method_13_code, (some .long), 2)
def kc_Bu_addList : List (Nat × Instr × Nat × pm_L) := [
  (0, .aload_n 0, 1, ([], .null)), (1, .aload_n 1, 1, ([], .null)), (2, .iload_n 2, 1, ([], .null)), (3, .iload_n 3, 1, ([], .null)), (4, .iload 4, 2, ([], .null)), 
  (6, .iload 5, 2, ([], .null)), (8, .invokestatic 38, 3, ([112, 2, 0, 0], .null)), (11, .iload 4, 2, ([], .null)), (13, .iload 5, 2, ([], .null)), 
  (15, .invokestatic 41, 3, ([51, 2, 0, 0], .null)), (18, .invokevirtual 34, 3, ([101, 6, 0, 4], .null)), (21, .return_, 1, ([], .null))
]
def mi_Bu_addList : pm_I := ((kc_Bu_addList, []), 6, ⟨"SegmentDesk$Builder", "addList", "(LSegmentDesk$Message;IIII)V"⟩, prog_2_method_3_code, none, 5)
def kc_L_put : List (Nat × Instr × Nat × pm_L) := [
  (0, .aload_n 0, 1, ([], .null)), (1, .iload_n 1, 1, ([], .null)), (2, .iload_n 2, 1, ([], .null)), (3, .iload_n 3, 1, ([], .null)), (4, .lload 4, 2, ([], .null)), 
  (6, .invokevirtual 72, 3, ([115, 5, 0, 1], .null)), (9, .goto 11, 3, ([20], .null)), (12, .astore 6, 2, ([], .null)), (14, .iconst 1, 1, ([], .null)), 
  (15, .ireturn, 1, ([], .null)), (16, .astore 6, 2, ([], .null)), (18, .iconst 2, 1, ([], .null)), (19, .ireturn, 1, ([], .null)), (20, .iconst 0, 1, ([], .null)), 
  (21, .ireturn, 1, ([], .null))
]
def mi_L_put : pm_I := ((kc_L_put, [(0, 9, 14, 1, 6), (0, 9, 18, 4, 6)]), 7, ⟨"SegmentDeskLaw", "put", "(LSegmentDesk;IIIJ)I"⟩, method_17_code, (some .int), 5)
def kc_D_put : List (Nat × Instr × Nat × pm_L) := [
  (0, .iload_n 1, 1, ([], .null)), (1, .invokestatic 96, 3, ([28, 1, 0, 0], .null)), (4, .ifCond .eq 24, 3, ([28], .null)), (7, .iload_n 2, 1, ([], .null)), 
  (8, .invokestatic 144, 3, ([66, 1, 0, 0], .null)), (11, .ifCond .eq 17, 3, ([28], .null)), (14, .iload_n 3, 1, ([], .null)), (15, .ifCond .lt 13, 3, ([28], .null)), 
  (18, .aload_n 0, 1, ([], .null)), (19, .getfield 12, 3, ([0, 0], .null)), (22, .invokevirtual 202, 3, ([94, 1, 0, 2], .null)), (25, .ifCond .ne 7, 3, ([32], .null)), 
  (28, .iconst 1, 1, ([], .null)), (29, .goto 4, 3, ([33], .null)), (32, .iconst 0, 1, ([], .null)), (33, .invokestatic 61, 3, ([12, 1, 0, 0], .null)), 
  (36, .aload_n 0, 1, ([], .null)), (37, .getfield 46, 3, ([0, 5], .null)), (40, .iload_n 1, 1, ([], .null)), (41, .aaload, 1, ([], .null)), (42, .astore 6, 2, ([], .null)), 
  (44, .aload 6, 2, ([], .null)), (46, .getfield 107, 3, ([7, 0], .null)), (49, .iconst 1, 1, ([], .null)), (50, .if_icmp .eq 16, 3, ([66], .null)), 
  (53, .aload 6, 2, ([], .null)), (55, .iload_n 2, 1, ([], .null)), (56, .invokevirtual 239, 3, ([116, 2, 0, 8], .null)), (59, .ifCond .ne 7, 3, ([66], .null)), 
  (62, .iconst 1, 1, ([], .null)), (63, .goto 4, 3, ([67], .null)), (66, .iconst 0, 1, ([], .null)), (67, .invokestatic 117, 3, ([56, 1, 0, 0], .null)), 
  (70, .aload 6, 2, ([], .null)), (72, .iload_n 2, 1, ([], .null)), (73, .iload_n 3, 1, ([], .null)), (74, .invokevirtual 242, 3, ([68, 3, 0, 8], .null)), 
  (77, .ifCond .ne 7, 3, ([84], .null)), (80, .iconst 1, 1, ([], .null)), (81, .goto 4, 3, ([85], .null)), (84, .iconst 0, 1, ([], .null)), 
  (85, .invokestatic 61, 3, ([12, 1, 0, 0], .null)), (88, .aload_n 0, 1, ([], .null)), (89, .getfield 12, 3, ([0, 0], .null)), (92, .aload 6, 2, ([], .null)), 
  (94, .getfield 124, 3, ([7, 2], .null)), (97, .aload 6, 2, ([], .null)), (99, .iload_n 2, 1, ([], .null)), (100, .iload_n 3, 1, ([], .null)), 
  (101, .invokevirtual 175, 3, ([69, 3, 0, 8], .null)), (104, .iload_n 2, 1, ([], .null)), (105, .lload 4, 2, ([], .null)), (107, .invokevirtual 245, 3, ([117, 5, 0, 2], .null)), 
  (110, .return_, 1, ([], .null))
]
def mi_D_put : pm_I := ((kc_D_put, []), 7, ⟨"SegmentDesk", "put", "(IIIJ)V"⟩, prog_1_method_16_code, none, 4)
def kc_Sp_isListOfPieces : List (Nat × Instr × Nat × pm_L) := [
  (0, .aload_n 0, 1, ([], .null)), (1, .getfield 49, 3, ([7, 0], .null)), (4, .iconst 2, 1, ([], .null)), (5, .if_icmp .ne 35, 3, ([40], .null)), (8, .aload_n 0, 1, ([], .null)), 
  (9, .getfield 22, 3, ([7, 8], .null)), (12, .iconst 1, 1, ([], .null)), (13, .if_icmp .lt 27, 3, ([40], .null)), (16, .aload_n 0, 1, ([], .null)), 
  (17, .getfield 22, 3, ([7, 8], .null)), (20, .iconst 5, 1, ([], .null)), (21, .if_icmp .gt 19, 3, ([40], .null)), (24, .getstatic 28, 3, ([], .retAddr 1)), 
  (27, .aload_n 0, 1, ([], .null)), (28, .getfield 22, 3, ([7, 8], .null)), (31, .iaload, 1, ([], .null)), (32, .iload_n 1, 1, ([], .null)), 
  (33, .if_icmp .ne 7, 3, ([40], .null)), (36, .iconst 1, 1, ([], .null)), (37, .goto 4, 3, ([41], .null)), (40, .iconst 0, 1, ([], .null)), (41, .ireturn, 1, ([1], .null))
]
def mi_Sp_isListOfPieces : pm_I := ((kc_Sp_isListOfPieces, []), 2, ⟨"SegmentDesk$Spot", "isListOfPieces", "(I)Z"⟩, prog_11_method_13_code, (some .boolean), 1)
def kc_Me_setPiece : List (Nat × Instr × Nat × pm_L) := [
  (0, .iload_n 3, 1, ([], .null)), (1, .invokestatic 37, 3, ([71, 1, 0, 0], .null)), (4, .iload_n 2, 1, ([], .null)), (5, .bipush 64, 2, ([], .null)), (7, .irem, 1, ([], .null)), 
  (8, .lshl, 1, ([], .null)), (9, .lstore 6, 2, ([], .null)), (11, .aload_n 0, 1, ([], .null)), (12, .getfield 11, 3, ([1, 0], .null)), (15, .iload_n 1, 1, ([], .null)), 
  (16, .aaload, 1, ([], .null)), (17, .iload_n 2, 1, ([], .null)), (18, .bipush 64, 2, ([], .null)), (20, .idiv, 1, ([], .null)), (21, .aload_n 0, 1, ([], .null)), 
  (22, .getfield 11, 3, ([1, 0], .null)), (25, .iload_n 1, 1, ([], .null)), (26, .aaload, 1, ([], .null)), (27, .iload_n 2, 1, ([], .null)), (28, .bipush 64, 2, ([], .null)), 
  (30, .idiv, 1, ([], .null)), (31, .laload, 1, ([], .null)), (32, .lload 6, 2, ([], .null)), (34, .ldc2_w 41, 3, ([], .long (-1))), (37, .lxor, 1, ([], .null)), 
  (38, .land, 1, ([], .null)), (39, .lload 4, 2, ([], .null)), (41, .iload_n 2, 1, ([], .null)), (42, .bipush 64, 2, ([], .null)), (44, .irem, 1, ([], .null)), 
  (45, .lshl, 1, ([], .null)), (46, .lload 6, 2, ([], .null)), (48, .land, 1, ([], .null)), (49, .lor, 1, ([], .null)), (50, .lastore, 1, ([], .null)), 
  (51, .return_, 1, ([], .null))
]
def mi_Me_setPiece : pm_I := ((kc_Me_setPiece, []), 8, ⟨"SegmentDesk$Message", "setPiece", "(IIIJ)V"⟩, prog_6_method_9_code, none, 4)
def kc_L_putReal : List (Nat × Instr × Nat × pm_L) := [
  (0, .aload_n 0, 1, ([], .null)), (1, .iload_n 1, 1, ([], .null)), (2, .iload_n 2, 1, ([], .null)), (3, .iload_n 3, 1, ([], .null)), (4, .dload 4, 2, ([], .null)), 
  (6, .invokevirtual 76, 3, ([119, 5, 0, 1], .null)), (9, .goto 15, 3, ([24], .null)), (12, .astore 6, 2, ([], .null)), (14, .iconst 1, 1, ([], .null)), 
  (15, .ireturn, 1, ([], .null)), (16, .astore 6, 2, ([], .null)), (18, .iconst 2, 1, ([], .null)), (19, .ireturn, 1, ([], .null)), (20, .astore 6, 2, ([], .null)), 
  (22, .iconst 3, 1, ([], .null)), (23, .ireturn, 1, ([], .null)), (24, .iconst 0, 1, ([], .null)), (25, .ireturn, 1, ([], .null))
]
def mi_L_putReal : pm_I := ((kc_L_putReal, [(0, 9, 14, 1, 6), (0, 9, 18, 4, 6), (0, 9, 22, 5, 6)]), 7, ⟨"SegmentDeskLaw", "putReal", "(LSegmentDesk;IZID)I"⟩, method_18_code, (some .int), 5)
def kc_D_putReal : List (Nat × Instr × Nat × pm_L) := [
  (0, .iload_n 2, 1, ([], .null)), (1, .ifCond .eq 8, 3, ([9], .null)), (4, .bipush 64, 2, ([], .null)), (6, .goto 5, 3, ([11], .null)), (9, .bipush 32, 2, ([], .null)), 
  (11, .istore 6, 2, ([], .null)), (13, .iload_n 1, 1, ([], .null)), (14, .invokestatic 96, 3, ([28, 1, 0, 0], .null)), (17, .ifCond .eq 17, 3, ([34], .null)), 
  (20, .iload_n 3, 1, ([], .null)), (21, .ifCond .lt 13, 3, ([34], .null)), (24, .aload_n 0, 1, ([], .null)), (25, .getfield 12, 3, ([0, 0], .null)), 
  (28, .invokevirtual 202, 3, ([94, 1, 0, 2], .null)), (31, .ifCond .ne 7, 3, ([38], .null)), (34, .iconst 1, 1, ([], .null)), (35, .goto 4, 3, ([39], .null)), 
  (38, .iconst 0, 1, ([], .null)), (39, .invokestatic 61, 3, ([12, 1, 0, 0], .null)), (42, .aload_n 0, 1, ([], .null)), (43, .getfield 46, 3, ([0, 5], .null)), 
  (46, .iload_n 1, 1, ([], .null)), (47, .aaload, 1, ([], .null)), (48, .astore 7, 2, ([], .null)), (50, .aload 7, 2, ([], .null)), (52, .getfield 107, 3, ([7, 0], .null)), 
  (55, .iconst 1, 1, ([], .null)), (56, .if_icmp .eq 7, 3, ([63], .null)), (59, .iconst 1, 1, ([], .null)), (60, .goto 4, 3, ([64], .null)), (63, .iconst 0, 1, ([], .null)), 
  (64, .invokestatic 117, 3, ([56, 1, 0, 0], .null)), (67, .aload 7, 2, ([], .null)), (69, .iload 6, 2, ([], .null)), (71, .iload_n 3, 1, ([], .null)), 
  (72, .invokevirtual 242, 3, ([68, 3, 0, 8], .null)), (75, .ifCond .ne 7, 3, ([82], .null)), (78, .iconst 1, 1, ([], .null)), (79, .goto 4, 3, ([83], .null)), 
  (82, .iconst 0, 1, ([], .null)), (83, .invokestatic 61, 3, ([12, 1, 0, 0], .null)), (86, .dload 4, 2, ([], .null)), (88, .iload_n 2, 1, ([], .null)), 
  (89, .invokestatic 249, 3, ([120, 2, 0, 0], .null)), (92, .ifCond .ne 7, 3, ([99], .null)), (95, .iconst 1, 1, ([], .null)), (96, .goto 4, 3, ([100], .null)), 
  (99, .iconst 0, 1, ([], .null)), (100, .invokestatic 165, 3, ([79, 1, 0, 0], .null)), (103, .aload_n 0, 1, ([], .null)), (104, .getfield 12, 3, ([0, 0], .null)), 
  (107, .aload 7, 2, ([], .null)), (109, .getfield 124, 3, ([7, 2], .null)), (112, .aload 7, 2, ([], .null)), (114, .iload 6, 2, ([], .null)), (116, .iload_n 3, 1, ([], .null)), 
  (117, .invokevirtual 175, 3, ([69, 3, 0, 8], .null)), (120, .iload 6, 2, ([], .null)), (122, .dload 4, 2, ([], .null)), (124, .iload_n 2, 1, ([], .null)), 
  (125, .invokestatic 253, 3, ([121, 2, 0, 0], .null)), (128, .invokevirtual 245, 3, ([117, 5, 0, 2], .null)), (131, .return_, 1, ([], .null))
]
def mi_D_putReal : pm_I := ((kc_D_putReal, []), 8, ⟨"SegmentDesk", "putReal", "(IZID)V"⟩, prog_1_method_17_code, none, 4)
def kc_Ra_canHold : List (Nat × Instr × Nat × pm_L) := [
  (0, .ldc2_w 47, 3, ([], .double 9218868437227405311)), (3, .dstore_n 3, 1, ([], .null)), (4, .dload_n 0, 1, ([], .null)), (5, .dload_n 3, 1, ([], .null)), 
  (6, .dneg, 1, ([], .null)), (7, .dcmp .l, 1, ([], .null)), (8, .ifCond .lt 9, 3, ([17], .null)), (11, .dload_n 0, 1, ([], .null)), (12, .dload_n 3, 1, ([], .null)), 
  (13, .dcmp .g, 1, ([], .null)), (14, .ifCond .le 5, 3, ([19], .null)), (17, .iconst 0, 1, ([], .null)), (18, .ireturn, 1, ([1], .null)), 
  (19, .ldc2_w 49, 3, ([], .double 5183643170566569984)), (22, .dstore 5, 2, ([], .null)), (24, .dload_n 0, 1, ([], .null)), (25, .d2f, 1, ([], .null)), 
  (26, .f2d, 1, ([], .null)), (27, .dstore 7, 2, ([], .null)), (29, .iload_n 2, 1, ([], .null)), (30, .ifCond .ne 20, 3, ([50], .null)), (33, .dload 7, 2, ([], .null)), 
  (35, .dload 5, 2, ([], .null)), (37, .dneg, 1, ([], .null)), (38, .dcmp .l, 1, ([], .null)), (39, .ifCond .lt 15, 3, ([54], .null)), (42, .dload 7, 2, ([], .null)), 
  (44, .dload 5, 2, ([], .null)), (46, .dcmp .g, 1, ([], .null)), (47, .ifCond .gt 7, 3, ([54], .null)), (50, .iconst 1, 1, ([], .null)), (51, .goto 4, 3, ([55], .null)), 
  (54, .iconst 0, 1, ([], .null)), (55, .ireturn, 1, ([1], .null))
]
def mi_Ra_canHold : pm_I := ((kc_Ra_canHold, []), 9, ⟨"SegmentDesk$Reals", "canHold", "(DZ)Z"⟩, prog_10_method_9_code, (some .boolean), 2)
def kc_Ra_toBits : List (Nat × Instr × Nat × pm_L) := [
  (0, .iload_n 2, 1, ([], .null)), (1, .ifCond .eq 7, 3, ([8], .null)), (4, .dload_n 0, 1, ([], .null)), (5, .goto 6, 3, ([11], .null)), (8, .dload_n 0, 1, ([], .null)), 
  (9, .d2f, 1, ([], .null)), (10, .f2d, 1, ([], .null)), (11, .dstore_n 3, 1, ([], .null)), (12, .dload_n 3, 1, ([], .null)), (13, .dconst 0, 1, ([], .null)), 
  (14, .dcmp .g, 1, ([], .null)), (15, .ifCond .lt 17, 3, ([32], .null)), (18, .dload_n 3, 1, ([], .null)), (19, .dconst 0, 1, ([], .null)), (20, .dcmp .l, 1, ([], .null)), 
  (21, .ifCond .ne 15, 3, ([36], .null)), (24, .dconst 1, 1, ([], .null)), (25, .dload_n 3, 1, ([], .null)), (26, .ddiv, 1, ([], .null)), (27, .dconst 0, 1, ([], .null)), 
  (28, .dcmp .g, 1, ([], .null)), (29, .ifCond .ge 7, 3, ([36], .null)), (32, .iconst 1, 1, ([], .null)), (33, .goto 4, 3, ([37], .null)), (36, .iconst 0, 1, ([], .null)), 
  (37, .istore 5, 2, ([], .null)), (39, .iload 5, 2, ([], .null)), (41, .ifCond .eq 19, 3, ([60], .null)), (44, .lconst 1, 1, ([], .null)), (45, .iload_n 2, 1, ([], .null)), 
  (46, .ifCond .eq 8, 3, ([54], .null)), (49, .bipush 63, 2, ([], .null)), (51, .goto 5, 3, ([56], .null)), (54, .bipush 31, 2, ([], .null)), (56, .lshl, 1, ([], .null)), 
  (57, .goto 4, 3, ([61], .null)), (60, .lconst 0, 1, ([], .null)), (61, .lstore 6, 2, ([], .null)), (63, .lload 6, 2, ([], .null)), (65, .dload_n 3, 1, ([], .null)), 
  (66, .dconst 0, 1, ([], .null)), (67, .dcmp .g, 1, ([], .null)), (68, .ifCond .ge 8, 3, ([76], .null)), (71, .dload_n 3, 1, ([], .null)), (72, .dneg, 1, ([], .null)), 
  (73, .goto 4, 3, ([77], .null)), (76, .dload_n 3, 1, ([], .null)), (77, .iload_n 2, 1, ([], .null)), (78, .invokestatic 51, 3, ([122, 2, 0, 0], .null)), 
  (81, .lor, 1, ([], .null)), (82, .lreturn, 1, ([], .null))
]
def mi_Ra_toBits : pm_I := ((kc_Ra_toBits, []), 8, ⟨"SegmentDesk$Reals", "toBits", "(DZ)J"⟩, prog_10_method_10_code, (some .long), 2)
def kc_Ra_sizeBits : List (Nat × Instr × Nat × pm_L) := [
  (0, .dload_n 0, 1, ([], .null)), (1, .dconst 0, 1, ([], .null)), (2, .dcmp .l, 1, ([], .null)), (3, .ifCond .ne 5, 3, ([8], .null)), (6, .lconst 0, 1, ([], .null)), 
  (7, .lreturn, 1, ([], .null)), (8, .iload_n 2, 1, ([], .null)), (9, .invokestatic 7, 3, ([77, 1, 0, 0], .null)), (12, .istore_n 3, 1, ([], .null)), 
  (13, .lconst 1, 1, ([], .null)), (14, .iload_n 3, 1, ([], .null)), (15, .lshl, 1, ([], .null)), (16, .l2d, 1, ([], .null)), (17, .dstore 4, 2, ([], .null)), 
  (19, .dload_n 0, 1, ([], .null)), (20, .dstore 6, 2, ([], .null)), (22, .iconst 0, 1, ([], .null)), (23, .istore 8, 2, ([], .null)), (25, .iconst 0, 1, ([], .null)), 
  (26, .istore 9, 2, ([], .null)), (28, .iload 9, 2, ([], .null)), (30, .bipush 40, 2, ([], .null)), (32, .if_icmp .ge 32, 3, ([64], .null)), (35, .dload 6, 2, ([], .null)), 
  (37, .dload 4, 2, ([], .null)), (39, .ldc2_w 43, 3, ([], .double 4751297606875873280)), (42, .dmul, 1, ([], .null)), (43, .dcmp .l, 1, ([], .null)), 
  (44, .ifCond .lt 20, 3, ([64], .null)), (47, .dload 6, 2, ([], .null)), (49, .ldc2_w 43, 3, ([], .double 4751297606875873280)), (52, .ddiv, 1, ([], .null)), 
  (53, .dstore 6, 2, ([], .null)), (55, .iinc 8 32, 3, ([], .null)), (58, .iinc 9 1, 3, ([], .null)), (61, .goto (-33), 3, ([28], .null)), (64, .iconst 0, 1, ([], .null)), 
  (65, .istore 9, 2, ([], .null)), (67, .iload 9, 2, ([], .null)), (69, .bipush 40, 2, ([], .null)), (71, .if_icmp .ge 32, 3, ([103], .null)), (74, .dload 6, 2, ([], .null)), 
  (76, .dload 4, 2, ([], .null)), (78, .ldc2_w 43, 3, ([], .double 4751297606875873280)), (81, .ddiv, 1, ([], .null)), (82, .dcmp .g, 1, ([], .null)), 
  (83, .ifCond .ge 20, 3, ([103], .null)), (86, .dload 6, 2, ([], .null)), (88, .ldc2_w 43, 3, ([], .double 4751297606875873280)), (91, .dmul, 1, ([], .null)), 
  (92, .dstore 6, 2, ([], .null)), (94, .iinc 8 (-32), 3, ([], .null)), (97, .iinc 9 1, 3, ([], .null)), (100, .goto (-33), 3, ([67], .null)), (103, .iconst 0, 1, ([], .null)), 
  (104, .istore 9, 2, ([], .null)), (106, .iload 9, 2, ([], .null)), (108, .bipush 33, 2, ([], .null)), (110, .if_icmp .ge 32, 3, ([142], .null)), (113, .dload 6, 2, ([], .null)), 
  (115, .dload 4, 2, ([], .null)), (117, .ldc2_w 45, 3, ([], .double 4611686018427387904)), (120, .dmul, 1, ([], .null)), (121, .dcmp .l, 1, ([], .null)), 
  (122, .ifCond .lt 20, 3, ([142], .null)), (125, .dload 6, 2, ([], .null)), (127, .ldc2_w 45, 3, ([], .double 4611686018427387904)), (130, .ddiv, 1, ([], .null)), 
  (131, .dstore 6, 2, ([], .null)), (133, .iinc 8 1, 3, ([], .null)), (136, .iinc 9 1, 3, ([], .null)), (139, .goto (-33), 3, ([106], .null)), (142, .iconst 0, 1, ([], .null)), 
  (143, .istore 9, 2, ([], .null)), (145, .iload 9, 2, ([], .null)), (147, .bipush 33, 2, ([], .null)), (149, .if_icmp .ge 28, 3, ([177], .null)), (152, .dload 6, 2, ([], .null)), 
  (154, .dload 4, 2, ([], .null)), (156, .dcmp .g, 1, ([], .null)), (157, .ifCond .ge 20, 3, ([177], .null)), (160, .dload 6, 2, ([], .null)), 
  (162, .ldc2_w 45, 3, ([], .double 4611686018427387904)), (165, .dmul, 1, ([], .null)), (166, .dstore 6, 2, ([], .null)), (168, .iinc 8 (-1), 3, ([], .null)), 
  (171, .iinc 9 1, 3, ([], .null)), (174, .goto (-29), 3, ([145], .null)), (177, .dload 6, 2, ([], .null)), (179, .d2l, 1, ([], .null)), (180, .iload 8, 2, ([], .null)), 
  (182, .iload_n 3, 1, ([], .null)), (183, .iadd, 1, ([], .null)), (184, .iload_n 2, 1, ([], .null)), (185, .invokestatic 32, 3, ([82, 1, 0, 0], .null)), 
  (188, .iadd, 1, ([], .null)), (189, .iload_n 3, 1, ([], .null)), (190, .invokestatic 55, 3, ([123, 3, 0, 0], .null)), (193, .lreturn, 1, ([], .null))
]
def mi_Ra_sizeBits : pm_I := ((kc_Ra_sizeBits, []), 10, ⟨"SegmentDesk$Reals", "sizeBits", "(DZ)J"⟩, prog_10_method_11_code, (some .long), 2)
def kc_Ra_joined : List (Nat × Instr × Nat × pm_L) := [
  (0, .iload_n 2, 1, ([], .null)), (1, .iconst 1, 1, ([], .null)), (2, .if_icmp .lt 15, 3, ([17], .null)), (5, .iload_n 2, 1, ([], .null)), (6, .i2l, 1, ([], .null)), 
  (7, .iload_n 3, 1, ([], .null)), (8, .lshl, 1, ([], .null)), (9, .lload_n 0, 1, ([], .null)), (10, .iload_n 3, 1, ([], .null)), 
  (11, .invokestatic 20, 3, ([71, 1, 0, 0], .null)), (14, .land, 1, ([], .null)), (15, .lor, 1, ([], .null)), (16, .lreturn, 1, ([], .null)), (17, .lload_n 0, 1, ([], .null)), 
  (18, .iconst 1, 1, ([], .null)), (19, .iload_n 2, 1, ([], .null)), (20, .isub, 1, ([], .null)), (21, .lushr, 1, ([], .null)), (22, .lreturn, 1, ([], .null))
]
def mi_Ra_joined : pm_I := ((kc_Ra_joined, []), 4, ⟨"SegmentDesk$Reals", "joined", "(JII)J"⟩, prog_10_method_12_code, (some .long), 3)
def kc_L_pack : List (Nat × Instr × Nat × pm_L) := [
  (0, .aload_n 1, 1, ([], .null)), (1, .iconst 0, 1, ([], .null)), (2, .aload_n 0, 1, ([], .null)), (3, .invokevirtual 80, 3, ([125, 1, 0, 1], .null)), (6, .i2l, 1, ([], .null)), 
  (7, .lastore, 1, ([], .null)), (8, .goto 6, 3, ([14], .null)), (11, .astore_n 2, 1, ([], .null)), (12, .iconst 1, 1, ([], .null)), (13, .ireturn, 1, ([], .null)), 
  (14, .iconst 0, 1, ([], .null)), (15, .ireturn, 1, ([], .null))
]
def mi_L_pack : pm_I := ((kc_L_pack, [(0, 8, 12, 3, 2)]), 3, ⟨"SegmentDeskLaw", "pack", "(LSegmentDesk;[J)I"⟩, method_19_code, (some .int), 2)
def kc_D_pack : List (Nat × Instr × Nat × pm_L) := [
  (0, .aload_n 0, 1, ([], .null)), (1, .getfield 33, 3, ([0, 3], .null)), (4, .aload_n 0, 1, ([], .null)), (5, .getfield 12, 3, ([0, 0], .null)), 
  (8, .invokevirtual 257, 3, ([126, 2, 0, 5], .null)), (11, .aload_n 0, 1, ([], .null)), (12, .getfield 57, 3, ([0, 7], .null)), (15, .iconst 0, 1, ([], .null)), 
  (16, .putfield 261, 3, ([8, 1, 0], .null)), (19, .aload_n 0, 1, ([], .null)), (20, .getfield 33, 3, ([0, 3], .null)), (23, .aload_n 0, 1, ([], .null)), 
  (24, .getfield 57, 3, ([0, 7], .null)), (27, .invokevirtual 262, 3, ([129, 2, 0, 5], .null)), (30, .aload_n 0, 1, ([], .null)), (31, .getfield 57, 3, ([0, 7], .null)), 
  (34, .astore_n 1, 1, ([], .null)), (35, .aload_n 0, 1, ([], .null)), (36, .aload_n 0, 1, ([], .null)), (37, .getfield 53, 3, ([0, 6], .null)), 
  (40, .putfield 57, 3, ([0, 7, 2], .null)), (43, .aload_n 0, 1, ([], .null)), (44, .aload_n 1, 1, ([], .null)), (45, .putfield 53, 3, ([0, 6, 2], .null)), 
  (48, .aload_n 0, 1, ([], .null)), (49, .getfield 53, 3, ([0, 6], .null)), (52, .getfield 261, 3, ([8, 1], .null)), (55, .ireturn, 1, ([], .null))
]
def mi_D_pack : pm_I := ((kc_D_pack, []), 2, ⟨"SegmentDesk", "pack", "()I"⟩, prog_1_method_18_code, (some .int), 0)
def kc_Fr_fill : List (Nat × Instr × Nat × pm_L) := [
  (0, .aload_n 0, 1, ([], .null)), (1, .aload_n 1, 1, ([], .null)), (2, .getfield 15, 3, ([1, 2], .null)), (5, .invokestatic 21, 3, ([127, 1, 0, 0], .null)), 
  (8, .putfield 25, 3, ([4, 1, 0], .null)), (11, .iconst 0, 1, ([], .null)), (12, .istore_n 2, 1, ([], .null)), (13, .iload_n 2, 1, ([], .null)), (14, .aload_n 0, 1, ([], .null)), 
  (15, .getfield 25, 3, ([4, 1], .null)), (18, .if_icmp .ge 35, 3, ([53], .null)), (21, .aload_n 0, 1, ([], .null)), (22, .getfield 9, 3, ([4, 0], .null)), 
  (25, .iload_n 2, 1, ([], .null)), (26, .aload_n 1, 1, ([], .null)), (27, .iconst 2, 1, ([], .null)), (28, .iload_n 2, 1, ([], .null)), (29, .imul, 1, ([], .null)), 
  (30, .invokestatic 28, 3, ([128, 2, 0, 0], .null)), (33, .aload_n 1, 1, ([], .null)), (34, .iconst 2, 1, ([], .null)), (35, .iload_n 2, 1, ([], .null)), 
  (36, .imul, 1, ([], .null)), (37, .iconst 1, 1, ([], .null)), (38, .iadd, 1, ([], .null)), (39, .invokestatic 28, 3, ([128, 2, 0, 0], .null)), (42, .bipush 32, 2, ([], .null)), 
  (44, .lshl, 1, ([], .null)), (45, .lor, 1, ([], .null)), (46, .lastore, 1, ([], .null)), (47, .iinc 2 1, 3, ([], .null)), (50, .goto (-37), 3, ([13], .null)), 
  (53, .iconst 0, 1, ([], .null)), (54, .istore_n 2, 1, ([], .null)), (55, .iload_n 2, 1, ([], .null)), (56, .aload_n 1, 1, ([], .null)), (57, .getfield 15, 3, ([1, 2], .null)), 
  (60, .if_icmp .ge 48, 3, ([108], .null)), (63, .aload_n 1, 1, ([], .null)), (64, .getfield 32, 3, ([1, 0], .null)), (67, .iload_n 2, 1, ([], .null)), 
  (68, .aaload, 1, ([], .null)), (69, .iconst 0, 1, ([], .null)), (70, .aload_n 0, 1, ([], .null)), (71, .getfield 9, 3, ([4, 0], .null)), (74, .aload_n 0, 1, ([], .null)), 
  (75, .getfield 25, 3, ([4, 1], .null)), (78, .aload_n 1, 1, ([], .null)), (79, .getfield 36, 3, ([1, 1], .null)), (82, .iload_n 2, 1, ([], .null)), 
  (83, .iaload, 1, ([], .null)), (84, .invokestatic 40, 3, ([4], .null)), (87, .aload_n 0, 1, ([], .null)), (88, .dup, 1, ([], .null)), (89, .getfield 25, 3, ([4, 1], .null)), 
  (92, .aload_n 1, 1, ([], .null)), (93, .getfield 36, 3, ([1, 1], .null)), (96, .iload_n 2, 1, ([], .null)), (97, .iaload, 1, ([], .null)), (98, .iadd, 1, ([], .null)), 
  (99, .putfield 25, 3, ([4, 1, 0], .null)), (102, .iinc 2 1, 3, ([], .null)), (105, .goto (-50), 3, ([55], .null)), (108, .return_, 1, ([], .null))
]
def mi_Fr_fill : pm_I := ((kc_Fr_fill, []), 3, ⟨"SegmentDesk$Frame", "fill", "(LSegmentDesk$Message;)V"⟩, prog_4_method_2_code, none, 1)
def kc_Fr_headGroups : List (Nat × Instr × Nat × pm_L) := [
  (0, .iload_n 0, 1, ([], .null)), (1, .iconst 2, 1, ([], .null)), (2, .idiv, 1, ([], .null)), (3, .iconst 1, 1, ([], .null)), (4, .iadd, 1, ([], .null)), 
  (5, .ireturn, 1, ([], .null))
]
def mi_Fr_headGroups : pm_I := ((kc_Fr_headGroups, []), 1, ⟨"SegmentDesk$Frame", "headGroups", "(I)I"⟩, prog_4_method_3_code, (some .int), 1)
def kc_Fr_numberInFront : List (Nat × Instr × Nat × pm_L) := [
  (0, .iload_n 1, 1, ([], .null)), (1, .ifCond .ne 11, 3, ([12], .null)), (4, .aload_n 0, 1, ([], .null)), (5, .getfield 15, 3, ([1, 2], .null)), (8, .iconst 1, 1, ([], .null)), 
  (9, .isub, 1, ([], .null)), (10, .i2l, 1, ([], .null)), (11, .lreturn, 1, ([], .null)), (12, .iload_n 1, 1, ([], .null)), (13, .aload_n 0, 1, ([], .null)), 
  (14, .getfield 15, 3, ([1, 2], .null)), (17, .if_icmp .gt 15, 3, ([32], .null)), (20, .aload_n 0, 1, ([], .null)), (21, .getfield 36, 3, ([1, 1], .null)), 
  (24, .iload_n 1, 1, ([], .null)), (25, .iconst 1, 1, ([], .null)), (26, .isub, 1, ([], .null)), (27, .iaload, 1, ([], .null)), (28, .i2l, 1, ([], .null)), 
  (29, .goto 4, 3, ([33], .null)), (32, .lconst 0, 1, ([], .null)), (33, .lreturn, 1, ([], .null))
]
def mi_Fr_numberInFront : pm_I := ((kc_Fr_numberInFront, []), 2, ⟨"SegmentDesk$Frame", "numberInFront", "(LSegmentDesk$Message;I)J"⟩, prog_4_method_4_code, (some .long), 2)
def kc_Fr_packInto : List (Nat × Instr × Nat × pm_L) := [
  (0, .iconst 0, 1, ([], .null)), (1, .istore_n 2, 1, ([], .null)), (2, .iload_n 2, 1, ([], .null)), (3, .aload_n 0, 1, ([], .null)), (4, .getfield 25, 3, ([4, 1], .null)), 
  (7, .if_icmp .ge 115, 3, ([122], .null)), (10, .aload_n 0, 1, ([], .null)), (11, .getfield 9, 3, ([4, 0], .null)), (14, .iload_n 2, 1, ([], .null)), 
  (15, .laload, 1, ([], .null)), (16, .invokestatic 48, 3, ([130, 1, 0, 0], .null)), (19, .istore_n 3, 1, ([], .null)), (20, .aload_n 1, 1, ([], .null)), 
  (21, .iload_n 3, 1, ([], .null)), (22, .invokevirtual 52, 3, ([132, 2, 0, 9], .null)), (25, .aload_n 1, 1, ([], .null)), (26, .aload_n 0, 1, ([], .null)), 
  (27, .getfield 9, 3, ([4, 0], .null)), (30, .iload_n 2, 1, ([], .null)), (31, .laload, 1, ([], .null)), (32, .iload_n 3, 1, ([], .null)), 
  (33, .invokestatic 58, 3, ([133, 3, 0, 0], .null)), (36, .iinc 2 1, 3, ([], .null)), (39, .iload_n 3, 1, ([], .null)), (40, .ifCond .eq 10, 3, ([50], .null)), 
  (43, .iload_n 3, 1, ([], .null)), (44, .sipush 255, 3, ([], .null)), (47, .if_icmp .ne 72, 3, ([119], .null)), (50, .iload_n 3, 1, ([], .null)), 
  (51, .ifCond .ne 11, 3, ([62], .null)), (54, .aload_n 0, 1, ([], .null)), (55, .iload_n 2, 1, ([], .null)), (56, .invokevirtual 62, 3, ([134, 2, 0, 5], .null)), 
  (59, .goto 8, 3, ([67], .null)), (62, .aload_n 0, 1, ([], .null)), (63, .iload_n 2, 1, ([], .null)), (64, .invokevirtual 65, 3, ([135, 2, 0, 5], .null)), 
  (67, .istore 4, 2, ([], .null)), (69, .aload_n 1, 1, ([], .null)), (70, .iload 4, 2, ([], .null)), (72, .invokevirtual 52, 3, ([132, 2, 0, 9], .null)), 
  (75, .iconst 0, 1, ([], .null)), (76, .istore 5, 2, ([], .null)), (78, .iload_n 3, 1, ([], .null)), (79, .sipush 255, 3, ([], .null)), (82, .if_icmp .ne 32, 3, ([114], .null)), 
  (85, .iload 5, 2, ([], .null)), (87, .iload 4, 2, ([], .null)), (89, .if_icmp .ge 25, 3, ([114], .null)), (92, .aload_n 1, 1, ([], .null)), (93, .aload_n 0, 1, ([], .null)), 
  (94, .getfield 9, 3, ([4, 0], .null)), (97, .iload_n 2, 1, ([], .null)), (98, .iload 5, 2, ([], .null)), (100, .iadd, 1, ([], .null)), (101, .laload, 1, ([], .null)), 
  (102, .sipush 255, 3, ([], .null)), (105, .invokestatic 58, 3, ([133, 3, 0, 0], .null)), (108, .iinc 5 1, 3, ([], .null)), (111, .goto (-33), 3, ([78], .null)), 
  (114, .iload_n 2, 1, ([], .null)), (115, .iload 4, 2, ([], .null)), (117, .iadd, 1, ([], .null)), (118, .istore_n 2, 1, ([], .null)), (119, .goto (-117), 3, ([2], .null)), 
  (122, .return_, 1, ([], .null))
]
def mi_Fr_packInto : pm_I := ((kc_Fr_packInto, []), 6, ⟨"SegmentDesk$Frame", "packInto", "(LSegmentDesk$Octets;)V"⟩, prog_4_method_6_code, none, 1)
def kc_Fr_tagOf : List (Nat × Instr × Nat × pm_L) := [
  (0, .iconst 0, 1, ([], .null)), (1, .istore_n 2, 1, ([], .null)), (2, .iconst 0, 1, ([], .null)), (3, .istore_n 3, 1, ([], .null)), (4, .iload_n 3, 1, ([], .null)), 
  (5, .bipush 8, 2, ([], .null)), (7, .if_icmp .ge 23, 3, ([30], .null)), (10, .lload_n 0, 1, ([], .null)), (11, .iload_n 3, 1, ([], .null)), 
  (12, .invokestatic 68, 3, ([131, 2, 0, 0], .null)), (15, .ifCond .eq 9, 3, ([24], .null)), (18, .iload_n 2, 1, ([], .null)), (19, .iconst 1, 1, ([], .null)), 
  (20, .iload_n 3, 1, ([], .null)), (21, .ishl, 1, ([], .null)), (22, .ior, 1, ([], .null)), (23, .istore_n 2, 1, ([], .null)), (24, .iinc 3 1, 3, ([], .null)), 
  (27, .goto (-23), 3, ([4], .null)), (30, .iload_n 2, 1, ([], .null)), (31, .ireturn, 1, ([], .null))
]
def mi_Fr_tagOf : pm_I := ((kc_Fr_tagOf, []), 4, ⟨"SegmentDesk$Frame", "tagOf", "(J)I"⟩, prog_4_method_7_code, (some .int), 1)
def kc_D_octetOf : List (Nat × Instr × Nat × pm_L) := [
  (0, .lload_n 0, 1, ([], .null)), (1, .bipush 8, 2, ([], .null)), (3, .iload_n 2, 1, ([], .null)), (4, .imul, 1, ([], .null)), (5, .lushr, 1, ([], .null)), 
  (6, .l2i, 1, ([], .null)), (7, .sipush 255, 3, ([], .null)), (10, .iand, 1, ([], .null)), (11, .ireturn, 1, ([], .null))
]
def mi_D_octetOf : pm_I := ((kc_D_octetOf, []), 3, ⟨"SegmentDesk", "octetOf", "(JI)I"⟩, prog_1_method_36_code, (some .int), 2)
def kc_Oc_add : List (Nat × Instr × Nat × pm_L) := [
  (0, .aload_n 0, 1, ([], .null)), (1, .getfield 15, 3, ([8, 1], .null)), (4, .sipush 1500, 3, ([], .null)), (7, .if_icmp .lt 7, 3, ([14], .null)), 
  (10, .iconst 1, 1, ([], .null)), (11, .goto 4, 3, ([15], .null)), (14, .iconst 0, 1, ([], .null)), (15, .invokestatic 19, 3, ([108, 1, 0, 0], .null)), 
  (18, .aload_n 0, 1, ([], .null)), (19, .getfield 9, 3, ([8, 0], .null)), (22, .aload_n 0, 1, ([], .null)), (23, .getfield 15, 3, ([8, 1], .null)), 
  (26, .iload_n 1, 1, ([], .null)), (27, .i2b, 1, ([], .null)), (28, .bastore, 1, ([], .null)), (29, .aload_n 0, 1, ([], .null)), (30, .dup, 1, ([], .null)), 
  (31, .getfield 15, 3, ([8, 1], .null)), (34, .iconst 1, 1, ([], .null)), (35, .iadd, 1, ([], .null)), (36, .putfield 15, 3, ([8, 1, 0], .null)), (39, .return_, 1, ([], .null))
]
def mi_Oc_add : pm_I := ((kc_Oc_add, []), 2, ⟨"SegmentDesk$Octets", "add", "(I)V"⟩, prog_7_method_2_code, none, 1)
def kc_Fr_addOctets : List (Nat × Instr × Nat × pm_L) := [
  (0, .iconst 0, 1, ([], .null)), (1, .istore 4, 2, ([], .null)), (3, .iload 4, 2, ([], .null)), (5, .bipush 8, 2, ([], .null)), (7, .if_icmp .ge 28, 3, ([35], .null)), 
  (10, .iload_n 3, 1, ([], .null)), (11, .iload 4, 2, ([], .null)), (13, .ishr, 1, ([], .null)), (14, .iconst 1, 1, ([], .null)), (15, .iand, 1, ([], .null)), 
  (16, .ifCond .eq 13, 3, ([29], .null)), (19, .aload_n 0, 1, ([], .null)), (20, .lload_n 1, 1, ([], .null)), (21, .iload 4, 2, ([], .null)), 
  (23, .invokestatic 68, 3, ([131, 2, 0, 0], .null)), (26, .invokevirtual 52, 3, ([132, 2, 0, 9], .null)), (29, .iinc 4 1, 3, ([], .null)), (32, .goto (-29), 3, ([3], .null)), 
  (35, .return_, 1, ([], .null))
]
def mi_Fr_addOctets : pm_I := ((kc_Fr_addOctets, []), 5, ⟨"SegmentDesk$Frame", "addOctets", "(LSegmentDesk$Octets;JI)V"⟩, prog_4_method_8_code, none, 3)
def kc_Fr_zeroRun : List (Nat × Instr × Nat × pm_L) := [
  (0, .iconst 0, 1, ([], .null)), (1, .istore_n 2, 1, ([], .null)), (2, .iload_n 2, 1, ([], .null)), (3, .sipush 255, 3, ([], .null)), (6, .if_icmp .ge 32, 3, ([38], .null)), 
  (9, .iload_n 1, 1, ([], .null)), (10, .iload_n 2, 1, ([], .null)), (11, .iadd, 1, ([], .null)), (12, .aload_n 0, 1, ([], .null)), (13, .getfield 25, 3, ([4, 1], .null)), 
  (16, .if_icmp .ge 22, 3, ([38], .null)), (19, .aload_n 0, 1, ([], .null)), (20, .getfield 9, 3, ([4, 0], .null)), (23, .iload_n 1, 1, ([], .null)), 
  (24, .iload_n 2, 1, ([], .null)), (25, .iadd, 1, ([], .null)), (26, .laload, 1, ([], .null)), (27, .lconst 0, 1, ([], .null)), (28, .lcmp, 1, ([], .null)), 
  (29, .ifCond .ne 9, 3, ([38], .null)), (32, .iinc 2 1, 3, ([], .null)), (35, .goto (-33), 3, ([2], .null)), (38, .iload_n 2, 1, ([], .null)), (39, .ireturn, 1, ([], .null))
]
def mi_Fr_zeroRun : pm_I := ((kc_Fr_zeroRun, []), 3, ⟨"SegmentDesk$Frame", "zeroRun", "(I)I"⟩, prog_4_method_9_code, (some .int), 1)
def kc_Fr_fullRun : List (Nat × Instr × Nat × pm_L) := [
  (0, .iconst 0, 1, ([], .null)), (1, .istore_n 2, 1, ([], .null)), (2, .iload_n 2, 1, ([], .null)), (3, .sipush 255, 3, ([], .null)), (6, .if_icmp .ge 38, 3, ([44], .null)), 
  (9, .iload_n 1, 1, ([], .null)), (10, .iload_n 2, 1, ([], .null)), (11, .iadd, 1, ([], .null)), (12, .aload_n 0, 1, ([], .null)), (13, .getfield 25, 3, ([4, 1], .null)), 
  (16, .if_icmp .ge 28, 3, ([44], .null)), (19, .aload_n 0, 1, ([], .null)), (20, .getfield 9, 3, ([4, 0], .null)), (23, .iload_n 1, 1, ([], .null)), 
  (24, .iload_n 2, 1, ([], .null)), (25, .iadd, 1, ([], .null)), (26, .laload, 1, ([], .null)), (27, .invokestatic 48, 3, ([130, 1, 0, 0], .null)), 
  (30, .invokestatic 72, 3, ([136, 1, 0, 0], .null)), (33, .bipush 7, 2, ([], .null)), (35, .if_icmp .lt 9, 3, ([44], .null)), (38, .iinc 2 1, 3, ([], .null)), 
  (41, .goto (-39), 3, ([2], .null)), (44, .iload_n 2, 1, ([], .null)), (45, .ireturn, 1, ([], .null))
]
def mi_Fr_fullRun : pm_I := ((kc_Fr_fullRun, []), 3, ⟨"SegmentDesk$Frame", "fullRun", "(I)I"⟩, prog_4_method_10_code, (some .int), 1)
def kc_JI_bitCount : List (Nat × Instr × Nat × pm_L) := [
  (0, .iload_n 0, 1, ([], .null)), (1, .iload_n 0, 1, ([], .null)), (2, .iconst 1, 1, ([], .null)), (3, .iushr, 1, ([], .null)), (4, .ldc_w 265, 3, ([], .int 1431655765)), 
  (7, .iand, 1, ([], .null)), (8, .isub, 1, ([], .null)), (9, .istore_n 0, 1, ([], .null)), (10, .iload_n 0, 1, ([], .null)), (11, .ldc_w 266, 3, ([], .int 858993459)), 
  (14, .iand, 1, ([], .null)), (15, .iload_n 0, 1, ([], .null)), (16, .iconst 2, 1, ([], .null)), (17, .iushr, 1, ([], .null)), (18, .ldc_w 266, 3, ([], .int 858993459)), 
  (21, .iand, 1, ([], .null)), (22, .iadd, 1, ([], .null)), (23, .istore_n 0, 1, ([], .null)), (24, .iload_n 0, 1, ([], .null)), (25, .iload_n 0, 1, ([], .null)), 
  (26, .iconst 4, 1, ([], .null)), (27, .iushr, 1, ([], .null)), (28, .iadd, 1, ([], .null)), (29, .ldc_w 267, 3, ([], .int 252645135)), (32, .iand, 1, ([], .null)), 
  (33, .istore_n 0, 1, ([], .null)), (34, .iload_n 0, 1, ([], .null)), (35, .iload_n 0, 1, ([], .null)), (36, .bipush 8, 2, ([], .null)), (38, .iushr, 1, ([], .null)), 
  (39, .iadd, 1, ([], .null)), (40, .istore_n 0, 1, ([], .null)), (41, .iload_n 0, 1, ([], .null)), (42, .iload_n 0, 1, ([], .null)), (43, .bipush 16, 2, ([], .null)), 
  (45, .iushr, 1, ([], .null)), (46, .iadd, 1, ([], .null)), (47, .istore_n 0, 1, ([], .null)), (48, .iload_n 0, 1, ([], .null)), (49, .bipush 63, 2, ([], .null)), 
  (51, .iand, 1, ([], .null)), (52, .ireturn, 1, ([], .null))
]
def mi_JI_bitCount : pm_I := ((kc_JI_bitCount, []), 1, ⟨"java/lang/Integer", "bitCount", "(I)I"⟩, prog_19_method_49_code, (some .int), 1)
def kc_L_octet : List (Nat × Instr × Nat × pm_L) := [
  (0, .aload_n 2, 1, ([], .null)), (1, .iconst 0, 1, ([], .null)), (2, .aload_n 0, 1, ([], .null)), (3, .iload_n 1, 1, ([], .null)), 
  (4, .invokevirtual 84, 3, ([138, 2, 0, 1], .null)), (7, .i2l, 1, ([], .null)), (8, .lastore, 1, ([], .null)), (9, .goto 6, 3, ([15], .null)), (12, .astore_n 3, 1, ([], .null)), 
  (13, .iconst 1, 1, ([], .null)), (14, .ireturn, 1, ([], .null)), (15, .iconst 0, 1, ([], .null)), (16, .ireturn, 1, ([], .null))
]
def mi_L_octet : pm_I := ((kc_L_octet, [(0, 9, 13, 1, 3)]), 4, ⟨"SegmentDeskLaw", "octet", "(LSegmentDesk;I[J)I"⟩, method_20_code, (some .int), 3)
def kc_D_octet : List (Nat × Instr × Nat × pm_L) := [
  (0, .iload_n 1, 1, ([], .null)), (1, .ifCond .lt 14, 3, ([15], .null)), (4, .iload_n 1, 1, ([], .null)), (5, .aload_n 0, 1, ([], .null)), (6, .getfield 53, 3, ([0, 6], .null)), 
  (9, .getfield 261, 3, ([8, 1], .null)), (12, .if_icmp .lt 7, 3, ([19], .null)), (15, .iconst 1, 1, ([], .null)), (16, .goto 4, 3, ([20], .null)), 
  (19, .iconst 0, 1, ([], .null)), (20, .invokestatic 61, 3, ([12, 1, 0, 0], .null)), (23, .aload_n 0, 1, ([], .null)), (24, .getfield 53, 3, ([0, 6], .null)), 
  (27, .getfield 266, 3, ([8, 0], .null)), (30, .iload_n 1, 1, ([], .null)), (31, .baload, 1, ([], .null)), (32, .sipush 255, 3, ([], .null)), (35, .iand, 1, ([], .null)), 
  (36, .ireturn, 1, ([], .null))
]
def mi_D_octet : pm_I := ((kc_D_octet, []), 2, ⟨"SegmentDesk", "octet", "(I)I"⟩, prog_1_method_19_code, (some .int), 1)
def kc_L_feed : List (Nat × Instr × Nat × pm_L) := [
  (0, .aload 4, 2, ([], .null)), (2, .iconst 0, 1, ([], .null)), (3, .aload_n 0, 1, ([], .null)), (4, .lload_n 1, 1, ([], .null)), (5, .iload_n 3, 1, ([], .null)), 
  (6, .invokevirtual 87, 3, ([140, 3, 0, 1], .null)), (9, .i2l, 1, ([], .null)), (10, .lastore, 1, ([], .null)), (11, .goto 11, 3, ([22], .null)), (14, .astore 5, 2, ([], .null)), 
  (16, .iconst 1, 1, ([], .null)), (17, .ireturn, 1, ([], .null)), (18, .astore 5, 2, ([], .null)), (20, .iconst 2, 1, ([], .null)), (21, .ireturn, 1, ([], .null)), 
  (22, .iconst 0, 1, ([], .null)), (23, .ireturn, 1, ([], .null))
]
def mi_L_feed : pm_I := ((kc_L_feed, [(0, 11, 16, 1, 5), (0, 11, 20, 3, 5)]), 6, ⟨"SegmentDeskLaw", "feed", "(LSegmentDesk;JI[J)I"⟩, method_21_code, (some .int), 4)
def kc_D_feed : List (Nat × Instr × Nat × pm_L) := [
  (0, .iload_n 3, 1, ([], .null)), (1, .iconst 1, 1, ([], .null)), (2, .if_icmp .lt 9, 3, ([11], .null)), (5, .iload_n 3, 1, ([], .null)), (6, .bipush 8, 2, ([], .null)), 
  (8, .if_icmp .le 7, 3, ([15], .null)), (11, .iconst 1, 1, ([], .null)), (12, .goto 4, 3, ([16], .null)), (15, .iconst 0, 1, ([], .null)), 
  (16, .invokestatic 61, 3, ([12, 1, 0, 0], .null)), (19, .aload_n 0, 1, ([], .null)), (20, .getfield 53, 3, ([0, 6], .null)), (23, .getfield 261, 3, ([8, 1], .null)), 
  (26, .iload_n 3, 1, ([], .null)), (27, .iadd, 1, ([], .null)), (28, .sipush 1500, 3, ([], .null)), (31, .if_icmp .le 7, 3, ([38], .null)), (34, .iconst 1, 1, ([], .null)), 
  (35, .goto 4, 3, ([39], .null)), (38, .iconst 0, 1, ([], .null)), (39, .invokestatic 270, 3, ([108, 1, 0, 0], .null)), (42, .iconst 0, 1, ([], .null)), 
  (43, .istore 4, 2, ([], .null)), (45, .iload 4, 2, ([], .null)), (47, .iload_n 3, 1, ([], .null)), (48, .if_icmp .ge 22, 3, ([70], .null)), (51, .aload_n 0, 1, ([], .null)), 
  (52, .getfield 53, 3, ([0, 6], .null)), (55, .lload_n 1, 1, ([], .null)), (56, .iload 4, 2, ([], .null)), (58, .invokestatic 273, 3, ([131, 2, 0, 0], .null)), 
  (61, .invokevirtual 277, 3, ([132, 2, 0, 9], .null)), (64, .iinc 4 1, 3, ([], .null)), (67, .goto (-22), 3, ([45], .null)), (70, .aload_n 0, 1, ([], .null)), 
  (71, .getfield 53, 3, ([0, 6], .null)), (74, .getfield 261, 3, ([8, 1], .null)), (77, .ireturn, 1, ([], .null))
]
def mi_D_feed : pm_I := ((kc_D_feed, []), 5, ⟨"SegmentDesk", "feed", "(JI)I"⟩, prog_1_method_20_code, (some .int), 2)
def kc_L_take : List (Nat × Instr × Nat × pm_L) := [
  (0, .aload_n 1, 1, ([], .null)), (1, .iconst 0, 1, ([], .null)), (2, .aload_n 0, 1, ([], .null)), (3, .invokevirtual 91, 3, ([142, 1, 0, 1], .null)), (6, .i2l, 1, ([], .null)), 
  (7, .lastore, 1, ([], .null)), (8, .goto 6, 3, ([14], .null)), (11, .astore_n 2, 1, ([], .null)), (12, .iconst 1, 1, ([], .null)), (13, .ireturn, 1, ([], .null)), 
  (14, .iconst 0, 1, ([], .null)), (15, .ireturn, 1, ([], .null))
]
def mi_L_take : pm_I := ((kc_L_take, [(0, 8, 12, 2, 2)]), 3, ⟨"SegmentDeskLaw", "take", "(LSegmentDesk;[J)I"⟩, method_22_code, (some .int), 2)
def kc_D_take : List (Nat × Instr × Nat × pm_L) := [
  (0, .aload_n 0, 1, ([], .null)), (1, .getfield 33, 3, ([0, 3], .null)), (4, .aload_n 0, 1, ([], .null)), (5, .getfield 53, 3, ([0, 6], .null)), 
  (8, .invokevirtual 280, 3, ([143, 2, 0, 5], .null)), (11, .aload_n 0, 1, ([], .null)), (12, .getfield 33, 3, ([0, 3], .null)), 
  (15, .invokevirtual 283, 3, ([147, 1, 0, 5], .null)), (18, .aload_n 0, 1, ([], .null)), (19, .getfield 33, 3, ([0, 3], .null)), (22, .aload_n 0, 1, ([], .null)), 
  (23, .getfield 12, 3, ([0, 0], .null)), (26, .invokevirtual 286, 3, ([149, 2, 0, 5], .null)), (29, .aload_n 0, 1, ([], .null)), 
  (30, .invokevirtual 77, 3, ([16, 1, 0, 1], .null)), (33, .aload_n 0, 1, ([], .null)), (34, .getfield 12, 3, ([0, 0], .null)), (37, .getfield 289, 3, ([1, 2], .null)), 
  (40, .ireturn, 1, ([], .null))
]
def mi_D_take : pm_I := ((kc_D_take, []), 1, ⟨"SegmentDesk", "take", "()I"⟩, prog_1_method_22_code, (some .int), 0)
def kc_Fr_unpack : List (Nat × Instr × Nat × pm_L) := [
  (0, .aload_n 0, 1, ([], .null)), (1, .iconst 0, 1, ([], .null)), (2, .putfield 25, 3, ([4, 1, 0], .null)), (5, .aload_n 0, 1, ([], .null)), (6, .iconst 0, 1, ([], .null)), 
  (7, .putfield 77, 3, ([4, 2, 0], .null)), (10, .iconst 0, 1, ([], .null)), (11, .istore_n 2, 1, ([], .null)), (12, .iload_n 2, 1, ([], .null)), 
  (13, .sipush 1500, 3, ([], .null)), (16, .if_icmp .ge 80, 3, ([96], .null)), (19, .aload_n 0, 1, ([], .null)), (20, .getfield 77, 3, ([4, 2], .null)), 
  (23, .aload_n 1, 1, ([], .null)), (24, .getfield 80, 3, ([8, 1], .null)), (27, .if_icmp .ge 69, 3, ([96], .null)), (30, .aload_n 0, 1, ([], .null)), 
  (31, .aload_n 1, 1, ([], .null)), (32, .invokevirtual 81, 3, ([144, 2, 0, 5], .null)), (35, .istore_n 3, 1, ([], .null)), (36, .aload_n 0, 1, ([], .null)), 
  (37, .aload_n 0, 1, ([], .null)), (38, .aload_n 1, 1, ([], .null)), (39, .iload_n 3, 1, ([], .null)), (40, .invokevirtual 85, 3, ([145, 3, 0, 5], .null)), 
  (43, .invokevirtual 89, 3, ([146, 2, 0, 5], .null)), (46, .iload_n 3, 1, ([], .null)), (47, .ifCond .eq 10, 3, ([57], .null)), (50, .iload_n 3, 1, ([], .null)), 
  (51, .sipush 255, 3, ([], .null)), (54, .if_icmp .ne 36, 3, ([90], .null)), (57, .aload_n 0, 1, ([], .null)), (58, .aload_n 1, 1, ([], .null)), 
  (59, .invokevirtual 81, 3, ([144, 2, 0, 5], .null)), (62, .istore 4, 2, ([], .null)), (64, .iconst 0, 1, ([], .null)), (65, .istore 5, 2, ([], .null)), 
  (67, .iload 5, 2, ([], .null)), (69, .iload 4, 2, ([], .null)), (71, .if_icmp .ge 19, 3, ([90], .null)), (74, .aload_n 0, 1, ([], .null)), (75, .aload_n 0, 1, ([], .null)), 
  (76, .aload_n 1, 1, ([], .null)), (77, .iload_n 3, 1, ([], .null)), (78, .invokevirtual 85, 3, ([145, 3, 0, 5], .null)), (81, .invokevirtual 89, 3, ([146, 2, 0, 5], .null)), 
  (84, .iinc 5 1, 3, ([], .null)), (87, .goto (-20), 3, ([67], .null)), (90, .iinc 2 1, 3, ([], .null)), (93, .goto (-81), 3, ([12], .null)), (96, .return_, 1, ([], .null))
]
def mi_Fr_unpack : pm_I := ((kc_Fr_unpack, []), 6, ⟨"SegmentDesk$Frame", "unpack", "(LSegmentDesk$Octets;)V"⟩, prog_4_method_11_code, none, 1)
def kc_Fr_nextOctet : List (Nat × Instr × Nat × pm_L) := [
  (0, .aload_n 0, 1, ([], .null)), (1, .getfield 77, 3, ([4, 2], .null)), (4, .aload_n 1, 1, ([], .null)), (5, .getfield 80, 3, ([8, 1], .null)), 
  (8, .if_icmp .lt 7, 3, ([15], .null)), (11, .iconst 1, 1, ([], .null)), (12, .goto 4, 3, ([16], .null)), (15, .iconst 0, 1, ([], .null)), 
  (16, .invokestatic 93, 3, ([29, 1, 0, 0], .null)), (19, .aload_n 0, 1, ([], .null)), (20, .dup, 1, ([], .null)), (21, .getfield 77, 3, ([4, 2], .null)), 
  (24, .iconst 1, 1, ([], .null)), (25, .iadd, 1, ([], .null)), (26, .putfield 77, 3, ([4, 2, 0], .null)), (29, .aload_n 1, 1, ([], .null)), 
  (30, .getfield 97, 3, ([8, 0], .null)), (33, .aload_n 0, 1, ([], .null)), (34, .getfield 77, 3, ([4, 2], .null)), (37, .iconst 1, 1, ([], .null)), (38, .isub, 1, ([], .null)), 
  (39, .baload, 1, ([], .null)), (40, .sipush 255, 3, ([], .null)), (43, .iand, 1, ([], .null)), (44, .ireturn, 1, ([], .null))
]
def mi_Fr_nextOctet : pm_I := ((kc_Fr_nextOctet, []), 2, ⟨"SegmentDesk$Frame", "nextOctet", "(LSegmentDesk$Octets;)I"⟩, prog_4_method_12_code, (some .int), 1)
def kc_Fr_nextGroup : List (Nat × Instr × Nat × pm_L) := [
  (0, .lconst 0, 1, ([], .null)), (1, .lstore_n 3, 1, ([], .null)), (2, .iconst 0, 1, ([], .null)), (3, .istore 5, 2, ([], .null)), (5, .iload 5, 2, ([], .null)), 
  (7, .bipush 8, 2, ([], .null)), (9, .if_icmp .ge 33, 3, ([42], .null)), (12, .iload_n 2, 1, ([], .null)), (13, .iload 5, 2, ([], .null)), (15, .ishr, 1, ([], .null)), 
  (16, .iconst 1, 1, ([], .null)), (17, .iand, 1, ([], .null)), (18, .ifCond .eq 18, 3, ([36], .null)), (21, .lload_n 3, 1, ([], .null)), (22, .aload_n 0, 1, ([], .null)), 
  (23, .aload_n 1, 1, ([], .null)), (24, .invokevirtual 81, 3, ([144, 2, 0, 5], .null)), (27, .i2l, 1, ([], .null)), (28, .bipush 8, 2, ([], .null)), 
  (30, .iload 5, 2, ([], .null)), (32, .imul, 1, ([], .null)), (33, .lshl, 1, ([], .null)), (34, .lor, 1, ([], .null)), (35, .lstore_n 3, 1, ([], .null)), 
  (36, .iinc 5 1, 3, ([], .null)), (39, .goto (-34), 3, ([5], .null)), (42, .lload_n 3, 1, ([], .null)), (43, .lreturn, 1, ([], .null))
]
def mi_Fr_nextGroup : pm_I := ((kc_Fr_nextGroup, []), 6, ⟨"SegmentDesk$Frame", "nextGroup", "(LSegmentDesk$Octets;I)J"⟩, prog_4_method_13_code, (some .long), 2)
def kc_Fr_addGroup : List (Nat × Instr × Nat × pm_L) := [
  (0, .aload_n 0, 1, ([], .null)), (1, .getfield 25, 3, ([4, 1], .null)), (4, .sipush 259, 3, ([], .null)), (7, .if_icmp .lt 7, 3, ([14], .null)), (10, .iconst 1, 1, ([], .null)), 
  (11, .goto 4, 3, ([15], .null)), (14, .iconst 0, 1, ([], .null)), (15, .invokestatic 93, 3, ([29, 1, 0, 0], .null)), (18, .aload_n 0, 1, ([], .null)), 
  (19, .getfield 9, 3, ([4, 0], .null)), (22, .aload_n 0, 1, ([], .null)), (23, .getfield 25, 3, ([4, 1], .null)), (26, .lload_n 1, 1, ([], .null)), 
  (27, .lastore, 1, ([], .null)), (28, .aload_n 0, 1, ([], .null)), (29, .dup, 1, ([], .null)), (30, .getfield 25, 3, ([4, 1], .null)), (33, .iconst 1, 1, ([], .null)), 
  (34, .iadd, 1, ([], .null)), (35, .putfield 25, 3, ([4, 1, 0], .null)), (38, .return_, 1, ([], .null))
]
def mi_Fr_addGroup : pm_I := ((kc_Fr_addGroup, []), 3, ⟨"SegmentDesk$Frame", "addGroup", "(J)V"⟩, prog_4_method_14_code, none, 1)
def kc_Fr_check : List (Nat × Instr × Nat × pm_L) := [
  (0, .aload_n 0, 1, ([], .null)), (1, .getfield 25, 3, ([4, 1], .null)), (4, .ifCond .eq 15, 3, ([19], .null)), (7, .aload_n 0, 1, ([], .null)), (8, .iconst 0, 1, ([], .null)), 
  (9, .invokevirtual 101, 3, ([148, 2, 0, 5], .null)), (12, .ldc2_w 105, 3, ([], .long 4)), (15, .lcmp, 1, ([], .null)), (16, .ifCond .lt 7, 3, ([23], .null)), 
  (19, .iconst 1, 1, ([], .null)), (20, .goto 4, 3, ([24], .null)), (23, .iconst 0, 1, ([], .null)), (24, .invokestatic 93, 3, ([29, 1, 0, 0], .null)), 
  (27, .aload_n 0, 1, ([], .null)), (28, .iconst 0, 1, ([], .null)), (29, .invokevirtual 101, 3, ([148, 2, 0, 5], .null)), (32, .l2i, 1, ([], .null)), 
  (33, .iconst 1, 1, ([], .null)), (34, .iadd, 1, ([], .null)), (35, .istore_n 1, 1, ([], .null)), (36, .iload_n 1, 1, ([], .null)), 
  (37, .invokestatic 21, 3, ([127, 1, 0, 0], .null)), (40, .istore_n 2, 1, ([], .null)), (41, .aload_n 0, 1, ([], .null)), (42, .getfield 25, 3, ([4, 1], .null)), 
  (45, .iload_n 2, 1, ([], .null)), (46, .if_icmp .ge 7, 3, ([53], .null)), (49, .iconst 1, 1, ([], .null)), (50, .goto 4, 3, ([54], .null)), (53, .iconst 0, 1, ([], .null)), 
  (54, .invokestatic 93, 3, ([29, 1, 0, 0], .null)), (57, .iconst 0, 1, ([], .null)), (58, .istore_n 3, 1, ([], .null)), (59, .iload_n 3, 1, ([], .null)), 
  (60, .iload_n 1, 1, ([], .null)), (61, .if_icmp .ge 42, 3, ([103], .null)), (64, .aload_n 0, 1, ([], .null)), (65, .iload_n 3, 1, ([], .null)), (66, .iconst 1, 1, ([], .null)), 
  (67, .iadd, 1, ([], .null)), (68, .invokevirtual 101, 3, ([148, 2, 0, 5], .null)), (71, .ldc2_w 107, 3, ([], .long 64)), (74, .lcmp, 1, ([], .null)), 
  (75, .ifCond .le 7, 3, ([82], .null)), (78, .iconst 1, 1, ([], .null)), (79, .goto 4, 3, ([83], .null)), (82, .iconst 0, 1, ([], .null)), 
  (83, .invokestatic 93, 3, ([29, 1, 0, 0], .null)), (86, .iload_n 2, 1, ([], .null)), (87, .aload_n 0, 1, ([], .null)), (88, .iload_n 3, 1, ([], .null)), 
  (89, .iconst 1, 1, ([], .null)), (90, .iadd, 1, ([], .null)), (91, .invokevirtual 101, 3, ([148, 2, 0, 5], .null)), (94, .l2i, 1, ([], .null)), (95, .iadd, 1, ([], .null)), 
  (96, .istore_n 2, 1, ([], .null)), (97, .iinc 3 1, 3, ([], .null)), (100, .goto (-41), 3, ([59], .null)), (103, .aload_n 0, 1, ([], .null)), 
  (104, .getfield 25, 3, ([4, 1], .null)), (107, .iload_n 2, 1, ([], .null)), (108, .if_icmp .eq 7, 3, ([115], .null)), (111, .iconst 1, 1, ([], .null)), 
  (112, .goto 4, 3, ([116], .null)), (115, .iconst 0, 1, ([], .null)), (116, .invokestatic 93, 3, ([29, 1, 0, 0], .null)), (119, .return_, 1, ([], .null))
]
def mi_Fr_check : pm_I := ((kc_Fr_check, []), 4, ⟨"SegmentDesk$Frame", "check", "()V"⟩, prog_4_method_15_code, none, 0)
def kc_Fr_headNumber : List (Nat × Instr × Nat × pm_L) := [
  (0, .aload_n 0, 1, ([], .null)), (1, .getfield 9, 3, ([4, 0], .null)), (4, .iload_n 1, 1, ([], .null)), (5, .iconst 2, 1, ([], .null)), (6, .idiv, 1, ([], .null)), 
  (7, .laload, 1, ([], .null)), (8, .bipush 32, 2, ([], .null)), (10, .iload_n 1, 1, ([], .null)), (11, .iconst 2, 1, ([], .null)), (12, .irem, 1, ([], .null)), 
  (13, .imul, 1, ([], .null)), (14, .lushr, 1, ([], .null)), (15, .ldc2_w 46, 3, ([], .long 4294967295)), (18, .land, 1, ([], .null)), (19, .lreturn, 1, ([], .null))
]
def mi_Fr_headNumber : pm_I := ((kc_Fr_headNumber, []), 2, ⟨"SegmentDesk$Frame", "headNumber", "(I)J"⟩, prog_4_method_5_code, (some .long), 1)
def kc_Fr_empty : List (Nat × Instr × Nat × pm_L) := [
  (0, .aload_n 0, 1, ([], .null)), (1, .iconst 0, 1, ([], .null)), (2, .invokevirtual 101, 3, ([148, 2, 0, 5], .null)), (5, .l2i, 1, ([], .null)), (6, .iconst 1, 1, ([], .null)), 
  (7, .iadd, 1, ([], .null)), (8, .istore_n 2, 1, ([], .null)), (9, .iload_n 2, 1, ([], .null)), (10, .invokestatic 21, 3, ([127, 1, 0, 0], .null)), 
  (13, .istore_n 3, 1, ([], .null)), (14, .aload_n 1, 1, ([], .null)), (15, .iload_n 2, 1, ([], .null)), (16, .invokevirtual 109, 3, ([14, 2, 0, 2], .null)), 
  (19, .iconst 0, 1, ([], .null)), (20, .istore 4, 2, ([], .null)), (22, .iload 4, 2, ([], .null)), (24, .iload_n 2, 1, ([], .null)), (25, .if_icmp .ge 52, 3, ([77], .null)), 
  (28, .aload_n 0, 1, ([], .null)), (29, .iload 4, 2, ([], .null)), (31, .iconst 1, 1, ([], .null)), (32, .iadd, 1, ([], .null)), 
  (33, .invokevirtual 101, 3, ([148, 2, 0, 5], .null)), (36, .l2i, 1, ([], .null)), (37, .istore 5, 2, ([], .null)), (39, .aload_n 0, 1, ([], .null)), 
  (40, .getfield 9, 3, ([4, 0], .null)), (43, .iload_n 3, 1, ([], .null)), (44, .aload_n 1, 1, ([], .null)), (45, .getfield 32, 3, ([1, 0], .null)), 
  (48, .iload 4, 2, ([], .null)), (50, .aaload, 1, ([], .null)), (51, .iconst 0, 1, ([], .null)), (52, .iload 5, 2, ([], .null)), (54, .invokestatic 40, 3, ([4], .null)), 
  (57, .aload_n 1, 1, ([], .null)), (58, .getfield 36, 3, ([1, 1], .null)), (61, .iload 4, 2, ([], .null)), (63, .iload 5, 2, ([], .null)), (65, .iastore, 1, ([], .null)), 
  (66, .iload_n 3, 1, ([], .null)), (67, .iload 5, 2, ([], .null)), (69, .iadd, 1, ([], .null)), (70, .istore_n 3, 1, ([], .null)), (71, .iinc 4 1, 3, ([], .null)), 
  (74, .goto (-52), 3, ([22], .null)), (77, .return_, 1, ([], .null))
]
def mi_Fr_empty : pm_I := ((kc_Fr_empty, []), 6, ⟨"SegmentDesk$Frame", "empty", "(LSegmentDesk$Message;)V"⟩, prog_4_method_16_code, none, 1)
def kc_L_canonical : List (Nat × Instr × Nat × pm_L) := [
  (0, .aload_n 1, 1, ([], .null)), (1, .iconst 0, 1, ([], .null)), (2, .aload_n 0, 1, ([], .null)), (3, .invokevirtual 94, 3, ([151, 1, 0, 1], .null)), (6, .i2l, 1, ([], .null)), 
  (7, .lastore, 1, ([], .null)), (8, .goto 9, 3, ([17], .null)), (11, .astore_n 2, 1, ([], .null)), (12, .iconst 1, 1, ([], .null)), (13, .ireturn, 1, ([], .null)), 
  (14, .astore_n 2, 1, ([], .null)), (15, .iconst 2, 1, ([], .null)), (16, .ireturn, 1, ([], .null)), (17, .iconst 0, 1, ([], .null)), (18, .ireturn, 1, ([], .null))
]
def mi_L_canonical : pm_I := ((kc_L_canonical, [(0, 8, 12, 2, 2), (0, 8, 15, 3, 2)]), 3, ⟨"SegmentDeskLaw", "canonical", "(LSegmentDesk;[J)I"⟩, method_23_code, (some .int), 2)
def kc_D_canonical : List (Nat × Instr × Nat × pm_L) := [
  (0, .aload_n 0, 1, ([], .null)), (1, .getfield 40, 3, ([0, 4], .null)), (4, .aload_n 0, 1, ([], .null)), (5, .getfield 12, 3, ([0, 0], .null)), (8, .aload_n 0, 1, ([], .null)), 
  (9, .getfield 19, 3, ([0, 1], .null)), (12, .invokevirtual 292, 3, ([152, 3, 0, 6], .null)), (15, .aload_n 0, 1, ([], .null)), (16, .getfield 12, 3, ([0, 0], .null)), 
  (19, .iconst 1, 1, ([], .null)), (20, .invokevirtual 69, 3, ([14, 2, 0, 2], .null)), (23, .aload_n 0, 1, ([], .null)), (24, .getfield 12, 3, ([0, 0], .null)), 
  (27, .getfield 73, 3, ([1, 1], .null)), (30, .iconst 0, 1, ([], .null)), (31, .aload_n 0, 1, ([], .null)), (32, .getfield 40, 3, ([0, 4], .null)), 
  (35, .getfield 296, 3, ([5, 1], .null)), (38, .iastore, 1, ([], .null)), (39, .aload_n 0, 1, ([], .null)), (40, .getfield 40, 3, ([0, 4], .null)), 
  (43, .getfield 298, 3, ([5, 0], .null)), (46, .iconst 0, 1, ([], .null)), (47, .aload_n 0, 1, ([], .null)), (48, .getfield 12, 3, ([0, 0], .null)), 
  (51, .getfield 84, 3, ([1, 0], .null)), (54, .iconst 0, 1, ([], .null)), (55, .aaload, 1, ([], .null)), (56, .iconst 0, 1, ([], .null)), (57, .aload_n 0, 1, ([], .null)), 
  (58, .getfield 40, 3, ([0, 4], .null)), (61, .getfield 296, 3, ([5, 1], .null)), (64, .invokestatic 301, 3, ([4], .null)), (67, .aload_n 0, 1, ([], .null)), 
  (68, .invokevirtual 77, 3, ([16, 1, 0, 1], .null)), (71, .aload_n 0, 1, ([], .null)), (72, .getfield 40, 3, ([0, 4], .null)), (75, .getfield 296, 3, ([5, 1], .null)), 
  (78, .ireturn, 1, ([], .null))
]
def mi_D_canonical : pm_I := ((kc_D_canonical, []), 1, ⟨"SegmentDesk", "canonical", "()I"⟩, prog_1_method_23_code, (some .int), 0)
def kc_Ca_make : List (Nat × Instr × Nat × pm_L) := [
  (0, .aload_n 1, 1, ([], .null)), (1, .lconst 0, 1, ([], .null)), (2, .iconst 0, 1, ([], .null)), (3, .invokevirtual 22, 3, ([21, 3, 0, 2], .null)), 
  (6, .ifCond .ne 7, 3, ([13], .null)), (9, .iconst 1, 1, ([], .null)), (10, .goto 4, 3, ([14], .null)), (13, .iconst 0, 1, ([], .null)), 
  (14, .invokestatic 28, 3, ([29, 1, 0, 0], .null)), (17, .aload_n 0, 1, ([], .null)), (18, .getfield 9, 3, ([5, 0], .null)), (21, .lconst 0, 1, ([], .null)), 
  (22, .invokestatic 32, 3, ([15, 2, 0, 0], .null)), (25, .aload_n 0, 1, ([], .null)), (26, .iconst 1, 1, ([], .null)), (27, .putfield 38, 3, ([5, 1, 0], .null)), 
  (30, .aload_n 0, 1, ([], .null)), (31, .aload_n 1, 1, ([], .null)), (32, .aload_n 2, 1, ([], .null)), (33, .iconst 0, 1, ([], .null)), (34, .iconst 0, 1, ([], .null)), 
  (35, .iconst 0, 1, ([], .null)), (36, .bipush 64, 2, ([], .null)), (38, .invokevirtual 42, 3, ([153, 7, 0, 6], .null)), (41, .return_, 1, ([], .null))
]
def mi_Ca_make : pm_I := ((kc_Ca_make, []), 3, ⟨"SegmentDesk$Canon", "make", "(LSegmentDesk$Message;LSegmentDesk$Reader;)V"⟩, prog_3_method_2_code, none, 2)
def kc_Ca_copy : List (Nat × Instr × Nat × pm_L) := [
  (0, .aload_n 0, 1, ([], .null)), (1, .getfield 17, 3, ([5, 2], .null)), (4, .iload 6, 2, ([], .null)), (6, .aaload, 1, ([], .null)), (7, .astore 7, 2, ([], .null)), 
  (9, .aload_n 2, 1, ([], .null)), (10, .aload_n 1, 1, ([], .null)), (11, .aload 7, 2, ([], .null)), (13, .getfield 46, 3, ([6, 0], .null)), (16, .iload_n 3, 1, ([], .null)), 
  (17, .iload 4, 2, ([], .null)), (19, .iload 6, 2, ([], .null)), (21, .invokevirtual 50, 3, ([30, 6, 0, 3], .null)), (24, .aload 7, 2, ([], .null)), 
  (26, .getfield 46, 3, ([6, 0], .null)), (29, .getfield 56, 3, ([7, 0], .null)), (32, .ifCond .ne 4, 3, ([36], .null)), (35, .return_, 1, ([], .null)), 
  (36, .aload_n 0, 1, ([], .null)), (37, .aload_n 1, 1, ([], .null)), (38, .getfield 61, 3, ([1, 0], .null)), (41, .aload 7, 2, ([], .null)), 
  (43, .getfield 46, 3, ([6, 0], .null)), (46, .getfield 64, 3, ([7, 2], .null)), (49, .aaload, 1, ([], .null)), (50, .aload 7, 2, ([], .null)), (52, .iload 5, 2, ([], .null)), 
  (54, .invokevirtual 67, 3, ([154, 4, 0, 6], .null)), (57, .iconst 0, 1, ([], .null)), (58, .istore 8, 2, ([], .null)), (60, .iload 8, 2, ([], .null)), 
  (62, .aload 7, 2, ([], .null)), (64, .getfield 71, 3, ([6, 1], .null)), (67, .if_icmp .ge 86, 3, ([153], .null)), (70, .aload 7, 2, ([], .null)), (72, .iload 8, 2, ([], .null)), 
  (74, .invokevirtual 74, 3, ([158, 2, 0, 7], .null)), (77, .aload 7, 2, ([], .null)), (79, .getfield 78, 3, ([6, 3], .null)), (82, .iadd, 1, ([], .null)), 
  (83, .istore 9, 2, ([], .null)), (85, .aload 7, 2, ([], .null)), (87, .iload 8, 2, ([], .null)), (89, .invokevirtual 81, 3, ([162, 2, 0, 7], .null)), 
  (92, .aload 7, 2, ([], .null)), (94, .getfield 84, 3, ([6, 6], .null)), (97, .iadd, 1, ([], .null)), (98, .istore 10, 2, ([], .null)), (100, .iconst 0, 1, ([], .null)), 
  (101, .istore 11, 2, ([], .null)), (103, .iload 11, 2, ([], .null)), (105, .aload 7, 2, ([], .null)), (107, .getfield 87, 3, ([6, 7], .null)), 
  (110, .if_icmp .ge 37, 3, ([147], .null)), (113, .aload_n 0, 1, ([], .null)), (114, .aload_n 1, 1, ([], .null)), (115, .aload_n 2, 1, ([], .null)), 
  (116, .aload 7, 2, ([], .null)), (118, .getfield 46, 3, ([6, 0], .null)), (121, .getfield 64, 3, ([7, 2], .null)), (124, .iload 9, 2, ([], .null)), 
  (126, .iload 11, 2, ([], .null)), (128, .iadd, 1, ([], .null)), (129, .iload 10, 2, ([], .null)), (131, .iload 11, 2, ([], .null)), (133, .iadd, 1, ([], .null)), 
  (134, .iload 6, 2, ([], .null)), (136, .iconst 1, 1, ([], .null)), (137, .isub, 1, ([], .null)), (138, .invokevirtual 42, 3, ([153, 7, 0, 6], .null)), 
  (141, .iinc 11 1, 3, ([], .null)), (144, .goto (-41), 3, ([103], .null)), (147, .iinc 8 1, 3, ([], .null)), (150, .goto (-90), 3, ([60], .null)), (153, .return_, 1, ([], .null))
]
def mi_Ca_copy : pm_I := ((kc_Ca_copy, []), 12, ⟨"SegmentDesk$Canon", "copy", "(LSegmentDesk$Message;LSegmentDesk$Reader;IIII)V"⟩, prog_3_method_3_code, none, 6)
def kc_Ca_lay : List (Nat × Instr × Nat × pm_L) := [
  (0, .aload_n 2, 1, ([], .null)), (1, .getfield 46, 3, ([6, 0], .null)), (4, .getfield 56, 3, ([7, 0], .null)), (7, .iconst 1, 1, ([], .null)), 
  (8, .if_icmp .ne 13, 3, ([21], .null)), (11, .aload_n 0, 1, ([], .null)), (12, .aload_n 1, 1, ([], .null)), (13, .aload_n 2, 1, ([], .null)), (14, .iload_n 3, 1, ([], .null)), 
  (15, .invokevirtual 90, 3, ([155, 4, 0, 6], .null)), (18, .goto 53, 3, ([71], .null)), (21, .aload_n 2, 1, ([], .null)), (22, .getfield 46, 3, ([6, 0], .null)), 
  (25, .getfield 93, 3, ([7, 8], .null)), (28, .bipush 7, 2, ([], .null)), (30, .if_icmp .ne 13, 3, ([43], .null)), (33, .aload_n 0, 1, ([], .null)), 
  (34, .aload_n 1, 1, ([], .null)), (35, .aload_n 2, 1, ([], .null)), (36, .iload_n 3, 1, ([], .null)), (37, .invokevirtual 96, 3, ([163, 4, 0, 6], .null)), 
  (40, .goto 31, 3, ([71], .null)), (43, .aload_n 2, 1, ([], .null)), (44, .getfield 46, 3, ([6, 0], .null)), (47, .getfield 93, 3, ([7, 8], .null)), 
  (50, .bipush 6, 2, ([], .null)), (52, .if_icmp .ne 12, 3, ([64], .null)), (55, .aload_n 0, 1, ([], .null)), (56, .aload_n 2, 1, ([], .null)), (57, .iload_n 3, 1, ([], .null)), 
  (58, .invokevirtual 99, 3, ([164, 3, 0, 6], .null)), (61, .goto 10, 3, ([71], .null)), (64, .aload_n 0, 1, ([], .null)), (65, .aload_n 1, 1, ([], .null)), 
  (66, .aload_n 2, 1, ([], .null)), (67, .iload_n 3, 1, ([], .null)), (68, .invokevirtual 103, 3, ([165, 4, 0, 6], .null)), (71, .return_, 1, ([], .null))
]
def mi_Ca_lay : pm_I := ((kc_Ca_lay, []), 4, ⟨"SegmentDesk$Canon", "lay", "([JLSegmentDesk$Level;I)V"⟩, prog_3_method_4_code, none, 3)
def kc_Ca_layStruct : List (Nat × Instr × Nat × pm_L) := [
  (0, .aload_n 2, 1, ([], .null)), (1, .iconst 1, 1, ([], .null)), (2, .aload_n 2, 1, ([], .null)), (3, .getfield 46, 3, ([6, 0], .null)), (6, .getfield 106, 3, ([7, 3], .null)), 
  (9, .invokevirtual 109, 3, ([156, 3, 0, 7], .null)), (12, .aload_n 2, 1, ([], .null)), (13, .aload_n 1, 1, ([], .null)), (14, .invokevirtual 113, 3, ([157, 2, 0, 7], .null)), 
  (17, .aload_n 2, 1, ([], .null)), (18, .getfield 84, 3, ([6, 6], .null)), (21, .aload_n 2, 1, ([], .null)), (22, .getfield 87, 3, ([6, 7], .null)), (25, .iadd, 1, ([], .null)), 
  (26, .istore 4, 2, ([], .null)), (28, .aload_n 2, 1, ([], .null)), (29, .aload_n 0, 1, ([], .null)), (30, .iload 4, 2, ([], .null)), 
  (32, .invokevirtual 117, 3, ([160, 2, 0, 6], .null)), (35, .putfield 120, 3, ([6, 5, 0], .null)), (38, .iload 4, 2, ([], .null)), (40, .ifCond .ne 7, 3, ([47], .null)), 
  (43, .iconst (-1), 1, ([], .null)), (44, .goto 11, 3, ([55], .null)), (47, .aload_n 2, 1, ([], .null)), (48, .getfield 120, 3, ([6, 5], .null)), 
  (51, .iload_n 3, 1, ([], .null)), (52, .isub, 1, ([], .null)), (53, .iconst 1, 1, ([], .null)), (54, .isub, 1, ([], .null)), (55, .istore 5, 2, ([], .null)), 
  (57, .aload_n 0, 1, ([], .null)), (58, .getfield 9, 3, ([5, 0], .null)), (61, .iload_n 3, 1, ([], .null)), (62, .aload_n 2, 1, ([], .null)), 
  (63, .getfield 84, 3, ([6, 6], .null)), (66, .aload_n 2, 1, ([], .null)), (67, .getfield 87, 3, ([6, 7], .null)), (70, .invokestatic 123, 3, ([99, 2, 0, 0], .null)), 
  (73, .iload 5, 2, ([], .null)), (75, .invokestatic 129, 3, ([100, 2, 0, 0], .null)), (78, .lastore, 1, ([], .null)), (79, .aload_n 0, 1, ([], .null)), 
  (80, .aload_n 1, 1, ([], .null)), (81, .aload_n 2, 1, ([], .null)), (82, .invokevirtual 133, 3, ([161, 3, 0, 6], .null)), (85, .return_, 1, ([], .null))
]
def mi_Ca_layStruct : pm_I := ((kc_Ca_layStruct, []), 6, ⟨"SegmentDesk$Canon", "layStruct", "([JLSegmentDesk$Level;I)V"⟩, prog_3_method_5_code, none, 3)
def kc_Le_span : List (Nat × Instr × Nat × pm_L) := [
  (0, .aload_n 0, 1, ([], .null)), (1, .iload_n 1, 1, ([], .null)), (2, .putfield 16, 3, ([6, 1, 0], .null)), (5, .aload_n 0, 1, ([], .null)), (6, .iload_n 2, 1, ([], .null)), 
  (7, .putfield 20, 3, ([6, 2, 0], .null)), (10, .aload_n 0, 1, ([], .null)), (11, .aload_n 0, 1, ([], .null)), (12, .getfield 10, 3, ([6, 0], .null)), 
  (15, .invokevirtual 23, 3, ([59, 1, 0, 8], .null)), (18, .putfield 27, 3, ([6, 3, 0], .null)), (21, .aload_n 0, 1, ([], .null)), (22, .aload_n 0, 1, ([], .null)), 
  (23, .getfield 10, 3, ([6, 0], .null)), (26, .getfield 30, 3, ([7, 6], .null)), (29, .putfield 33, 3, ([6, 4, 0], .null)), (32, .aload_n 0, 1, ([], .null)), 
  (33, .iconst 0, 1, ([], .null)), (34, .putfield 36, 3, ([6, 6, 0], .null)), (37, .aload_n 0, 1, ([], .null)), (38, .iconst 0, 1, ([], .null)), 
  (39, .putfield 39, 3, ([6, 7, 0], .null)), (42, .return_, 1, ([], .null))
]
def mi_Le_span : pm_I := ((kc_Le_span, []), 3, ⟨"SegmentDesk$Level", "span", "(II)V"⟩, prog_5_method_2_code, none, 2)
def kc_Le_measure : List (Nat × Instr × Nat × pm_L) := [
  (0, .iconst 0, 1, ([], .null)), (1, .istore_n 2, 1, ([], .null)), (2, .iload_n 2, 1, ([], .null)), (3, .aload_n 0, 1, ([], .null)), (4, .getfield 16, 3, ([6, 1], .null)), 
  (7, .if_icmp .ge 60, 3, ([67], .null)), (10, .aload_n 0, 1, ([], .null)), (11, .iload_n 2, 1, ([], .null)), (12, .invokevirtual 43, 3, ([158, 2, 0, 7], .null)), 
  (15, .istore_n 3, 1, ([], .null)), (16, .aload_n 0, 1, ([], .null)), (17, .aload_n 0, 1, ([], .null)), (18, .getfield 36, 3, ([6, 6], .null)), (21, .aload_n 1, 1, ([], .null)), 
  (22, .iload_n 3, 1, ([], .null)), (23, .aload_n 0, 1, ([], .null)), (24, .getfield 27, 3, ([6, 3], .null)), (27, .invokestatic 47, 3, ([159, 3, 0, 0], .null)), 
  (30, .invokestatic 51, 3, ([81, 2, 0, 0], .null)), (33, .putfield 36, 3, ([6, 6, 0], .null)), (36, .aload_n 0, 1, ([], .null)), (37, .aload_n 0, 1, ([], .null)), 
  (38, .getfield 39, 3, ([6, 7], .null)), (41, .aload_n 1, 1, ([], .null)), (42, .iload_n 3, 1, ([], .null)), (43, .aload_n 0, 1, ([], .null)), 
  (44, .getfield 27, 3, ([6, 3], .null)), (47, .iadd, 1, ([], .null)), (48, .aload_n 0, 1, ([], .null)), (49, .getfield 33, 3, ([6, 4], .null)), 
  (52, .invokestatic 47, 3, ([159, 3, 0, 0], .null)), (55, .invokestatic 51, 3, ([81, 2, 0, 0], .null)), (58, .putfield 39, 3, ([6, 7, 0], .null)), 
  (61, .iinc 2 1, 3, ([], .null)), (64, .goto (-62), 3, ([2], .null)), (67, .return_, 1, ([], .null))
]
def mi_Le_measure : pm_I := ((kc_Le_measure, []), 4, ⟨"SegmentDesk$Level", "measure", "([J)V"⟩, prog_5_method_5_code, none, 1)
def kc_Le_elementFrom : List (Nat × Instr × Nat × pm_L) := [
  (0, .aload_n 0, 1, ([], .null)), (1, .getfield 20, 3, ([6, 2], .null)), (4, .iload_n 1, 1, ([], .null)), (5, .aload_n 0, 1, ([], .null)), (6, .getfield 27, 3, ([6, 3], .null)), 
  (9, .aload_n 0, 1, ([], .null)), (10, .getfield 33, 3, ([6, 4], .null)), (13, .iadd, 1, ([], .null)), (14, .imul, 1, ([], .null)), (15, .iadd, 1, ([], .null)), 
  (16, .ireturn, 1, ([], .null))
]
def mi_Le_elementFrom : pm_I := ((kc_Le_elementFrom, []), 2, ⟨"SegmentDesk$Level", "elementFrom", "(I)I"⟩, prog_5_method_3_code, (some .int), 1)
def kc_Le_needed : List (Nat × Instr × Nat × pm_L) := [
  (0, .iload_n 2, 1, ([], .null)), (1, .istore_n 3, 1, ([], .null)), (2, .iload_n 3, 1, ([], .null)), (3, .ifCond .le 21, 3, ([24], .null)), (6, .aload_n 0, 1, ([], .null)), 
  (7, .iload_n 1, 1, ([], .null)), (8, .iload_n 3, 1, ([], .null)), (9, .iadd, 1, ([], .null)), (10, .iconst 1, 1, ([], .null)), (11, .isub, 1, ([], .null)), 
  (12, .laload, 1, ([], .null)), (13, .lconst 0, 1, ([], .null)), (14, .lcmp, 1, ([], .null)), (15, .ifCond .ne 9, 3, ([24], .null)), (18, .iinc 3 (-1), 3, ([], .null)), 
  (21, .goto (-19), 3, ([2], .null)), (24, .iload_n 3, 1, ([], .null)), (25, .ireturn, 1, ([], .null))
]
def mi_Le_needed : pm_I := ((kc_Le_needed, []), 4, ⟨"SegmentDesk$Level", "needed", "([JII)I"⟩, prog_5_method_6_code, (some .int), 3)
def kc_Ca_claim : List (Nat × Instr × Nat × pm_L) := [
  (0, .aload_n 0, 1, ([], .null)), (1, .getfield 38, 3, ([5, 1], .null)), (4, .iload_n 1, 1, ([], .null)), (5, .iadd, 1, ([], .null)), (6, .bipush 64, 2, ([], .null)), 
  (8, .if_icmp .le 7, 3, ([15], .null)), (11, .iconst 1, 1, ([], .null)), (12, .goto 4, 3, ([16], .null)), (15, .iconst 0, 1, ([], .null)), 
  (16, .invokestatic 169, 3, ([108, 1, 0, 0], .null)), (19, .aload_n 0, 1, ([], .null)), (20, .getfield 38, 3, ([5, 1], .null)), (23, .istore_n 2, 1, ([], .null)), 
  (24, .aload_n 0, 1, ([], .null)), (25, .dup, 1, ([], .null)), (26, .getfield 38, 3, ([5, 1], .null)), (29, .iload_n 1, 1, ([], .null)), (30, .iadd, 1, ([], .null)), 
  (31, .putfield 38, 3, ([5, 1, 0], .null)), (34, .iload_n 2, 1, ([], .null)), (35, .ireturn, 1, ([], .null))
]
def mi_Ca_claim : pm_I := ((kc_Ca_claim, []), 3, ⟨"SegmentDesk$Canon", "claim", "(I)I"⟩, prog_3_method_10_code, (some .int), 1)
def kc_Ca_copyData : List (Nat × Instr × Nat × pm_L) := [
  (0, .iconst 0, 1, ([], .null)), (1, .istore_n 3, 1, ([], .null)), (2, .iload_n 3, 1, ([], .null)), (3, .aload_n 2, 1, ([], .null)), (4, .getfield 71, 3, ([6, 1], .null)), 
  (7, .if_icmp .ge 31, 3, ([38], .null)), (10, .aload_n 1, 1, ([], .null)), (11, .aload_n 2, 1, ([], .null)), (12, .iload_n 3, 1, ([], .null)), 
  (13, .invokevirtual 74, 3, ([158, 2, 0, 7], .null)), (16, .aload_n 0, 1, ([], .null)), (17, .getfield 9, 3, ([5, 0], .null)), (20, .aload_n 2, 1, ([], .null)), 
  (21, .iload_n 3, 1, ([], .null)), (22, .invokevirtual 81, 3, ([162, 2, 0, 7], .null)), (25, .aload_n 2, 1, ([], .null)), (26, .getfield 84, 3, ([6, 6], .null)), 
  (29, .invokestatic 155, 3, ([4], .null)), (32, .iinc 3 1, 3, ([], .null)), (35, .goto (-33), 3, ([2], .null)), (38, .return_, 1, ([], .null))
]
def mi_Ca_copyData : pm_I := ((kc_Ca_copyData, []), 4, ⟨"SegmentDesk$Canon", "copyData", "([JLSegmentDesk$Level;)V"⟩, prog_3_method_9_code, none, 2)
def kc_Le_elementTo : List (Nat × Instr × Nat × pm_L) := [
  (0, .aload_n 0, 1, ([], .null)), (1, .getfield 40, 3, ([6, 5], .null)), (4, .iload_n 1, 1, ([], .null)), (5, .aload_n 0, 1, ([], .null)), (6, .getfield 36, 3, ([6, 6], .null)), 
  (9, .aload_n 0, 1, ([], .null)), (10, .getfield 39, 3, ([6, 7], .null)), (13, .iadd, 1, ([], .null)), (14, .imul, 1, ([], .null)), (15, .iadd, 1, ([], .null)), 
  (16, .ireturn, 1, ([], .null))
]
def mi_Le_elementTo : pm_I := ((kc_Le_elementTo, []), 2, ⟨"SegmentDesk$Level", "elementTo", "(I)I"⟩, prog_5_method_4_code, (some .int), 1)
def kc_Ca_layStructs : List (Nat × Instr × Nat × pm_L) := [
  (0, .aload_n 2, 1, ([], .null)), (1, .getfield 46, 3, ([6, 0], .null)), (4, .astore 4, 2, ([], .null)), (6, .aload_n 2, 1, ([], .null)), (7, .aload 4, 2, ([], .null)), 
  (9, .getfield 137, 3, ([7, 5], .null)), (12, .aload 4, 2, ([], .null)), (14, .getfield 140, 3, ([7, 6], .null)), (17, .iadd, 1, ([], .null)), 
  (18, .ifCond .ne 7, 3, ([25], .null)), (21, .iconst 0, 1, ([], .null)), (22, .goto 8, 3, ([30], .null)), (25, .aload 4, 2, ([], .null)), (27, .getfield 141, 3, ([7, 7], .null)), 
  (30, .aload 4, 2, ([], .null)), (32, .invokevirtual 144, 3, ([63, 1, 0, 8], .null)), (35, .invokevirtual 109, 3, ([156, 3, 0, 7], .null)), (38, .aload_n 2, 1, ([], .null)), 
  (39, .aload_n 1, 1, ([], .null)), (40, .invokevirtual 113, 3, ([157, 2, 0, 7], .null)), (43, .aload_n 2, 1, ([], .null)), (44, .getfield 71, 3, ([6, 1], .null)), 
  (47, .aload_n 2, 1, ([], .null)), (48, .getfield 84, 3, ([6, 6], .null)), (51, .aload_n 2, 1, ([], .null)), (52, .getfield 87, 3, ([6, 7], .null)), (55, .iadd, 1, ([], .null)), 
  (56, .imul, 1, ([], .null)), (57, .istore 5, 2, ([], .null)), (59, .aload_n 0, 1, ([], .null)), (60, .iload 5, 2, ([], .null)), (62, .iconst 1, 1, ([], .null)), 
  (63, .iadd, 1, ([], .null)), (64, .invokevirtual 117, 3, ([160, 2, 0, 6], .null)), (67, .istore 6, 2, ([], .null)), (69, .aload_n 2, 1, ([], .null)), 
  (70, .iload 6, 2, ([], .null)), (72, .iconst 1, 1, ([], .null)), (73, .iadd, 1, ([], .null)), (74, .putfield 120, 3, ([6, 5, 0], .null)), (77, .aload_n 0, 1, ([], .null)), 
  (78, .getfield 9, 3, ([5, 0], .null)), (81, .iload_n 3, 1, ([], .null)), (82, .bipush 7, 2, ([], .null)), (84, .iload 5, 2, ([], .null)), 
  (86, .invokestatic 148, 3, ([112, 2, 0, 0], .null)), (89, .iload 6, 2, ([], .null)), (91, .iload_n 3, 1, ([], .null)), (92, .isub, 1, ([], .null)), 
  (93, .iconst 1, 1, ([], .null)), (94, .isub, 1, ([], .null)), (95, .invokestatic 129, 3, ([100, 2, 0, 0], .null)), (98, .lastore, 1, ([], .null)), 
  (99, .aload_n 0, 1, ([], .null)), (100, .getfield 9, 3, ([5, 0], .null)), (103, .iload 6, 2, ([], .null)), (105, .aload_n 2, 1, ([], .null)), 
  (106, .getfield 84, 3, ([6, 6], .null)), (109, .aload_n 2, 1, ([], .null)), (110, .getfield 87, 3, ([6, 7], .null)), (113, .invokestatic 123, 3, ([99, 2, 0, 0], .null)), 
  (116, .aload 4, 2, ([], .null)), (118, .getfield 141, 3, ([7, 7], .null)), (121, .invokestatic 129, 3, ([100, 2, 0, 0], .null)), (124, .lastore, 1, ([], .null)), 
  (125, .aload_n 0, 1, ([], .null)), (126, .aload_n 1, 1, ([], .null)), (127, .aload_n 2, 1, ([], .null)), (128, .invokevirtual 133, 3, ([161, 3, 0, 6], .null)), 
  (131, .return_, 1, ([], .null))
]
def mi_Ca_layStructs : pm_I := ((kc_Ca_layStructs, []), 7, ⟨"SegmentDesk$Canon", "layStructs", "([JLSegmentDesk$Level;I)V"⟩, prog_3_method_6_code, none, 3)
def kc_Ca_layPointers : List (Nat × Instr × Nat × pm_L) := [
  (0, .aload_n 1, 1, ([], .null)), (1, .aload_n 1, 1, ([], .null)), (2, .getfield 46, 3, ([6, 0], .null)), (5, .getfield 141, 3, ([7, 7], .null)), (8, .aload_n 1, 1, ([], .null)), 
  (9, .getfield 46, 3, ([6, 0], .null)), (12, .getfield 106, 3, ([7, 3], .null)), (15, .invokevirtual 109, 3, ([156, 3, 0, 7], .null)), (18, .aload_n 1, 1, ([], .null)), 
  (19, .iconst 1, 1, ([], .null)), (20, .putfield 87, 3, ([6, 7, 0], .null)), (23, .aload_n 1, 1, ([], .null)), (24, .aload_n 0, 1, ([], .null)), (25, .aload_n 1, 1, ([], .null)), 
  (26, .getfield 71, 3, ([6, 1], .null)), (29, .invokevirtual 117, 3, ([160, 2, 0, 6], .null)), (32, .putfield 120, 3, ([6, 5, 0], .null)), (35, .aload_n 0, 1, ([], .null)), 
  (36, .getfield 9, 3, ([5, 0], .null)), (39, .iload_n 2, 1, ([], .null)), (40, .bipush 6, 2, ([], .null)), (42, .aload_n 1, 1, ([], .null)), 
  (43, .getfield 71, 3, ([6, 1], .null)), (46, .invokestatic 148, 3, ([112, 2, 0, 0], .null)), (49, .aload_n 1, 1, ([], .null)), (50, .getfield 120, 3, ([6, 5], .null)), 
  (53, .iload_n 2, 1, ([], .null)), (54, .isub, 1, ([], .null)), (55, .iconst 1, 1, ([], .null)), (56, .isub, 1, ([], .null)), (57, .invokestatic 129, 3, ([100, 2, 0, 0], .null)), 
  (60, .lastore, 1, ([], .null)), (61, .return_, 1, ([], .null))
]
def mi_Ca_layPointers : pm_I := ((kc_Ca_layPointers, []), 3, ⟨"SegmentDesk$Canon", "layPointers", "(LSegmentDesk$Level;I)V"⟩, prog_3_method_7_code, none, 2)
def kc_Ca_layNumbers : List (Nat × Instr × Nat × pm_L) := [
  (0, .aload_n 2, 1, ([], .null)), (1, .getfield 46, 3, ([6, 0], .null)), (4, .astore 4, 2, ([], .null)), (6, .aload_n 2, 1, ([], .null)), (7, .iconst 0, 1, ([], .null)), 
  (8, .aload 4, 2, ([], .null)), (10, .getfield 106, 3, ([7, 3], .null)), (13, .invokevirtual 109, 3, ([156, 3, 0, 7], .null)), (16, .aload 4, 2, ([], .null)), 
  (18, .getfield 93, 3, ([7, 8], .null)), (21, .aload 4, 2, ([], .null)), (23, .getfield 141, 3, ([7, 7], .null)), (26, .invokestatic 151, 3, ([51, 2, 0, 0], .null)), 
  (29, .istore 5, 2, ([], .null)), (31, .aload_n 0, 1, ([], .null)), (32, .iload 5, 2, ([], .null)), (34, .invokevirtual 117, 3, ([160, 2, 0, 6], .null)), 
  (37, .istore 6, 2, ([], .null)), (39, .aload_n 0, 1, ([], .null)), (40, .getfield 9, 3, ([5, 0], .null)), (43, .iload_n 3, 1, ([], .null)), (44, .aload 4, 2, ([], .null)), 
  (46, .getfield 93, 3, ([7, 8], .null)), (49, .aload 4, 2, ([], .null)), (51, .getfield 141, 3, ([7, 7], .null)), (54, .invokestatic 148, 3, ([112, 2, 0, 0], .null)), 
  (57, .iload 6, 2, ([], .null)), (59, .iload_n 3, 1, ([], .null)), (60, .isub, 1, ([], .null)), (61, .iconst 1, 1, ([], .null)), (62, .isub, 1, ([], .null)), 
  (63, .invokestatic 129, 3, ([100, 2, 0, 0], .null)), (66, .lastore, 1, ([], .null)), (67, .aload_n 1, 1, ([], .null)), (68, .aload 4, 2, ([], .null)), 
  (70, .getfield 106, 3, ([7, 3], .null)), (73, .aload_n 0, 1, ([], .null)), (74, .getfield 9, 3, ([5, 0], .null)), (77, .iload 6, 2, ([], .null)), (79, .iload 5, 2, ([], .null)), 
  (81, .invokestatic 155, 3, ([4], .null)), (84, .aload 4, 2, ([], .null)), (86, .getfield 141, 3, ([7, 7], .null)), (89, .getstatic 161, 3, ([], .retAddr 1)), 
  (92, .aload 4, 2, ([], .null)), (94, .getfield 93, 3, ([7, 8], .null)), (97, .iaload, 1, ([], .null)), (98, .imul, 1, ([], .null)), (99, .bipush 64, 2, ([], .null)), 
  (101, .irem, 1, ([], .null)), (102, .istore 7, 2, ([], .null)), (104, .iload 7, 2, ([], .null)), (106, .ifCond .eq 23, 3, ([129], .null)), (109, .aload_n 0, 1, ([], .null)), 
  (110, .getfield 9, 3, ([5, 0], .null)), (113, .iload 6, 2, ([], .null)), (115, .iload 5, 2, ([], .null)), (117, .iadd, 1, ([], .null)), (118, .iconst 1, 1, ([], .null)), 
  (119, .isub, 1, ([], .null)), (120, .dup2, 1, ([], .null)), (121, .laload, 1, ([], .null)), (122, .iload 7, 2, ([], .null)), (124, .invokestatic 165, 3, ([71, 1, 0, 0], .null)), 
  (127, .land, 1, ([], .null)), (128, .lastore, 1, ([], .null)), (129, .return_, 1, ([], .null))
]
def mi_Ca_layNumbers : pm_I := ((kc_Ca_layNumbers, []), 8, ⟨"SegmentDesk$Canon", "layNumbers", "([JLSegmentDesk$Level;I)V"⟩, prog_3_method_8_code, none, 3)
def kc_L_count : List (Nat × Instr × Nat × pm_L) := [
  (0, .aload_n 2, 1, ([], .null)), (1, .iconst 0, 1, ([], .null)), (2, .aload_n 0, 1, ([], .null)), (3, .iload_n 1, 1, ([], .null)), 
  (4, .invokevirtual 97, 3, ([167, 2, 0, 1], .null)), (7, .i2l, 1, ([], .null)), (8, .lastore, 1, ([], .null)), (9, .goto 6, 3, ([15], .null)), (12, .astore_n 3, 1, ([], .null)), 
  (13, .iconst 1, 1, ([], .null)), (14, .ireturn, 1, ([], .null)), (15, .iconst 0, 1, ([], .null)), (16, .ireturn, 1, ([], .null))
]
def mi_L_count : pm_I := ((kc_L_count, [(0, 9, 13, 1, 3)]), 4, ⟨"SegmentDeskLaw", "count", "(LSegmentDesk;I[J)I"⟩, method_24_code, (some .int), 3)
def kc_D_count : List (Nat × Instr × Nat × pm_L) := [
  (0, .iload_n 1, 1, ([], .null)), (1, .tableswitch 111 0 8 #[51, 59, 67, 75, 91, 91, 91, 91, 103], 51, ([112, 52, 60, 68, 76, 92, 92, 92, 92, 104], .null)), 
  (52, .aload_n 0, 1, ([], .null)), (53, .getfield 12, 3, ([0, 0], .null)), (56, .getfield 289, 3, ([1, 2], .null)), (59, .ireturn, 1, ([], .null)), 
  (60, .aload_n 0, 1, ([], .null)), (61, .getfield 53, 3, ([0, 6], .null)), (64, .getfield 261, 3, ([8, 1], .null)), (67, .ireturn, 1, ([], .null)), 
  (68, .aload_n 0, 1, ([], .null)), (69, .getfield 19, 3, ([0, 1], .null)), (72, .getfield 93, 3, ([2, 0], .null)), (75, .ireturn, 1, ([], .null)), 
  (76, .aload_n 0, 1, ([], .null)), (77, .getfield 12, 3, ([0, 0], .null)), (80, .invokevirtual 202, 3, ([94, 1, 0, 2], .null)), (83, .ifCond .eq 7, 3, ([90], .null)), 
  (86, .iconst 1, 1, ([], .null)), (87, .goto 4, 3, ([91], .null)), (90, .iconst 0, 1, ([], .null)), (91, .ireturn, 1, ([], .null)), (92, .aload_n 0, 1, ([], .null)), 
  (93, .getfield 12, 3, ([0, 0], .null)), (96, .getfield 73, 3, ([1, 1], .null)), (99, .iload_n 1, 1, ([], .null)), (100, .iconst 4, 1, ([], .null)), (101, .isub, 1, ([], .null)), 
  (102, .iaload, 1, ([], .null)), (103, .ireturn, 1, ([], .null)), (104, .aload_n 0, 1, ([], .null)), (105, .getfield 12, 3, ([0, 0], .null)), 
  (108, .getfield 88, 3, ([1, 3], .null)), (111, .ireturn, 1, ([], .null)), (112, .new 192, 3, ([1, 1, 6], .null))
]
def mi_D_count : pm_I := ((kc_D_count, []), 2, ⟨"SegmentDesk", "count", "(I)I"⟩, prog_1_method_24_code, (some .int), 1)
def kc_M_init : List (Nat × Instr × Nat × pm_L) := [
  (0, .aload_n 0, 1, ([], .null)), (1, .invokespecial 1, 3, ([0], .null)), (4, .aload_n 0, 1, ([], .null)), (5, .sipush 256, 3, ([], .null)), 
  (8, .newarray .long, 2, ([1], .null)), (10, .putfield 7, 3, ([9, 0, 2], .null)), (13, .aload_n 0, 1, ([], .null)), (14, .bipush 64, 2, ([], .null)), 
  (16, .newarray .long, 2, ([1], .null)), (18, .putfield 13, 3, ([9, 1, 2], .null)), (21, .aload_n 0, 1, ([], .null)), (22, .sipush 300, 3, ([], .null)), 
  (25, .newarray .long, 2, ([1], .null)), (27, .putfield 16, 3, ([9, 2, 2], .null)), (30, .aload_n 0, 1, ([], .null)), (31, .iconst 4, 1, ([], .null)), 
  (32, .newarray .int, 2, ([0], .null)), (34, .putfield 19, 3, ([9, 3, 2], .null)), (37, .aload_n 0, 1, ([], .null)), (38, .sipush 1500, 3, ([], .null)), 
  (41, .newarray .int, 2, ([0], .null)), (43, .putfield 23, 3, ([9, 4, 2], .null)), (46, .aload_n 0, 1, ([], .null)), (47, .sipush 2600, 3, ([], .null)), 
  (50, .newarray .int, 2, ([0], .null)), (52, .putfield 26, 3, ([9, 5, 2], .null)), (55, .aload_n 0, 1, ([], .null)), (56, .iconst 1, 1, ([], .null)), 
  (57, .putfield 29, 3, ([9, 6, 0], .null)), (60, .aload_n 0, 1, ([], .null)), (61, .sipush 1000, 3, ([], .null)), (64, .putfield 33, 3, ([9, 8, 0], .null)), 
  (67, .aload_n 0, 1, ([], .null)), (68, .bipush 17, 2, ([], .null)), (70, .newarray .int, 2, ([0], .null)), (72, .putfield 36, 3, ([9, 12, 2], .null)), 
  (75, .aload_n 0, 1, ([], .null)), (76, .bipush 17, 2, ([], .null)), (78, .newarray .int, 2, ([0], .null)), (80, .putfield 39, 3, ([9, 13, 2], .null)), 
  (83, .aload_n 0, 1, ([], .null)), (84, .bipush 17, 2, ([], .null)), (86, .newarray .int, 2, ([0], .null)), (88, .putfield 42, 3, ([9, 14, 2], .null)), 
  (91, .aload_n 0, 1, ([], .null)), (92, .bipush 17, 2, ([], .null)), (94, .newarray .int, 2, ([0], .null)), (96, .putfield 45, 3, ([9, 15, 2], .null)), 
  (99, .aload_n 0, 1, ([], .null)), (100, .bipush 17, 2, ([], .null)), (102, .newarray .int, 2, ([0], .null)), (104, .putfield 48, 3, ([9, 16, 2], .null)), 
  (107, .aload_n 0, 1, ([], .null)), (108, .bipush 17, 2, ([], .null)), (110, .newarray .int, 2, ([0], .null)), (112, .putfield 51, 3, ([9, 17, 2], .null)), 
  (115, .aload_n 0, 1, ([], .null)), (116, .bipush 17, 2, ([], .null)), (118, .newarray .int, 2, ([0], .null)), (120, .putfield 54, 3, ([9, 18, 2], .null)), 
  (123, .aload_n 0, 1, ([], .null)), (124, .bipush 17, 2, ([], .null)), (126, .newarray .int, 2, ([0], .null)), (128, .putfield 57, 3, ([9, 19, 2], .null)), 
  (131, .aload_n 0, 1, ([], .null)), (132, .bipush 17, 2, ([], .null)), (134, .newarray .int, 2, ([0], .null)), (136, .putfield 60, 3, ([9, 20, 2], .null)), 
  (139, .aload_n 0, 1, ([], .null)), (140, .bipush 17, 2, ([], .null)), (142, .newarray .int, 2, ([0], .null)), (144, .putfield 63, 3, ([9, 21, 2], .null)), 
  (147, .aload_n 0, 1, ([], .null)), (148, .bipush 80, 2, ([], .null)), (150, .newarray .int, 2, ([0], .null)), (152, .putfield 66, 3, ([9, 22, 2], .null)), 
  (155, .aload_n 0, 1, ([], .null)), (156, .bipush 80, 2, ([], .null)), (158, .newarray .int, 2, ([0], .null)), (160, .putfield 69, 3, ([9, 23, 2], .null)), 
  (163, .aload_n 0, 1, ([], .null)), (164, .bipush 80, 2, ([], .null)), (166, .newarray .int, 2, ([0], .null)), (168, .putfield 72, 3, ([9, 24, 2], .null)), 
  (171, .aload_n 0, 1, ([], .null)), (172, .bipush 80, 2, ([], .null)), (174, .newarray .int, 2, ([0], .null)), (176, .putfield 75, 3, ([9, 25, 2], .null)), 
  (179, .return_, 1, ([], .null))
]
def mi_M_init : pm_I := ((kc_M_init, []), 1, ⟨"SegmentDeskModel", "<init>", "()V"⟩, prog_13_method_1_code, none, 0)
def kc_M_thrown : List (Nat × Instr × Nat × pm_L) := [
  (0, .aload_n 0, 1, ([], .null)), (1, .getfield 78, 3, ([9, 10], .null)), (4, .ireturn, 1, ([], .null))
]
def mi_M_thrown : pm_I := ((kc_M_thrown, []), 1, ⟨"SegmentDeskModel", "thrown", "()I"⟩, prog_13_method_2_code, (some .int), 0)
def kc_M_segment : List (Nat × Instr × Nat × pm_L) := [
  (0, .aload_n 0, 1, ([], .null)), (1, .iconst 0, 1, ([], .null)), (2, .putfield 78, 3, ([9, 10, 0], .null)), (5, .iload_n 1, 1, ([], .null)), (6, .i2l, 1, ([], .null)), 
  (7, .lconst 1, 1, ([], .null)), (8, .ldc2_w 85, 3, ([], .long 4)), (11, .invokestatic 87, 3, ([171, 3, 0, 0], .null)), (14, .ifCond .eq 72, 3, ([86], .null)), 
  (17, .iload_n 2, 1, ([], .null)), (18, .i2l, 1, ([], .null)), (19, .lconst 0, 1, ([], .null)), (20, .ldc2_w 91, 3, ([], .long 64)), 
  (23, .invokestatic 87, 3, ([171, 3, 0, 0], .null)), (26, .ifCond .eq 60, 3, ([86], .null)), (29, .iload_n 1, 1, ([], .null)), (30, .iconst 2, 1, ([], .null)), 
  (31, .if_icmp .lt 15, 3, ([46], .null)), (34, .iload_n 3, 1, ([], .null)), (35, .i2l, 1, ([], .null)), (36, .lconst 0, 1, ([], .null)), (37, .ldc2_w 91, 3, ([], .long 64)), 
  (40, .invokestatic 87, 3, ([171, 3, 0, 0], .null)), (43, .ifCond .eq 43, 3, ([86], .null)), (46, .iload_n 1, 1, ([], .null)), (47, .iconst 3, 1, ([], .null)), 
  (48, .if_icmp .lt 16, 3, ([64], .null)), (51, .iload 4, 2, ([], .null)), (53, .i2l, 1, ([], .null)), (54, .lconst 0, 1, ([], .null)), (55, .ldc2_w 91, 3, ([], .long 64)), 
  (58, .invokestatic 87, 3, ([171, 3, 0, 0], .null)), (61, .ifCond .eq 25, 3, ([86], .null)), (64, .iload_n 1, 1, ([], .null)), (65, .iconst 4, 1, ([], .null)), 
  (66, .if_icmp .lt 16, 3, ([82], .null)), (69, .iload 5, 2, ([], .null)), (71, .i2l, 1, ([], .null)), (72, .lconst 0, 1, ([], .null)), (73, .ldc2_w 91, 3, ([], .long 64)), 
  (76, .invokestatic 87, 3, ([171, 3, 0, 0], .null)), (79, .ifCond .eq 7, 3, ([86], .null)), (82, .iconst 1, 1, ([], .null)), (83, .goto 4, 3, ([87], .null)), 
  (86, .iconst 0, 1, ([], .null)), (87, .istore 6, 2, ([], .null)), (89, .aload_n 0, 1, ([], .null)), (90, .iload 6, 2, ([], .null)), (92, .ifCond .ne 7, 3, ([99], .null)), 
  (95, .iconst 1, 1, ([], .null)), (96, .goto 4, 3, ([100], .null)), (99, .iconst 0, 1, ([], .null)), (100, .iconst 1, 1, ([], .null)), 
  (101, .invokevirtual 93, 3, ([172, 3, 0, 10], .null)), (104, .ifCond .eq 4, 3, ([108], .null)), (107, .return_, 1, ([], .null)), (108, .aload_n 0, 1, ([], .null)), 
  (109, .iload_n 1, 1, ([], .null)), (110, .putfield 29, 3, ([9, 6, 0], .null)), (113, .aload_n 0, 1, ([], .null)), (114, .iconst 0, 1, ([], .null)), 
  (115, .iload_n 2, 1, ([], .null)), (116, .invokevirtual 97, 3, ([173, 3, 0, 10], .null)), (119, .aload_n 0, 1, ([], .null)), (120, .iconst 1, 1, ([], .null)), 
  (121, .iload_n 1, 1, ([], .null)), (122, .iconst 1, 1, ([], .null)), (123, .if_icmp .le 7, 3, ([130], .null)), (126, .iload_n 3, 1, ([], .null)), 
  (127, .goto 4, 3, ([131], .null)), (130, .iconst 0, 1, ([], .null)), (131, .invokevirtual 97, 3, ([173, 3, 0, 10], .null)), (134, .aload_n 0, 1, ([], .null)), 
  (135, .iconst 2, 1, ([], .null)), (136, .iload_n 1, 1, ([], .null)), (137, .iconst 2, 1, ([], .null)), (138, .if_icmp .le 8, 3, ([146], .null)), (141, .iload 4, 2, ([], .null)), 
  (143, .goto 4, 3, ([147], .null)), (146, .iconst 0, 1, ([], .null)), (147, .invokevirtual 97, 3, ([173, 3, 0, 10], .null)), (150, .aload_n 0, 1, ([], .null)), 
  (151, .iconst 3, 1, ([], .null)), (152, .iload_n 1, 1, ([], .null)), (153, .iconst 3, 1, ([], .null)), (154, .if_icmp .le 8, 3, ([162], .null)), (157, .iload 5, 2, ([], .null)), 
  (159, .goto 4, 3, ([163], .null)), (162, .iconst 0, 1, ([], .null)), (163, .invokevirtual 97, 3, ([173, 3, 0, 10], .null)), (166, .aload_n 0, 1, ([], .null)), 
  (167, .iconst 0, 1, ([], .null)), (168, .putfield 101, 3, ([9, 11, 4], .null)), (171, .aload_n 0, 1, ([], .null)), (172, .invokevirtual 105, 3, ([174, 1, 0, 10], .null)), 
  (175, .return_, 1, ([], .null))
]
def mi_M_segment : pm_I := ((kc_M_segment, []), 7, ⟨"SegmentDeskModel", "segment", "(IIIII)V"⟩, prog_13_method_9_code, none, 5)
def kc_M_in : List (Nat × Instr × Nat × pm_L) := [
  (0, .lload_n 0, 1, ([], .null)), (1, .lload_n 2, 1, ([], .null)), (2, .lcmp, 1, ([], .null)), (3, .ifCond .lt 14, 3, ([17], .null)), (6, .lload_n 0, 1, ([], .null)), 
  (7, .lload 4, 2, ([], .null)), (9, .lcmp, 1, ([], .null)), (10, .ifCond .gt 7, 3, ([17], .null)), (13, .iconst 1, 1, ([], .null)), (14, .goto 4, 3, ([18], .null)), 
  (17, .iconst 0, 1, ([], .null)), (18, .ireturn, 1, ([1], .null))
]
def mi_M_in : pm_I := ((kc_M_in, []), 6, ⟨"SegmentDeskModel", "in", "(JJJ)Z"⟩, prog_13_method_3_code, (some .boolean), 3)
def kc_M_fails : List (Nat × Instr × Nat × pm_L) := [
  (0, .iload_n 1, 1, ([], .null)), (1, .ifCond .eq 15, 3, ([16], .null)), (4, .aload_n 0, 1, ([], .null)), (5, .getfield 78, 3, ([9, 10], .null)), 
  (8, .ifCond .ne 8, 3, ([16], .null)), (11, .aload_n 0, 1, ([], .null)), (12, .iload_n 2, 1, ([], .null)), (13, .putfield 78, 3, ([9, 10, 0], .null)), 
  (16, .aload_n 0, 1, ([], .null)), (17, .getfield 78, 3, ([9, 10], .null)), (20, .ifCond .eq 7, 3, ([27], .null)), (23, .iconst 1, 1, ([], .null)), 
  (24, .goto 4, 3, ([28], .null)), (27, .iconst 0, 1, ([], .null)), (28, .ireturn, 1, ([1], .null))
]
def mi_M_fails : pm_I := ((kc_M_fails, []), 3, ⟨"SegmentDeskModel", "fails", "(ZI)Z"⟩, prog_13_method_4_code, (some .boolean), 2)
def kc_M_lay : List (Nat × Instr × Nat × pm_L) := [
  (0, .aload_n 0, 1, ([], .null)), (1, .getfield 19, 3, ([9, 3], .null)), (4, .iload_n 1, 1, ([], .null)), (5, .iload_n 2, 1, ([], .null)), (6, .iastore, 1, ([], .null)), 
  (7, .iconst 0, 1, ([], .null)), (8, .istore_n 3, 1, ([], .null)), (9, .iload_n 3, 1, ([], .null)), (10, .bipush 64, 2, ([], .null)), (12, .if_icmp .ge 21, 3, ([33], .null)), 
  (15, .aload_n 0, 1, ([], .null)), (16, .getfield 7, 3, ([9, 0], .null)), (19, .bipush 64, 2, ([], .null)), (21, .iload_n 1, 1, ([], .null)), (22, .imul, 1, ([], .null)), 
  (23, .iload_n 3, 1, ([], .null)), (24, .iadd, 1, ([], .null)), (25, .lconst 0, 1, ([], .null)), (26, .lastore, 1, ([], .null)), (27, .iinc 3 1, 3, ([], .null)), 
  (30, .goto (-21), 3, ([9], .null)), (33, .return_, 1, ([], .null))
]
def mi_M_lay : pm_I := ((kc_M_lay, []), 4, ⟨"SegmentDeskModel", "lay", "(II)V"⟩, prog_13_method_8_code, none, 2)
def kc_M_forget : List (Nat × Instr × Nat × pm_L) := [
  (0, .iconst 0, 1, ([], .null)), (1, .istore_n 1, 1, ([], .null)), (2, .iload_n 1, 1, ([], .null)), (3, .bipush 17, 2, ([], .null)), (5, .if_icmp .ge 14, 3, ([19], .null)), 
  (8, .aload_n 0, 1, ([], .null)), (9, .iload_n 1, 1, ([], .null)), (10, .invokevirtual 81, 3, ([175, 2, 0, 10], .null)), (13, .iinc 1 1, 3, ([], .null)), 
  (16, .goto (-14), 3, ([2], .null)), (19, .return_, 1, ([], .null))
]
def mi_M_forget : pm_I := ((kc_M_forget, []), 2, ⟨"SegmentDeskModel", "forget", "()V"⟩, prog_13_method_5_code, none, 0)
def kc_M_clear : List (Nat × Instr × Nat × pm_L) := [
  (0, .aload_n 0, 1, ([], .null)), (1, .getfield 36, 3, ([9, 12], .null)), (4, .iload_n 1, 1, ([], .null)), (5, .iconst 0, 1, ([], .null)), (6, .iastore, 1, ([], .null)), 
  (7, .aload_n 0, 1, ([], .null)), (8, .getfield 39, 3, ([9, 13], .null)), (11, .iload_n 1, 1, ([], .null)), (12, .iconst 0, 1, ([], .null)), (13, .iastore, 1, ([], .null)), 
  (14, .aload_n 0, 1, ([], .null)), (15, .getfield 42, 3, ([9, 14], .null)), (18, .iload_n 1, 1, ([], .null)), (19, .iconst 0, 1, ([], .null)), (20, .iastore, 1, ([], .null)), 
  (21, .aload_n 0, 1, ([], .null)), (22, .getfield 45, 3, ([9, 15], .null)), (25, .iload_n 1, 1, ([], .null)), (26, .iconst 0, 1, ([], .null)), (27, .iastore, 1, ([], .null)), 
  (28, .aload_n 0, 1, ([], .null)), (29, .getfield 48, 3, ([9, 16], .null)), (32, .iload_n 1, 1, ([], .null)), (33, .iconst 0, 1, ([], .null)), (34, .iastore, 1, ([], .null)), 
  (35, .aload_n 0, 1, ([], .null)), (36, .getfield 51, 3, ([9, 17], .null)), (39, .iload_n 1, 1, ([], .null)), (40, .iconst 0, 1, ([], .null)), (41, .iastore, 1, ([], .null)), 
  (42, .aload_n 0, 1, ([], .null)), (43, .getfield 54, 3, ([9, 18], .null)), (46, .iload_n 1, 1, ([], .null)), (47, .iconst 0, 1, ([], .null)), (48, .iastore, 1, ([], .null)), 
  (49, .aload_n 0, 1, ([], .null)), (50, .getfield 57, 3, ([9, 19], .null)), (53, .iload_n 1, 1, ([], .null)), (54, .iconst 0, 1, ([], .null)), (55, .iastore, 1, ([], .null)), 
  (56, .aload_n 0, 1, ([], .null)), (57, .getfield 60, 3, ([9, 20], .null)), (60, .iload_n 1, 1, ([], .null)), (61, .iconst 0, 1, ([], .null)), (62, .iastore, 1, ([], .null)), 
  (63, .aload_n 0, 1, ([], .null)), (64, .getfield 63, 3, ([9, 21], .null)), (67, .iload_n 1, 1, ([], .null)), (68, .iconst 0, 1, ([], .null)), (69, .iastore, 1, ([], .null)), 
  (70, .return_, 1, ([], .null))
]
def mi_M_clear : pm_I := ((kc_M_clear, []), 2, ⟨"SegmentDeskModel", "clear", "(I)V"⟩, prog_13_method_6_code, none, 1)
def kc_M_word : List (Nat × Instr × Nat × pm_L) := [
  (0, .aload_n 0, 1, ([], .null)), (1, .iconst 0, 1, ([], .null)), (2, .putfield 78, 3, ([9, 10, 0], .null)), (5, .aload_n 0, 1, ([], .null)), (6, .aload_n 0, 1, ([], .null)), 
  (7, .iload_n 1, 1, ([], .null)), (8, .iload_n 2, 1, ([], .null)), (9, .i2l, 1, ([], .null)), (10, .invokevirtual 110, 3, ([177, 3, 0, 10], .null)), 
  (13, .ifCond .ne 7, 3, ([20], .null)), (16, .iconst 1, 1, ([], .null)), (17, .goto 4, 3, ([21], .null)), (20, .iconst 0, 1, ([], .null)), (21, .iconst 1, 1, ([], .null)), 
  (22, .invokevirtual 93, 3, ([172, 3, 0, 10], .null)), (25, .ifCond .eq 5, 3, ([30], .null)), (28, .lconst 0, 1, ([], .null)), (29, .lreturn, 1, ([], .null)), 
  (30, .aload_n 0, 1, ([], .null)), (31, .getfield 7, 3, ([9, 0], .null)), (34, .bipush 64, 2, ([], .null)), (36, .iload_n 1, 1, ([], .null)), (37, .imul, 1, ([], .null)), 
  (38, .iload_n 2, 1, ([], .null)), (39, .iadd, 1, ([], .null)), (40, .laload, 1, ([], .null)), (41, .lstore 5, 2, ([], .null)), (43, .aload_n 0, 1, ([], .null)), 
  (44, .getfield 7, 3, ([9, 0], .null)), (47, .bipush 64, 2, ([], .null)), (49, .iload_n 1, 1, ([], .null)), (50, .imul, 1, ([], .null)), (51, .iload_n 2, 1, ([], .null)), 
  (52, .iadd, 1, ([], .null)), (53, .lload_n 3, 1, ([], .null)), (54, .lastore, 1, ([], .null)), (55, .aload_n 0, 1, ([], .null)), (56, .iconst 0, 1, ([], .null)), 
  (57, .putfield 101, 3, ([9, 11, 4], .null)), (60, .lload 5, 2, ([], .null)), (62, .lreturn, 1, ([], .null))
]
def mi_M_word : pm_I := ((kc_M_word, []), 7, ⟨"SegmentDeskModel", "word", "(IIJ)J"⟩, prog_13_method_11_code, (some .long), 3)
def kc_M_has : List (Nat × Instr × Nat × pm_L) := [
  (0, .iload_n 1, 1, ([], .null)), (1, .i2l, 1, ([], .null)), (2, .lconst 0, 1, ([], .null)), (3, .aload_n 0, 1, ([], .null)), (4, .getfield 29, 3, ([9, 6], .null)), 
  (7, .iconst 1, 1, ([], .null)), (8, .isub, 1, ([], .null)), (9, .i2l, 1, ([], .null)), (10, .invokestatic 87, 3, ([171, 3, 0, 0], .null)), 
  (13, .ifCond .eq 40, 3, ([53], .null)), (16, .lload_n 2, 1, ([], .null)), (17, .lconst 0, 1, ([], .null)), (18, .aload_n 0, 1, ([], .null)), 
  (19, .getfield 19, 3, ([9, 3], .null)), (22, .iload_n 1, 1, ([], .null)), (23, .i2l, 1, ([], .null)), (24, .lconst 0, 1, ([], .null)), (25, .ldc2_w 108, 3, ([], .long 3)), 
  (28, .invokestatic 87, 3, ([171, 3, 0, 0], .null)), (31, .ifCond .eq 7, 3, ([38], .null)), (34, .iload_n 1, 1, ([], .null)), (35, .goto 4, 3, ([39], .null)), 
  (38, .iconst 0, 1, ([], .null)), (39, .iaload, 1, ([], .null)), (40, .iconst 1, 1, ([], .null)), (41, .isub, 1, ([], .null)), (42, .i2l, 1, ([], .null)), 
  (43, .invokestatic 87, 3, ([171, 3, 0, 0], .null)), (46, .ifCond .eq 7, 3, ([53], .null)), (49, .iconst 1, 1, ([], .null)), (50, .goto 4, 3, ([54], .null)), 
  (53, .iconst 0, 1, ([], .null)), (54, .ireturn, 1, ([1], .null))
]
def mi_M_has : pm_I := ((kc_M_has, []), 4, ⟨"SegmentDeskModel", "has", "(IJ)Z"⟩, prog_13_method_10_code, (some .boolean), 2)
def kc_M_at : List (Nat × Instr × Nat × pm_L) := [
  (0, .aload_n 0, 1, ([], .null)), (1, .iconst 0, 1, ([], .null)), (2, .putfield 78, 3, ([9, 10, 0], .null)), (5, .aload_n 0, 1, ([], .null)), (6, .aload_n 0, 1, ([], .null)), 
  (7, .iload_n 1, 1, ([], .null)), (8, .iload_n 2, 1, ([], .null)), (9, .i2l, 1, ([], .null)), (10, .invokevirtual 110, 3, ([177, 3, 0, 10], .null)), 
  (13, .ifCond .ne 7, 3, ([20], .null)), (16, .iconst 1, 1, ([], .null)), (17, .goto 4, 3, ([21], .null)), (20, .iconst 0, 1, ([], .null)), (21, .iconst 1, 1, ([], .null)), 
  (22, .invokevirtual 93, 3, ([172, 3, 0, 10], .null)), (25, .ifCond .eq 7, 3, ([32], .null)), (28, .lconst 0, 1, ([], .null)), (29, .goto 14, 3, ([43], .null)), 
  (32, .aload_n 0, 1, ([], .null)), (33, .getfield 7, 3, ([9, 0], .null)), (36, .bipush 64, 2, ([], .null)), (38, .iload_n 1, 1, ([], .null)), (39, .imul, 1, ([], .null)), 
  (40, .iload_n 2, 1, ([], .null)), (41, .iadd, 1, ([], .null)), (42, .laload, 1, ([], .null)), (43, .lreturn, 1, ([], .null))
]
def mi_M_at : pm_I := ((kc_M_at, []), 3, ⟨"SegmentDeskModel", "at", "(II)J"⟩, prog_13_method_12_code, (some .long), 2)
def kc_M_allow : List (Nat × Instr × Nat × pm_L) := [
  (0, .aload_n 0, 1, ([], .null)), (1, .iconst 0, 1, ([], .null)), (2, .putfield 78, 3, ([9, 10, 0], .null)), (5, .aload_n 0, 1, ([], .null)), (6, .iload_n 1, 1, ([], .null)), 
  (7, .i2l, 1, ([], .null)), (8, .lconst 0, 1, ([], .null)), (9, .ldc2_w 114, 3, ([], .long 100000)), (12, .invokestatic 87, 3, ([171, 3, 0, 0], .null)), 
  (15, .ifCond .ne 7, 3, ([22], .null)), (18, .iconst 1, 1, ([], .null)), (19, .goto 4, 3, ([23], .null)), (22, .iconst 0, 1, ([], .null)), (23, .iconst 1, 1, ([], .null)), 
  (24, .invokevirtual 93, 3, ([172, 3, 0, 10], .null)), (27, .ifCond .eq 5, 3, ([32], .null)), (30, .iconst 0, 1, ([], .null)), (31, .ireturn, 1, ([], .null)), 
  (32, .aload_n 0, 1, ([], .null)), (33, .getfield 33, 3, ([9, 8], .null)), (36, .istore_n 2, 1, ([], .null)), (37, .aload_n 0, 1, ([], .null)), (38, .iload_n 1, 1, ([], .null)), 
  (39, .putfield 33, 3, ([9, 8, 0], .null)), (42, .iload_n 2, 1, ([], .null)), (43, .ireturn, 1, ([], .null))
]
def mi_M_allow : pm_I := ((kc_M_allow, []), 3, ⟨"SegmentDeskModel", "allow", "(I)I"⟩, prog_13_method_13_code, (some .int), 1)
def kc_M_root : List (Nat × Instr × Nat × pm_L) := [
  (0, .aload_n 0, 1, ([], .null)), (1, .iconst 0, 1, ([], .null)), (2, .putfield 78, 3, ([9, 10, 0], .null)), (5, .aload_n 0, 1, ([], .null)), (6, .aload_n 0, 1, ([], .null)), 
  (7, .iload_n 1, 1, ([], .null)), (8, .invokevirtual 157, 3, ([181, 2, 0, 10], .null)), (11, .ifCond .eq 15, 3, ([26], .null)), (14, .iload_n 2, 1, ([], .null)), 
  (15, .i2l, 1, ([], .null)), (16, .lconst 0, 1, ([], .null)), (17, .ldc2_w 91, 3, ([], .long 64)), (20, .invokestatic 87, 3, ([171, 3, 0, 0], .null)), 
  (23, .ifCond .ne 7, 3, ([30], .null)), (26, .iconst 1, 1, ([], .null)), (27, .goto 4, 3, ([31], .null)), (30, .iconst 0, 1, ([], .null)), (31, .iconst 1, 1, ([], .null)), 
  (32, .invokevirtual 93, 3, ([172, 3, 0, 10], .null)), (35, .ifCond .ne 25, 3, ([60], .null)), (38, .aload_n 0, 1, ([], .null)), (39, .aload_n 0, 1, ([], .null)), 
  (40, .getfield 19, 3, ([9, 3], .null)), (43, .iconst 0, 1, ([], .null)), (44, .iaload, 1, ([], .null)), (45, .ifCond .ne 7, 3, ([52], .null)), (48, .iconst 1, 1, ([], .null)), 
  (49, .goto 4, 3, ([53], .null)), (52, .iconst 0, 1, ([], .null)), (53, .iconst 2, 1, ([], .null)), (54, .invokevirtual 93, 3, ([172, 3, 0, 10], .null)), 
  (57, .ifCond .eq 5, 3, ([62], .null)), (60, .iconst 0, 1, ([], .null)), (61, .ireturn, 1, ([], .null)), (62, .aload_n 0, 1, ([], .null)), (63, .bipush 16, 2, ([], .null)), 
  (65, .iconst 0, 1, ([], .null)), (66, .iconst 0, 1, ([], .null)), (67, .iload_n 2, 1, ([], .null)), (68, .invokevirtual 161, 3, ([182, 5, 0, 10], .null)), 
  (71, .istore_n 3, 1, ([], .null)), (72, .aload_n 0, 1, ([], .null)), (73, .iload_n 3, 1, ([], .null)), (74, .ifCond .ne 7, 3, ([81], .null)), (77, .iconst 1, 1, ([], .null)), 
  (78, .goto 4, 3, ([82], .null)), (81, .iconst 0, 1, ([], .null)), (82, .iconst 2, 1, ([], .null)), (83, .invokevirtual 93, 3, ([172, 3, 0, 10], .null)), 
  (86, .ifCond .eq 5, 3, ([91], .null)), (89, .iconst 0, 1, ([], .null)), (90, .ireturn, 1, ([], .null)), (91, .aload_n 0, 1, ([], .null)), (92, .iload_n 1, 1, ([], .null)), 
  (93, .bipush 16, 2, ([], .null)), (95, .invokevirtual 165, 3, ([191, 3, 0, 10], .null)), (98, .aload_n 0, 1, ([], .null)), (99, .getfield 36, 3, ([9, 12], .null)), 
  (102, .iload_n 1, 1, ([], .null)), (103, .iaload, 1, ([], .null)), (104, .ireturn, 1, ([], .null))
]
def mi_M_root : pm_I := ((kc_M_root, []), 4, ⟨"SegmentDeskModel", "root", "(II)I"⟩, prog_13_method_24_code, (some .int), 2)
def kc_M_isCursor : List (Nat × Instr × Nat × pm_L) := [
  (0, .iload_n 1, 1, ([], .null)), (1, .i2l, 1, ([], .null)), (2, .lconst 0, 1, ([], .null)), (3, .ldc2_w 155, 3, ([], .long 15)), 
  (6, .invokestatic 87, 3, ([171, 3, 0, 0], .null)), (9, .ireturn, 1, ([1], .null))
]
def mi_M_isCursor : pm_I := ((kc_M_isCursor, []), 2, ⟨"SegmentDeskModel", "isCursor", "(I)Z"⟩, prog_13_method_23_code, (some .boolean), 1)
def kc_M_followed : List (Nat × Instr × Nat × pm_L) := [
  (0, .aload_n 0, 1, ([], .null)), (1, .getfield 7, 3, ([9, 0], .null)), (4, .bipush 64, 2, ([], .null)), (6, .iload_n 2, 1, ([], .null)), (7, .imul, 1, ([], .null)), 
  (8, .iload_n 3, 1, ([], .null)), (9, .iadd, 1, ([], .null)), (10, .laload, 1, ([], .null)), (11, .lstore 5, 2, ([], .null)), (13, .iload_n 3, 1, ([], .null)), 
  (14, .iconst 1, 1, ([], .null)), (15, .iadd, 1, ([], .null)), (16, .i2l, 1, ([], .null)), (17, .lstore 7, 2, ([], .null)), (19, .aload_n 0, 1, ([], .null)), 
  (20, .iload_n 1, 1, ([], .null)), (21, .invokevirtual 81, 3, ([175, 2, 0, 10], .null)), (24, .lload 5, 2, ([], .null)), (26, .lconst 0, 1, ([], .null)), 
  (27, .lcmp, 1, ([], .null)), (28, .ifCond .ne 5, 3, ([33], .null)), (31, .iconst 1, 1, ([], .null)), (32, .ireturn, 1, ([1], .null)), (33, .lload 5, 2, ([], .null)), 
  (35, .ldc2_w 108, 3, ([], .long 3)), (38, .land, 1, ([], .null)), (39, .ldc2_w 108, 3, ([], .long 3)), (42, .lcmp, 1, ([], .null)), (43, .ifCond .ne 5, 3, ([48], .null)), 
  (46, .iconst 0, 1, ([], .null)), (47, .ireturn, 1, ([1], .null)), (48, .iload_n 2, 1, ([], .null)), (49, .istore 9, 2, ([], .null)), (51, .lload 5, 2, ([], .null)), 
  (53, .ldc2_w 108, 3, ([], .long 3)), (56, .land, 1, ([], .null)), (57, .ldc2_w 126, 3, ([], .long 2)), (60, .lcmp, 1, ([], .null)), (61, .ifCond .ne 223, 3, ([284], .null)), 
  (64, .lload 5, 2, ([], .null)), (66, .iconst 3, 1, ([], .null)), (67, .lushr, 1, ([], .null)), (68, .ldc2_w 128, 3, ([], .long 536870911)), (71, .land, 1, ([], .null)), 
  (72, .lstore 10, 2, ([], .null)), (74, .lload 5, 2, ([], .null)), (76, .bipush 32, 2, ([], .null)), (78, .lushr, 1, ([], .null)), (79, .lstore 12, 2, ([], .null)), 
  (81, .lload 5, 2, ([], .null)), (83, .iconst 2, 1, ([], .null)), (84, .lushr, 1, ([], .null)), (85, .lconst 1, 1, ([], .null)), (86, .land, 1, ([], .null)), 
  (87, .lconst 1, 1, ([], .null)), (88, .lcmp, 1, ([], .null)), (89, .ifCond .ne 7, 3, ([96], .null)), (92, .iconst 1, 1, ([], .null)), (93, .goto 4, 3, ([97], .null)), 
  (96, .iconst 0, 1, ([], .null)), (97, .istore 14, 2, ([], .null)), (99, .lload 12, 2, ([], .null)), (101, .aload_n 0, 1, ([], .null)), (102, .getfield 29, 3, ([9, 6], .null)), 
  (105, .i2l, 1, ([], .null)), (106, .lcmp, 1, ([], .null)), (107, .ifCond .ge 30, 3, ([137], .null)), (110, .lload 10, 2, ([], .null)), (112, .iload 14, 2, ([], .null)), 
  (114, .ifCond .eq 7, 3, ([121], .null)), (117, .iconst 1, 1, ([], .null)), (118, .goto 4, 3, ([122], .null)), (121, .iconst 0, 1, ([], .null)), (122, .i2l, 1, ([], .null)), 
  (123, .ladd, 1, ([], .null)), (124, .aload_n 0, 1, ([], .null)), (125, .getfield 19, 3, ([9, 3], .null)), (128, .lload 12, 2, ([], .null)), (130, .l2i, 1, ([], .null)), 
  (131, .iaload, 1, ([], .null)), (132, .i2l, 1, ([], .null)), (133, .lcmp, 1, ([], .null)), (134, .ifCond .lt 5, 3, ([139], .null)), (137, .iconst 0, 1, ([], .null)), 
  (138, .ireturn, 1, ([1], .null)), (139, .lload 12, 2, ([], .null)), (141, .l2i, 1, ([], .null)), (142, .istore 9, 2, ([], .null)), (144, .aload_n 0, 1, ([], .null)), 
  (145, .getfield 7, 3, ([9, 0], .null)), (148, .bipush 64, 2, ([], .null)), (150, .iload 9, 2, ([], .null)), (152, .imul, 1, ([], .null)), (153, .lload 10, 2, ([], .null)), 
  (155, .l2i, 1, ([], .null)), (156, .iadd, 1, ([], .null)), (157, .laload, 1, ([], .null)), (158, .lstore 15, 2, ([], .null)), (160, .iload 14, 2, ([], .null)), 
  (162, .ifCond .ne 36, 3, ([198], .null)), (165, .lload 15, 2, ([], .null)), (167, .lconst 0, 1, ([], .null)), (168, .lcmp, 1, ([], .null)), 
  (169, .ifCond .eq 14, 3, ([183], .null)), (172, .lload 15, 2, ([], .null)), (174, .ldc2_w 108, 3, ([], .long 3)), (177, .land, 1, ([], .null)), (178, .lconst 1, 1, ([], .null)), 
  (179, .lcmp, 1, ([], .null)), (180, .ifCond .le 5, 3, ([185], .null)), (183, .iconst 0, 1, ([], .null)), (184, .ireturn, 1, ([1], .null)), (185, .lload 15, 2, ([], .null)), 
  (187, .lstore 5, 2, ([], .null)), (189, .lload 10, 2, ([], .null)), (191, .lconst 1, 1, ([], .null)), (192, .ladd, 1, ([], .null)), (193, .lstore 7, 2, ([], .null)), 
  (195, .goto 89, 3, ([284], .null)), (198, .lload 15, 2, ([], .null)), (200, .ldc2_w 118, 3, ([], .long 7)), (203, .land, 1, ([], .null)), (204, .ldc2_w 126, 3, ([], .long 2)), 
  (207, .lcmp, 1, ([], .null)), (208, .ifCond .ne 17, 3, ([225], .null)), (211, .lload 15, 2, ([], .null)), (213, .bipush 32, 2, ([], .null)), (215, .lushr, 1, ([], .null)), 
  (216, .aload_n 0, 1, ([], .null)), (217, .getfield 29, 3, ([9, 6], .null)), (220, .i2l, 1, ([], .null)), (221, .lcmp, 1, ([], .null)), (222, .ifCond .lt 5, 3, ([227], .null)), 
  (225, .iconst 0, 1, ([], .null)), (226, .ireturn, 1, ([1], .null)), (227, .aload_n 0, 1, ([], .null)), (228, .getfield 7, 3, ([9, 0], .null)), (231, .bipush 64, 2, ([], .null)), 
  (233, .iload 9, 2, ([], .null)), (235, .imul, 1, ([], .null)), (236, .lload 10, 2, ([], .null)), (238, .l2i, 1, ([], .null)), (239, .iadd, 1, ([], .null)), 
  (240, .iconst 1, 1, ([], .null)), (241, .iadd, 1, ([], .null)), (242, .laload, 1, ([], .null)), (243, .lstore 5, 2, ([], .null)), (245, .lload 5, 2, ([], .null)), 
  (247, .ldc2_w 108, 3, ([], .long 3)), (250, .land, 1, ([], .null)), (251, .lconst 1, 1, ([], .null)), (252, .lcmp, 1, ([], .null)), (253, .ifCond .gt 11, 3, ([264], .null)), 
  (256, .lload 5, 2, ([], .null)), (258, .invokestatic 130, 3, ([183, 1, 0, 0], .null)), (261, .ifCond .eq 5, 3, ([266], .null)), (264, .iconst 0, 1, ([], .null)), 
  (265, .ireturn, 1, ([1], .null)), (266, .lload 15, 2, ([], .null)), (268, .bipush 32, 2, ([], .null)), (270, .lushr, 1, ([], .null)), (271, .l2i, 1, ([], .null)), 
  (272, .istore 9, 2, ([], .null)), (274, .lload 15, 2, ([], .null)), (276, .iconst 3, 1, ([], .null)), (277, .lushr, 1, ([], .null)), 
  (278, .ldc2_w 128, 3, ([], .long 536870911)), (281, .land, 1, ([], .null)), (282, .lstore 7, 2, ([], .null)), (284, .aload_n 0, 1, ([], .null)), 
  (285, .iload_n 1, 1, ([], .null)), (286, .lload 5, 2, ([], .null)), (288, .lload 7, 2, ([], .null)), (290, .lload 5, 2, ([], .null)), 
  (292, .invokestatic 130, 3, ([183, 1, 0, 0], .null)), (295, .i2l, 1, ([], .null)), (296, .ladd, 1, ([], .null)), (297, .iload 9, 2, ([], .null)), 
  (299, .iload 4, 2, ([], .null)), (301, .invokevirtual 134, 3, ([184, 6, 0, 10], .null)), (304, .ireturn, 1, ([1], .null))
]
def mi_M_followed : pm_I := ((kc_M_followed, []), 17, ⟨"SegmentDeskModel", "followed", "(IIII)Z"⟩, prog_13_method_21_code, (some .boolean), 4)
def kc_M_offset : List (Nat × Instr × Nat × pm_L) := [
  (0, .lload_n 0, 1, ([], .null)), (1, .l2i, 1, ([], .null)), (2, .iconst 2, 1, ([], .null)), (3, .ishr, 1, ([], .null)), (4, .ireturn, 1, ([], .null))
]
def mi_M_offset : pm_I := ((kc_M_offset, []), 2, ⟨"SegmentDeskModel", "offset", "(J)I"⟩, prog_13_method_14_code, (some .int), 1)
def kc_M_stands : List (Nat × Instr × Nat × pm_L) := [
  (0, .lload 4, 2, ([], .null)), (2, .lconst 0, 1, ([], .null)), (3, .lcmp, 1, ([], .null)), (4, .ifCond .ge 5, 3, ([9], .null)), (7, .iconst 0, 1, ([], .null)), 
  (8, .ireturn, 1, ([1], .null)), (9, .aload_n 0, 1, ([], .null)), (10, .getfield 42, 3, ([9, 14], .null)), (13, .iload_n 1, 1, ([], .null)), (14, .iload 6, 2, ([], .null)), 
  (16, .iastore, 1, ([], .null)), (17, .aload_n 0, 1, ([], .null)), (18, .getfield 39, 3, ([9, 13], .null)), (21, .iload_n 1, 1, ([], .null)), (22, .iload 7, 2, ([], .null)), 
  (24, .iconst 1, 1, ([], .null)), (25, .isub, 1, ([], .null)), (26, .iastore, 1, ([], .null)), (27, .lload_n 2, 1, ([], .null)), (28, .ldc2_w 108, 3, ([], .long 3)), 
  (31, .land, 1, ([], .null)), (32, .lconst 0, 1, ([], .null)), (33, .lcmp, 1, ([], .null)), (34, .ifCond .ne 67, 3, ([101], .null)), (37, .lload_n 2, 1, ([], .null)), 
  (38, .invokestatic 138, 3, ([185, 1, 0, 0], .null)), (41, .lload_n 2, 1, ([], .null)), (42, .invokestatic 141, 3, ([186, 1, 0, 0], .null)), (45, .iadd, 1, ([], .null)), 
  (46, .i2l, 1, ([], .null)), (47, .lstore 8, 2, ([], .null)), (49, .lload 4, 2, ([], .null)), (51, .lload 8, 2, ([], .null)), (53, .ladd, 1, ([], .null)), 
  (54, .aload_n 0, 1, ([], .null)), (55, .getfield 19, 3, ([9, 3], .null)), (58, .iload 6, 2, ([], .null)), (60, .iaload, 1, ([], .null)), (61, .i2l, 1, ([], .null)), 
  (62, .lcmp, 1, ([], .null)), (63, .ifCond .le 5, 3, ([68], .null)), (66, .iconst 0, 1, ([], .null)), (67, .ireturn, 1, ([1], .null)), (68, .aload_n 0, 1, ([], .null)), 
  (69, .getfield 36, 3, ([9, 12], .null)), (72, .iload_n 1, 1, ([], .null)), (73, .iconst 1, 1, ([], .null)), (74, .iastore, 1, ([], .null)), (75, .aload_n 0, 1, ([], .null)), 
  (76, .getfield 48, 3, ([9, 16], .null)), (79, .iload_n 1, 1, ([], .null)), (80, .bipush 64, 2, ([], .null)), (82, .lload_n 2, 1, ([], .null)), 
  (83, .invokestatic 138, 3, ([185, 1, 0, 0], .null)), (86, .imul, 1, ([], .null)), (87, .iastore, 1, ([], .null)), (88, .aload_n 0, 1, ([], .null)), 
  (89, .getfield 51, 3, ([9, 17], .null)), (92, .iload_n 1, 1, ([], .null)), (93, .lload_n 2, 1, ([], .null)), (94, .invokestatic 141, 3, ([186, 1, 0, 0], .null)), 
  (97, .iastore, 1, ([], .null)), (98, .goto 205, 3, ([303], .null)), (101, .aload_n 0, 1, ([], .null)), (102, .getfield 57, 3, ([9, 19], .null)), 
  (105, .iload_n 1, 1, ([], .null)), (106, .lload_n 2, 1, ([], .null)), (107, .invokestatic 144, 3, ([187, 1, 0, 0], .null)), (110, .iastore, 1, ([], .null)), 
  (111, .lload_n 2, 1, ([], .null)), (112, .invokestatic 147, 3, ([188, 1, 0, 0], .null)), (115, .lstore 10, 2, ([], .null)), (117, .aload_n 0, 1, ([], .null)), 
  (118, .getfield 57, 3, ([9, 19], .null)), (121, .iload_n 1, 1, ([], .null)), (122, .iaload, 1, ([], .null)), (123, .lload 10, 2, ([], .null)), 
  (125, .invokestatic 151, 3, ([189, 2, 0, 0], .null)), (128, .lstore 8, 2, ([], .null)), (130, .lload 4, 2, ([], .null)), (132, .lload 8, 2, ([], .null)), 
  (134, .ladd, 1, ([], .null)), (135, .aload_n 0, 1, ([], .null)), (136, .getfield 19, 3, ([9, 3], .null)), (139, .iload 6, 2, ([], .null)), (141, .iaload, 1, ([], .null)), 
  (142, .i2l, 1, ([], .null)), (143, .lcmp, 1, ([], .null)), (144, .ifCond .le 5, 3, ([149], .null)), (147, .iconst 0, 1, ([], .null)), (148, .ireturn, 1, ([1], .null)), 
  (149, .aload_n 0, 1, ([], .null)), (150, .getfield 36, 3, ([9, 12], .null)), (153, .iload_n 1, 1, ([], .null)), (154, .iconst 2, 1, ([], .null)), 
  (155, .iastore, 1, ([], .null)), (156, .aload_n 0, 1, ([], .null)), (157, .getfield 54, 3, ([9, 18], .null)), (160, .iload_n 1, 1, ([], .null)), 
  (161, .lload 10, 2, ([], .null)), (163, .l2i, 1, ([], .null)), (164, .iastore, 1, ([], .null)), (165, .aload_n 0, 1, ([], .null)), (166, .getfield 57, 3, ([9, 19], .null)), 
  (169, .iload_n 1, 1, ([], .null)), (170, .iaload, 1, ([], .null)), (171, .ifCond .ne 7, 3, ([178], .null)), (174, .lload 10, 2, ([], .null)), (176, .lstore 8, 2, ([], .null)), 
  (178, .aload_n 0, 1, ([], .null)), (179, .getfield 57, 3, ([9, 19], .null)), (182, .iload_n 1, 1, ([], .null)), (183, .iaload, 1, ([], .null)), (184, .bipush 7, 2, ([], .null)), 
  (186, .if_icmp .ne 117, 3, ([303], .null)), (189, .aload_n 0, 1, ([], .null)), (190, .getfield 7, 3, ([9, 0], .null)), (193, .bipush 64, 2, ([], .null)), 
  (195, .iload 6, 2, ([], .null)), (197, .imul, 1, ([], .null)), (198, .lload 4, 2, ([], .null)), (200, .l2i, 1, ([], .null)), (201, .iadd, 1, ([], .null)), 
  (202, .laload, 1, ([], .null)), (203, .lstore 12, 2, ([], .null)), (205, .lload 12, 2, ([], .null)), (207, .invokestatic 130, 3, ([183, 1, 0, 0], .null)), 
  (210, .istore 14, 2, ([], .null)), (212, .aload_n 0, 1, ([], .null)), (213, .getfield 60, 3, ([9, 20], .null)), (216, .iload_n 1, 1, ([], .null)), 
  (217, .lload 12, 2, ([], .null)), (219, .invokestatic 138, 3, ([185, 1, 0, 0], .null)), (222, .iastore, 1, ([], .null)), (223, .aload_n 0, 1, ([], .null)), 
  (224, .getfield 63, 3, ([9, 21], .null)), (227, .iload_n 1, 1, ([], .null)), (228, .lload 12, 2, ([], .null)), (230, .invokestatic 141, 3, ([186, 1, 0, 0], .null)), 
  (233, .iastore, 1, ([], .null)), (234, .aload_n 0, 1, ([], .null)), (235, .getfield 60, 3, ([9, 20], .null)), (238, .iload_n 1, 1, ([], .null)), (239, .iaload, 1, ([], .null)), 
  (240, .aload_n 0, 1, ([], .null)), (241, .getfield 63, 3, ([9, 21], .null)), (244, .iload_n 1, 1, ([], .null)), (245, .iaload, 1, ([], .null)), (246, .iadd, 1, ([], .null)), 
  (247, .i2l, 1, ([], .null)), (248, .lstore 15, 2, ([], .null)), (250, .lload 12, 2, ([], .null)), (252, .ldc2_w 108, 3, ([], .long 3)), (255, .land, 1, ([], .null)), 
  (256, .lconst 0, 1, ([], .null)), (257, .lcmp, 1, ([], .null)), (258, .ifCond .ne 20, 3, ([278], .null)), (261, .iload 14, 2, ([], .null)), 
  (263, .ifCond .lt 15, 3, ([278], .null)), (266, .lload 15, 2, ([], .null)), (268, .iload 14, 2, ([], .null)), (270, .i2l, 1, ([], .null)), (271, .lmul, 1, ([], .null)), 
  (272, .lload 10, 2, ([], .null)), (274, .lcmp, 1, ([], .null)), (275, .ifCond .le 5, 3, ([280], .null)), (278, .iconst 0, 1, ([], .null)), (279, .ireturn, 1, ([1], .null)), 
  (280, .aload_n 0, 1, ([], .null)), (281, .getfield 54, 3, ([9, 18], .null)), (284, .iload_n 1, 1, ([], .null)), (285, .iload 14, 2, ([], .null)), 
  (287, .iastore, 1, ([], .null)), (288, .lload 15, 2, ([], .null)), (290, .lconst 0, 1, ([], .null)), (291, .lcmp, 1, ([], .null)), (292, .ifCond .ne 11, 3, ([303], .null)), 
  (295, .lload 8, 2, ([], .null)), (297, .iload 14, 2, ([], .null)), (299, .i2l, 1, ([], .null)), (300, .ladd, 1, ([], .null)), (301, .lstore 8, 2, ([], .null)), 
  (303, .aload_n 0, 1, ([], .null)), (304, .getfield 45, 3, ([9, 15], .null)), (307, .iload_n 1, 1, ([], .null)), (308, .bipush 64, 2, ([], .null)), 
  (310, .lload 4, 2, ([], .null)), (312, .l2i, 1, ([], .null)), (313, .imul, 1, ([], .null)), (314, .iastore, 1, ([], .null)), (315, .iload 7, 2, ([], .null)), 
  (317, .ifCond .eq 14, 3, ([331], .null)), (320, .lload 8, 2, ([], .null)), (322, .aload_n 0, 1, ([], .null)), (323, .getfield 33, 3, ([9, 8], .null)), 
  (326, .i2l, 1, ([], .null)), (327, .lcmp, 1, ([], .null)), (328, .ifCond .le 5, 3, ([333], .null)), (331, .iconst 0, 1, ([], .null)), (332, .ireturn, 1, ([1], .null)), 
  (333, .aload_n 0, 1, ([], .null)), (334, .dup, 1, ([], .null)), (335, .getfield 33, 3, ([9, 8], .null)), (338, .lload 8, 2, ([], .null)), (340, .l2i, 1, ([], .null)), 
  (341, .isub, 1, ([], .null)), (342, .putfield 33, 3, ([9, 8, 0], .null)), (345, .iconst 1, 1, ([], .null)), (346, .ireturn, 1, ([1], .null))
]
def mi_M_stands : pm_I := ((kc_M_stands, []), 17, ⟨"SegmentDeskModel", "stands", "(IJJII)Z"⟩, prog_13_method_22_code, (some .boolean), 5)
def kc_M_dataOf : List (Nat × Instr × Nat × pm_L) := [
  (0, .lload_n 0, 1, ([], .null)), (1, .bipush 32, 2, ([], .null)), (3, .lushr, 1, ([], .null)), (4, .ldc2_w 116, 3, ([], .long 65535)), (7, .land, 1, ([], .null)), 
  (8, .l2i, 1, ([], .null)), (9, .ireturn, 1, ([], .null))
]
def mi_M_dataOf : pm_I := ((kc_M_dataOf, []), 2, ⟨"SegmentDeskModel", "dataOf", "(J)I"⟩, prog_13_method_15_code, (some .int), 1)
def kc_M_pointersOf : List (Nat × Instr × Nat × pm_L) := [
  (0, .lload_n 0, 1, ([], .null)), (1, .bipush 48, 2, ([], .null)), (3, .lushr, 1, ([], .null)), (4, .l2i, 1, ([], .null)), (5, .ireturn, 1, ([], .null))
]
def mi_M_pointersOf : pm_I := ((kc_M_pointersOf, []), 2, ⟨"SegmentDeskModel", "pointersOf", "(J)I"⟩, prog_13_method_16_code, (some .int), 1)
def kc_M_codeOf : List (Nat × Instr × Nat × pm_L) := [
  (0, .lload_n 0, 1, ([], .null)), (1, .bipush 32, 2, ([], .null)), (3, .lushr, 1, ([], .null)), (4, .ldc2_w 118, 3, ([], .long 7)), (7, .land, 1, ([], .null)), 
  (8, .l2i, 1, ([], .null)), (9, .ireturn, 1, ([], .null))
]
def mi_M_codeOf : pm_I := ((kc_M_codeOf, []), 2, ⟨"SegmentDeskModel", "codeOf", "(J)I"⟩, prog_13_method_17_code, (some .int), 1)
def kc_M_countOf : List (Nat × Instr × Nat × pm_L) := [
  (0, .lload_n 0, 1, ([], .null)), (1, .bipush 35, 2, ([], .null)), (3, .lushr, 1, ([], .null)), (4, .lreturn, 1, ([], .null))
]
def mi_M_countOf : pm_I := ((kc_M_countOf, []), 2, ⟨"SegmentDeskModel", "countOf", "(J)J"⟩, prog_13_method_18_code, (some .long), 1)
def kc_M_wordsOf : List (Nat × Instr × Nat × pm_L) := [
  (0, .iload_n 0, 1, ([], .null)), (1, .bipush 7, 2, ([], .null)), (3, .if_icmp .ne 9, 3, ([12], .null)), (6, .lload_n 1, 1, ([], .null)), (7, .lconst 1, 1, ([], .null)), 
  (8, .ladd, 1, ([], .null)), (9, .goto 28, 3, ([37], .null)), (12, .iload_n 0, 1, ([], .null)), (13, .bipush 6, 2, ([], .null)), (15, .if_icmp .ne 7, 3, ([22], .null)), 
  (18, .lload_n 1, 1, ([], .null)), (19, .goto 18, 3, ([37], .null)), (22, .lload_n 1, 1, ([], .null)), (23, .iload_n 0, 1, ([], .null)), 
  (24, .invokestatic 120, 3, ([190, 1, 0, 0], .null)), (27, .i2l, 1, ([], .null)), (28, .lmul, 1, ([], .null)), (29, .ldc2_w 124, 3, ([], .long 63)), (32, .ladd, 1, ([], .null)), 
  (33, .ldc2_w 91, 3, ([], .long 64)), (36, .ldiv, 1, ([], .null)), (37, .lreturn, 1, ([], .null))
]
def mi_M_wordsOf : pm_I := ((kc_M_wordsOf, []), 3, ⟨"SegmentDeskModel", "wordsOf", "(IJ)J"⟩, prog_13_method_20_code, (some .long), 2)
def kc_M_bitsOf : List (Nat × Instr × Nat × pm_L) := [
  (0, .iload_n 0, 1, ([], .null)), (1, .ifCond .eq 8, 3, ([9], .null)), (4, .iload_n 0, 1, ([], .null)), (5, .iconst 5, 1, ([], .null)), (6, .if_icmp .le 7, 3, ([13], .null)), 
  (9, .iconst 0, 1, ([], .null)), (10, .goto 17, 3, ([27], .null)), (13, .iload_n 0, 1, ([], .null)), (14, .iconst 1, 1, ([], .null)), (15, .if_icmp .ne 7, 3, ([22], .null)), 
  (18, .iconst 1, 1, ([], .null)), (19, .goto 8, 3, ([27], .null)), (22, .iconst 4, 1, ([], .null)), (23, .iload_n 0, 1, ([], .null)), (24, .iconst 1, 1, ([], .null)), 
  (25, .isub, 1, ([], .null)), (26, .ishl, 1, ([], .null)), (27, .ireturn, 1, ([], .null))
]
def mi_M_bitsOf : pm_I := ((kc_M_bitsOf, []), 1, ⟨"SegmentDeskModel", "bitsOf", "(I)I"⟩, prog_13_method_19_code, (some .int), 1)
def kc_M_copy : List (Nat × Instr × Nat × pm_L) := [
  (0, .aload_n 0, 1, ([], .null)), (1, .getfield 36, 3, ([9, 12], .null)), (4, .iload_n 1, 1, ([], .null)), (5, .aload_n 0, 1, ([], .null)), 
  (6, .getfield 36, 3, ([9, 12], .null)), (9, .iload_n 2, 1, ([], .null)), (10, .iaload, 1, ([], .null)), (11, .iastore, 1, ([], .null)), (12, .aload_n 0, 1, ([], .null)), 
  (13, .getfield 39, 3, ([9, 13], .null)), (16, .iload_n 1, 1, ([], .null)), (17, .aload_n 0, 1, ([], .null)), (18, .getfield 39, 3, ([9, 13], .null)), 
  (21, .iload_n 2, 1, ([], .null)), (22, .iaload, 1, ([], .null)), (23, .iastore, 1, ([], .null)), (24, .aload_n 0, 1, ([], .null)), (25, .getfield 42, 3, ([9, 14], .null)), 
  (28, .iload_n 1, 1, ([], .null)), (29, .aload_n 0, 1, ([], .null)), (30, .getfield 42, 3, ([9, 14], .null)), (33, .iload_n 2, 1, ([], .null)), (34, .iaload, 1, ([], .null)), 
  (35, .iastore, 1, ([], .null)), (36, .aload_n 0, 1, ([], .null)), (37, .getfield 45, 3, ([9, 15], .null)), (40, .iload_n 1, 1, ([], .null)), (41, .aload_n 0, 1, ([], .null)), 
  (42, .getfield 45, 3, ([9, 15], .null)), (45, .iload_n 2, 1, ([], .null)), (46, .iaload, 1, ([], .null)), (47, .iastore, 1, ([], .null)), (48, .aload_n 0, 1, ([], .null)), 
  (49, .getfield 48, 3, ([9, 16], .null)), (52, .iload_n 1, 1, ([], .null)), (53, .aload_n 0, 1, ([], .null)), (54, .getfield 48, 3, ([9, 16], .null)), 
  (57, .iload_n 2, 1, ([], .null)), (58, .iaload, 1, ([], .null)), (59, .iastore, 1, ([], .null)), (60, .aload_n 0, 1, ([], .null)), (61, .getfield 51, 3, ([9, 17], .null)), 
  (64, .iload_n 1, 1, ([], .null)), (65, .aload_n 0, 1, ([], .null)), (66, .getfield 51, 3, ([9, 17], .null)), (69, .iload_n 2, 1, ([], .null)), (70, .iaload, 1, ([], .null)), 
  (71, .iastore, 1, ([], .null)), (72, .aload_n 0, 1, ([], .null)), (73, .getfield 54, 3, ([9, 18], .null)), (76, .iload_n 1, 1, ([], .null)), (77, .aload_n 0, 1, ([], .null)), 
  (78, .getfield 54, 3, ([9, 18], .null)), (81, .iload_n 2, 1, ([], .null)), (82, .iaload, 1, ([], .null)), (83, .iastore, 1, ([], .null)), (84, .aload_n 0, 1, ([], .null)), 
  (85, .getfield 57, 3, ([9, 19], .null)), (88, .iload_n 1, 1, ([], .null)), (89, .aload_n 0, 1, ([], .null)), (90, .getfield 57, 3, ([9, 19], .null)), 
  (93, .iload_n 2, 1, ([], .null)), (94, .iaload, 1, ([], .null)), (95, .iastore, 1, ([], .null)), (96, .aload_n 0, 1, ([], .null)), (97, .getfield 60, 3, ([9, 20], .null)), 
  (100, .iload_n 1, 1, ([], .null)), (101, .aload_n 0, 1, ([], .null)), (102, .getfield 60, 3, ([9, 20], .null)), (105, .iload_n 2, 1, ([], .null)), 
  (106, .iaload, 1, ([], .null)), (107, .iastore, 1, ([], .null)), (108, .aload_n 0, 1, ([], .null)), (109, .getfield 63, 3, ([9, 21], .null)), (112, .iload_n 1, 1, ([], .null)), 
  (113, .aload_n 0, 1, ([], .null)), (114, .getfield 63, 3, ([9, 21], .null)), (117, .iload_n 2, 1, ([], .null)), (118, .iaload, 1, ([], .null)), (119, .iastore, 1, ([], .null)), 
  (120, .return_, 1, ([], .null))
]
def mi_M_copy : pm_I := ((kc_M_copy, []), 3, ⟨"SegmentDeskModel", "copy", "(II)V"⟩, prog_13_method_7_code, none, 2)
def kc_M_follow : List (Nat × Instr × Nat × pm_L) := [
  (0, .aload_n 0, 1, ([], .null)), (1, .iconst 0, 1, ([], .null)), (2, .putfield 78, 3, ([9, 10, 0], .null)), (5, .aload_n 0, 1, ([], .null)), (6, .aload_n 0, 1, ([], .null)), 
  (7, .iload_n 1, 1, ([], .null)), (8, .invokevirtual 157, 3, ([181, 2, 0, 10], .null)), (11, .ifCond .eq 15, 3, ([26], .null)), (14, .aload_n 0, 1, ([], .null)), 
  (15, .iload_n 2, 1, ([], .null)), (16, .invokevirtual 157, 3, ([181, 2, 0, 10], .null)), (19, .ifCond .eq 7, 3, ([26], .null)), (22, .iload_n 3, 1, ([], .null)), 
  (23, .ifCond .ge 7, 3, ([30], .null)), (26, .iconst 1, 1, ([], .null)), (27, .goto 4, 3, ([31], .null)), (30, .iconst 0, 1, ([], .null)), (31, .iconst 1, 1, ([], .null)), 
  (32, .invokevirtual 93, 3, ([172, 3, 0, 10], .null)), (35, .ifCond .eq 5, 3, ([40], .null)), (38, .iconst 0, 1, ([], .null)), (39, .ireturn, 1, ([], .null)), 
  (40, .aload_n 0, 1, ([], .null)), (41, .getfield 36, 3, ([9, 12], .null)), (44, .iload_n 2, 1, ([], .null)), (45, .iaload, 1, ([], .null)), (46, .iconst 2, 1, ([], .null)), 
  (47, .if_icmp .ne 7, 3, ([54], .null)), (50, .iconst 1, 1, ([], .null)), (51, .goto 4, 3, ([55], .null)), (54, .iconst 0, 1, ([], .null)), (55, .istore 4, 2, ([], .null)), 
  (57, .aload_n 0, 1, ([], .null)), (58, .iload 4, 2, ([], .null)), (60, .ifCond .eq 28, 3, ([88], .null)), (63, .aload_n 0, 1, ([], .null)), 
  (64, .getfield 57, 3, ([9, 19], .null)), (67, .iload_n 2, 1, ([], .null)), (68, .iaload, 1, ([], .null)), (69, .bipush 6, 2, ([], .null)), 
  (71, .if_icmp .ne 17, 3, ([88], .null)), (74, .iload_n 3, 1, ([], .null)), (75, .aload_n 0, 1, ([], .null)), (76, .getfield 54, 3, ([9, 18], .null)), 
  (79, .iload_n 2, 1, ([], .null)), (80, .iaload, 1, ([], .null)), (81, .if_icmp .lt 7, 3, ([88], .null)), (84, .iconst 1, 1, ([], .null)), (85, .goto 4, 3, ([89], .null)), 
  (88, .iconst 0, 1, ([], .null)), (89, .iconst 1, 1, ([], .null)), (90, .invokevirtual 93, 3, ([172, 3, 0, 10], .null)), (93, .ifCond .ne 32, 3, ([125], .null)), 
  (96, .aload_n 0, 1, ([], .null)), (97, .iload 4, 2, ([], .null)), (99, .ifCond .eq 18, 3, ([117], .null)), (102, .aload_n 0, 1, ([], .null)), 
  (103, .getfield 57, 3, ([9, 19], .null)), (106, .iload_n 2, 1, ([], .null)), (107, .iaload, 1, ([], .null)), (108, .bipush 6, 2, ([], .null)), 
  (110, .if_icmp .eq 7, 3, ([117], .null)), (113, .iconst 1, 1, ([], .null)), (114, .goto 4, 3, ([118], .null)), (117, .iconst 0, 1, ([], .null)), 
  (118, .iconst 2, 1, ([], .null)), (119, .invokevirtual 93, 3, ([172, 3, 0, 10], .null)), (122, .ifCond .eq 5, 3, ([127], .null)), (125, .iconst 0, 1, ([], .null)), 
  (126, .ireturn, 1, ([], .null)), (127, .aload_n 0, 1, ([], .null)), (128, .iload_n 2, 1, ([], .null)), (129, .iload_n 3, 1, ([], .null)), 
  (130, .invokevirtual 168, 3, ([193, 3, 0, 10], .null)), (133, .istore 5, 2, ([], .null)), (135, .iload 5, 2, ([], .null)), (137, .ifCond .ge 10, 3, ([147], .null)), 
  (140, .aload_n 0, 1, ([], .null)), (141, .iload_n 1, 1, ([], .null)), (142, .invokevirtual 81, 3, ([175, 2, 0, 10], .null)), (145, .iconst 0, 1, ([], .null)), 
  (146, .ireturn, 1, ([], .null)), (147, .aload_n 0, 1, ([], .null)), (148, .bipush 16, 2, ([], .null)), (150, .aload_n 0, 1, ([], .null)), 
  (151, .getfield 42, 3, ([9, 14], .null)), (154, .iload_n 2, 1, ([], .null)), (155, .iaload, 1, ([], .null)), (156, .iload 5, 2, ([], .null)), (158, .aload_n 0, 1, ([], .null)), 
  (159, .getfield 39, 3, ([9, 13], .null)), (162, .iload_n 2, 1, ([], .null)), (163, .iaload, 1, ([], .null)), (164, .invokevirtual 161, 3, ([182, 5, 0, 10], .null)), 
  (167, .istore 6, 2, ([], .null)), (169, .aload_n 0, 1, ([], .null)), (170, .iload 6, 2, ([], .null)), (172, .ifCond .ne 7, 3, ([179], .null)), (175, .iconst 1, 1, ([], .null)), 
  (176, .goto 4, 3, ([180], .null)), (179, .iconst 0, 1, ([], .null)), (180, .iconst 3, 1, ([], .null)), (181, .invokevirtual 93, 3, ([172, 3, 0, 10], .null)), 
  (184, .ifCond .eq 5, 3, ([189], .null)), (187, .iconst 0, 1, ([], .null)), (188, .ireturn, 1, ([], .null)), (189, .aload_n 0, 1, ([], .null)), (190, .iload_n 1, 1, ([], .null)), 
  (191, .bipush 16, 2, ([], .null)), (193, .invokevirtual 165, 3, ([191, 3, 0, 10], .null)), (196, .aload_n 0, 1, ([], .null)), (197, .getfield 36, 3, ([9, 12], .null)), 
  (200, .iload_n 1, 1, ([], .null)), (201, .iaload, 1, ([], .null)), (202, .ireturn, 1, ([], .null))
]
def mi_M_follow : pm_I := ((kc_M_follow, []), 7, ⟨"SegmentDeskModel", "follow", "(III)I"⟩, prog_13_method_26_code, (some .int), 3)
def kc_M_pointerAt : List (Nat × Instr × Nat × pm_L) := [
  (0, .aload_n 0, 1, ([], .null)), (1, .getfield 45, 3, ([9, 15], .null)), (4, .iload_n 1, 1, ([], .null)), (5, .iaload, 1, ([], .null)), (6, .bipush 64, 2, ([], .null)), 
  (8, .idiv, 1, ([], .null)), (9, .istore_n 3, 1, ([], .null)), (10, .aload_n 0, 1, ([], .null)), (11, .getfield 36, 3, ([9, 12], .null)), (14, .iload_n 1, 1, ([], .null)), 
  (15, .iaload, 1, ([], .null)), (16, .iconst 1, 1, ([], .null)), (17, .if_icmp .ne 39, 3, ([56], .null)), (20, .iload_n 2, 1, ([], .null)), (21, .i2l, 1, ([], .null)), 
  (22, .lconst 0, 1, ([], .null)), (23, .aload_n 0, 1, ([], .null)), (24, .getfield 51, 3, ([9, 17], .null)), (27, .iload_n 1, 1, ([], .null)), (28, .iaload, 1, ([], .null)), 
  (29, .iconst 1, 1, ([], .null)), (30, .isub, 1, ([], .null)), (31, .i2l, 1, ([], .null)), (32, .invokestatic 87, 3, ([171, 3, 0, 0], .null)), 
  (35, .ifCond .eq 19, 3, ([54], .null)), (38, .iload_n 3, 1, ([], .null)), (39, .aload_n 0, 1, ([], .null)), (40, .getfield 48, 3, ([9, 16], .null)), 
  (43, .iload_n 1, 1, ([], .null)), (44, .iaload, 1, ([], .null)), (45, .bipush 64, 2, ([], .null)), (47, .idiv, 1, ([], .null)), (48, .iadd, 1, ([], .null)), 
  (49, .iload_n 2, 1, ([], .null)), (50, .iadd, 1, ([], .null)), (51, .goto 4, 3, ([55], .null)), (54, .iconst (-1), 1, ([], .null)), (55, .ireturn, 1, ([], .null)), 
  (56, .aload_n 0, 1, ([], .null)), (57, .getfield 36, 3, ([9, 12], .null)), (60, .iload_n 1, 1, ([], .null)), (61, .iaload, 1, ([], .null)), (62, .iconst 2, 1, ([], .null)), 
  (63, .if_icmp .ne 38, 3, ([101], .null)), (66, .aload_n 0, 1, ([], .null)), (67, .getfield 57, 3, ([9, 19], .null)), (70, .iload_n 1, 1, ([], .null)), 
  (71, .iaload, 1, ([], .null)), (72, .bipush 6, 2, ([], .null)), (74, .if_icmp .ne 27, 3, ([101], .null)), (77, .iload_n 2, 1, ([], .null)), (78, .i2l, 1, ([], .null)), 
  (79, .lconst 0, 1, ([], .null)), (80, .aload_n 0, 1, ([], .null)), (81, .getfield 54, 3, ([9, 18], .null)), (84, .iload_n 1, 1, ([], .null)), (85, .iaload, 1, ([], .null)), 
  (86, .iconst 1, 1, ([], .null)), (87, .isub, 1, ([], .null)), (88, .i2l, 1, ([], .null)), (89, .invokestatic 87, 3, ([171, 3, 0, 0], .null)), 
  (92, .ifCond .eq 9, 3, ([101], .null)), (95, .iload_n 3, 1, ([], .null)), (96, .iload_n 2, 1, ([], .null)), (97, .iadd, 1, ([], .null)), (98, .goto 4, 3, ([102], .null)), 
  (101, .iconst (-1), 1, ([], .null)), (102, .ireturn, 1, ([], .null))
]
def mi_M_pointerAt : pm_I := ((kc_M_pointerAt, []), 4, ⟨"SegmentDeskModel", "pointerAt", "(II)I"⟩, prog_13_method_25_code, (some .int), 2)
def kc_M_element : List (Nat × Instr × Nat × pm_L) := [
  (0, .aload_n 0, 1, ([], .null)), (1, .iconst 0, 1, ([], .null)), (2, .putfield 78, 3, ([9, 10, 0], .null)), (5, .aload_n 0, 1, ([], .null)), (6, .aload_n 0, 1, ([], .null)), 
  (7, .iload_n 1, 1, ([], .null)), (8, .invokevirtual 157, 3, ([181, 2, 0, 10], .null)), (11, .ifCond .eq 11, 3, ([22], .null)), (14, .aload_n 0, 1, ([], .null)), 
  (15, .iload_n 2, 1, ([], .null)), (16, .invokevirtual 157, 3, ([181, 2, 0, 10], .null)), (19, .ifCond .ne 7, 3, ([26], .null)), (22, .iconst 1, 1, ([], .null)), 
  (23, .goto 4, 3, ([27], .null)), (26, .iconst 0, 1, ([], .null)), (27, .iconst 1, 1, ([], .null)), (28, .invokevirtual 93, 3, ([172, 3, 0, 10], .null)), 
  (31, .ifCond .ne 80, 3, ([111], .null)), (34, .aload_n 0, 1, ([], .null)), (35, .aload_n 0, 1, ([], .null)), (36, .getfield 36, 3, ([9, 12], .null)), 
  (39, .iload_n 2, 1, ([], .null)), (40, .iaload, 1, ([], .null)), (41, .iconst 2, 1, ([], .null)), (42, .if_icmp .eq 7, 3, ([49], .null)), (45, .iconst 1, 1, ([], .null)), 
  (46, .goto 4, 3, ([50], .null)), (49, .iconst 0, 1, ([], .null)), (50, .iconst 2, 1, ([], .null)), (51, .invokevirtual 93, 3, ([172, 3, 0, 10], .null)), 
  (54, .ifCond .ne 57, 3, ([111], .null)), (57, .aload_n 0, 1, ([], .null)), (58, .iload_n 3, 1, ([], .null)), (59, .i2l, 1, ([], .null)), (60, .lconst 0, 1, ([], .null)), 
  (61, .aload_n 0, 1, ([], .null)), (62, .getfield 54, 3, ([9, 18], .null)), (65, .iload_n 2, 1, ([], .null)), (66, .iaload, 1, ([], .null)), (67, .iconst 1, 1, ([], .null)), 
  (68, .isub, 1, ([], .null)), (69, .i2l, 1, ([], .null)), (70, .invokestatic 87, 3, ([171, 3, 0, 0], .null)), (73, .ifCond .ne 7, 3, ([80], .null)), 
  (76, .iconst 1, 1, ([], .null)), (77, .goto 4, 3, ([81], .null)), (80, .iconst 0, 1, ([], .null)), (81, .iconst 1, 1, ([], .null)), 
  (82, .invokevirtual 93, 3, ([172, 3, 0, 10], .null)), (85, .ifCond .ne 26, 3, ([111], .null)), (88, .aload_n 0, 1, ([], .null)), (89, .aload_n 0, 1, ([], .null)), 
  (90, .getfield 57, 3, ([9, 19], .null)), (93, .iload_n 2, 1, ([], .null)), (94, .iaload, 1, ([], .null)), (95, .iconst 1, 1, ([], .null)), 
  (96, .if_icmp .ne 7, 3, ([103], .null)), (99, .iconst 1, 1, ([], .null)), (100, .goto 4, 3, ([104], .null)), (103, .iconst 0, 1, ([], .null)), (104, .iconst 3, 1, ([], .null)), 
  (105, .invokevirtual 93, 3, ([172, 3, 0, 10], .null)), (108, .ifCond .eq 5, 3, ([113], .null)), (111, .iconst 0, 1, ([], .null)), (112, .ireturn, 1, ([], .null)), 
  (113, .aload_n 0, 1, ([], .null)), (114, .bipush 16, 2, ([], .null)), (116, .iload_n 2, 1, ([], .null)), (117, .invokevirtual 165, 3, ([191, 3, 0, 10], .null)), 
  (120, .aload_n 0, 1, ([], .null)), (121, .getfield 57, 3, ([9, 19], .null)), (124, .iload_n 2, 1, ([], .null)), (125, .iaload, 1, ([], .null)), (126, .istore 4, 2, ([], .null)), 
  (128, .aload_n 0, 1, ([], .null)), (129, .getfield 60, 3, ([9, 20], .null)), (132, .iload_n 2, 1, ([], .null)), (133, .iaload, 1, ([], .null)), 
  (134, .aload_n 0, 1, ([], .null)), (135, .getfield 63, 3, ([9, 21], .null)), (138, .iload_n 2, 1, ([], .null)), (139, .iaload, 1, ([], .null)), (140, .iadd, 1, ([], .null)), 
  (141, .istore 5, 2, ([], .null)), (143, .aload_n 0, 1, ([], .null)), (144, .getfield 45, 3, ([9, 15], .null)), (147, .iload_n 2, 1, ([], .null)), (148, .iaload, 1, ([], .null)), 
  (149, .istore 6, 2, ([], .null)), (151, .aload_n 0, 1, ([], .null)), (152, .iload_n 1, 1, ([], .null)), (153, .invokevirtual 81, 3, ([175, 2, 0, 10], .null)), 
  (156, .aload_n 0, 1, ([], .null)), (157, .getfield 36, 3, ([9, 12], .null)), (160, .iload_n 1, 1, ([], .null)), (161, .iconst 1, 1, ([], .null)), 
  (162, .iastore, 1, ([], .null)), (163, .aload_n 0, 1, ([], .null)), (164, .getfield 39, 3, ([9, 13], .null)), (167, .iload_n 1, 1, ([], .null)), 
  (168, .aload_n 0, 1, ([], .null)), (169, .getfield 39, 3, ([9, 13], .null)), (172, .bipush 16, 2, ([], .null)), (174, .iaload, 1, ([], .null)), (175, .iastore, 1, ([], .null)), 
  (176, .aload_n 0, 1, ([], .null)), (177, .getfield 42, 3, ([9, 14], .null)), (180, .iload_n 1, 1, ([], .null)), (181, .aload_n 0, 1, ([], .null)), 
  (182, .getfield 42, 3, ([9, 14], .null)), (185, .bipush 16, 2, ([], .null)), (187, .iaload, 1, ([], .null)), (188, .iastore, 1, ([], .null)), (189, .aload_n 0, 1, ([], .null)), 
  (190, .getfield 45, 3, ([9, 15], .null)), (193, .iload_n 1, 1, ([], .null)), (194, .iload 4, 2, ([], .null)), (196, .bipush 7, 2, ([], .null)), 
  (198, .if_icmp .ne 19, 3, ([217], .null)), (201, .iload 6, 2, ([], .null)), (203, .bipush 64, 2, ([], .null)), (205, .iadd, 1, ([], .null)), (206, .bipush 64, 2, ([], .null)), 
  (208, .iload 5, 2, ([], .null)), (210, .imul, 1, ([], .null)), (211, .iload_n 3, 1, ([], .null)), (212, .imul, 1, ([], .null)), (213, .iadd, 1, ([], .null)), 
  (214, .goto 30, 3, ([244], .null)), (217, .iload 4, 2, ([], .null)), (219, .bipush 6, 2, ([], .null)), (221, .if_icmp .ne 13, 3, ([234], .null)), 
  (224, .iload 6, 2, ([], .null)), (226, .bipush 64, 2, ([], .null)), (228, .iload_n 3, 1, ([], .null)), (229, .imul, 1, ([], .null)), (230, .iadd, 1, ([], .null)), 
  (231, .goto 13, 3, ([244], .null)), (234, .iload 6, 2, ([], .null)), (236, .iload 4, 2, ([], .null)), (238, .invokestatic 120, 3, ([190, 1, 0, 0], .null)), 
  (241, .iload_n 3, 1, ([], .null)), (242, .imul, 1, ([], .null)), (243, .iadd, 1, ([], .null)), (244, .iastore, 1, ([], .null)), (245, .aload_n 0, 1, ([], .null)), 
  (246, .getfield 48, 3, ([9, 16], .null)), (249, .iload_n 1, 1, ([], .null)), (250, .iload 4, 2, ([], .null)), (252, .bipush 7, 2, ([], .null)), 
  (254, .if_icmp .ne 16, 3, ([270], .null)), (257, .bipush 64, 2, ([], .null)), (259, .aload_n 0, 1, ([], .null)), (260, .getfield 60, 3, ([9, 20], .null)), 
  (263, .bipush 16, 2, ([], .null)), (265, .iaload, 1, ([], .null)), (266, .imul, 1, ([], .null)), (267, .goto 8, 3, ([275], .null)), (270, .iload 4, 2, ([], .null)), 
  (272, .invokestatic 120, 3, ([190, 1, 0, 0], .null)), (275, .iastore, 1, ([], .null)), (276, .aload_n 0, 1, ([], .null)), (277, .getfield 51, 3, ([9, 17], .null)), 
  (280, .iload_n 1, 1, ([], .null)), (281, .iload 4, 2, ([], .null)), (283, .bipush 7, 2, ([], .null)), (285, .if_icmp .ne 13, 3, ([298], .null)), 
  (288, .aload_n 0, 1, ([], .null)), (289, .getfield 63, 3, ([9, 21], .null)), (292, .bipush 16, 2, ([], .null)), (294, .iaload, 1, ([], .null)), 
  (295, .goto 15, 3, ([310], .null)), (298, .iload 4, 2, ([], .null)), (300, .bipush 6, 2, ([], .null)), (302, .if_icmp .ne 7, 3, ([309], .null)), 
  (305, .iconst 1, 1, ([], .null)), (306, .goto 4, 3, ([310], .null)), (309, .iconst 0, 1, ([], .null)), (310, .iastore, 1, ([], .null)), (311, .iconst 1, 1, ([], .null)), 
  (312, .ireturn, 1, ([], .null))
]
def mi_M_element : pm_I := ((kc_M_element, []), 7, ⟨"SegmentDeskModel", "element", "(III)I"⟩, prog_13_method_27_code, (some .int), 3)
def kc_M_number : List (Nat × Instr × Nat × pm_L) := [
  (0, .aload_n 0, 1, ([], .null)), (1, .iconst 0, 1, ([], .null)), (2, .putfield 78, 3, ([9, 10, 0], .null)), (5, .aload_n 0, 1, ([], .null)), (6, .aload_n 0, 1, ([], .null)), 
  (7, .iload_n 1, 1, ([], .null)), (8, .invokevirtual 157, 3, ([181, 2, 0, 10], .null)), (11, .ifCond .eq 14, 3, ([25], .null)), (14, .iload_n 2, 1, ([], .null)), 
  (15, .invokestatic 186, 3, ([196, 1, 0, 0], .null)), (18, .ifCond .eq 7, 3, ([25], .null)), (21, .iload_n 3, 1, ([], .null)), (22, .ifCond .ge 7, 3, ([29], .null)), 
  (25, .iconst 1, 1, ([], .null)), (26, .goto 4, 3, ([30], .null)), (29, .iconst 0, 1, ([], .null)), (30, .iconst 1, 1, ([], .null)), 
  (31, .invokevirtual 93, 3, ([172, 3, 0, 10], .null)), (34, .ifCond .ne 26, 3, ([60], .null)), (37, .aload_n 0, 1, ([], .null)), (38, .aload_n 0, 1, ([], .null)), 
  (39, .getfield 36, 3, ([9, 12], .null)), (42, .iload_n 1, 1, ([], .null)), (43, .iaload, 1, ([], .null)), (44, .iconst 2, 1, ([], .null)), 
  (45, .if_icmp .ne 7, 3, ([52], .null)), (48, .iconst 1, 1, ([], .null)), (49, .goto 4, 3, ([53], .null)), (52, .iconst 0, 1, ([], .null)), (53, .iconst 2, 1, ([], .null)), 
  (54, .invokevirtual 93, 3, ([172, 3, 0, 10], .null)), (57, .ifCond .eq 5, 3, ([62], .null)), (60, .lconst 0, 1, ([], .null)), (61, .lreturn, 1, ([], .null)), 
  (62, .aload_n 0, 1, ([], .null)), (63, .iload_n 1, 1, ([], .null)), (64, .iload_n 2, 1, ([], .null)), (65, .iload_n 3, 1, ([], .null)), 
  (66, .invokevirtual 189, 3, ([197, 4, 0, 10], .null)), (69, .lload 4, 2, ([], .null)), (71, .iload_n 2, 1, ([], .null)), (72, .invokestatic 172, 3, ([200, 2, 0, 0], .null)), 
  (75, .lxor, 1, ([], .null)), (76, .iload_n 2, 1, ([], .null)), (77, .invokestatic 192, 3, ([201, 2, 0, 0], .null)), (80, .lreturn, 1, ([], .null))
]
def mi_M_number : pm_I := ((kc_M_number, []), 6, ⟨"SegmentDeskModel", "number", "(IIIJ)J"⟩, prog_13_method_35_code, (some .long), 4)
def kc_M_isWidth : List (Nat × Instr × Nat × pm_L) := [
  (0, .iload_n 0, 1, ([], .null)), (1, .iconst 1, 1, ([], .null)), (2, .if_icmp .eq 27, 3, ([29], .null)), (5, .iload_n 0, 1, ([], .null)), (6, .bipush 8, 2, ([], .null)), 
  (8, .if_icmp .eq 21, 3, ([29], .null)), (11, .iload_n 0, 1, ([], .null)), (12, .bipush 16, 2, ([], .null)), (14, .if_icmp .eq 15, 3, ([29], .null)), 
  (17, .iload_n 0, 1, ([], .null)), (18, .bipush 32, 2, ([], .null)), (20, .if_icmp .eq 9, 3, ([29], .null)), (23, .iload_n 0, 1, ([], .null)), (24, .bipush 64, 2, ([], .null)), 
  (26, .if_icmp .ne 7, 3, ([33], .null)), (29, .iconst 1, 1, ([], .null)), (30, .goto 4, 3, ([34], .null)), (33, .iconst 0, 1, ([], .null)), (34, .ireturn, 1, ([1], .null))
]
def mi_M_isWidth : pm_I := ((kc_M_isWidth, []), 1, ⟨"SegmentDeskModel", "isWidth", "(I)Z"⟩, prog_13_method_28_code, (some .boolean), 1)
def kc_M_field : List (Nat × Instr × Nat × pm_L) := [
  (0, .aload_n 0, 1, ([], .null)), (1, .iload_n 1, 1, ([], .null)), (2, .iload_n 2, 1, ([], .null)), (3, .iload_n 3, 1, ([], .null)), 
  (4, .invokevirtual 178, 3, ([198, 4, 0, 10], .null)), (7, .ifCond .eq 22, 3, ([29], .null)), (10, .aload_n 0, 1, ([], .null)), (11, .iload_n 1, 1, ([], .null)), 
  (12, .aload_n 0, 1, ([], .null)), (13, .getfield 45, 3, ([9, 15], .null)), (16, .iload_n 1, 1, ([], .null)), (17, .iaload, 1, ([], .null)), (18, .iload_n 3, 1, ([], .null)), 
  (19, .iload_n 2, 1, ([], .null)), (20, .imul, 1, ([], .null)), (21, .iadd, 1, ([], .null)), (22, .iload_n 2, 1, ([], .null)), 
  (23, .invokevirtual 182, 3, ([199, 4, 0, 10], .null)), (26, .goto 4, 3, ([30], .null)), (29, .lconst 0, 1, ([], .null)), (30, .lreturn, 1, ([], .null))
]
def mi_M_field : pm_I := ((kc_M_field, []), 4, ⟨"SegmentDeskModel", "field", "(III)J"⟩, prog_13_method_34_code, (some .long), 3)
def kc_M_hasField : List (Nat × Instr × Nat × pm_L) := [
  (0, .aload_n 0, 1, ([], .null)), (1, .getfield 36, 3, ([9, 12], .null)), (4, .iload_n 1, 1, ([], .null)), (5, .iaload, 1, ([], .null)), (6, .iconst 1, 1, ([], .null)), 
  (7, .if_icmp .ne 25, 3, ([32], .null)), (10, .iload_n 3, 1, ([], .null)), (11, .i2l, 1, ([], .null)), (12, .lconst 1, 1, ([], .null)), (13, .ladd, 1, ([], .null)), 
  (14, .iload_n 2, 1, ([], .null)), (15, .i2l, 1, ([], .null)), (16, .lmul, 1, ([], .null)), (17, .aload_n 0, 1, ([], .null)), (18, .getfield 48, 3, ([9, 16], .null)), 
  (21, .iload_n 1, 1, ([], .null)), (22, .iaload, 1, ([], .null)), (23, .i2l, 1, ([], .null)), (24, .lcmp, 1, ([], .null)), (25, .ifCond .gt 7, 3, ([32], .null)), 
  (28, .iconst 1, 1, ([], .null)), (29, .goto 4, 3, ([33], .null)), (32, .iconst 0, 1, ([], .null)), (33, .ireturn, 1, ([1], .null))
]
def mi_M_hasField : pm_I := ((kc_M_hasField, []), 4, ⟨"SegmentDeskModel", "hasField", "(III)Z"⟩, prog_13_method_33_code, (some .boolean), 3)
def kc_M_piece : List (Nat × Instr × Nat × pm_L) := [
  (0, .aload_n 0, 1, ([], .null)), (1, .getfield 7, 3, ([9, 0], .null)), (4, .bipush 64, 2, ([], .null)), (6, .aload_n 0, 1, ([], .null)), (7, .getfield 42, 3, ([9, 14], .null)), 
  (10, .iload_n 1, 1, ([], .null)), (11, .iaload, 1, ([], .null)), (12, .imul, 1, ([], .null)), (13, .iload_n 2, 1, ([], .null)), (14, .bipush 64, 2, ([], .null)), 
  (16, .idiv, 1, ([], .null)), (17, .iadd, 1, ([], .null)), (18, .laload, 1, ([], .null)), (19, .iload_n 2, 1, ([], .null)), (20, .bipush 64, 2, ([], .null)), 
  (22, .irem, 1, ([], .null)), (23, .lushr, 1, ([], .null)), (24, .iload_n 3, 1, ([], .null)), (25, .invokestatic 172, 3, ([200, 2, 0, 0], .null)), (28, .lreturn, 1, ([], .null))
]
def mi_M_piece : pm_I := ((kc_M_piece, []), 4, ⟨"SegmentDeskModel", "piece", "(III)J"⟩, prog_13_method_31_code, (some .long), 3)
def kc_M_cut : List (Nat × Instr × Nat × pm_L) := [
  (0, .iload_n 2, 1, ([], .null)), (1, .bipush 64, 2, ([], .null)), (3, .if_icmp .ne 7, 3, ([10], .null)), (6, .lload_n 0, 1, ([], .null)), (7, .goto 10, 3, ([17], .null)), 
  (10, .lload_n 0, 1, ([], .null)), (11, .lconst 1, 1, ([], .null)), (12, .iload_n 2, 1, ([], .null)), (13, .lshl, 1, ([], .null)), (14, .lconst 1, 1, ([], .null)), 
  (15, .lsub, 1, ([], .null)), (16, .land, 1, ([], .null)), (17, .lreturn, 1, ([], .null))
]
def mi_M_cut : pm_I := ((kc_M_cut, []), 3, ⟨"SegmentDeskModel", "cut", "(JI)J"⟩, prog_13_method_29_code, (some .long), 2)
def kc_M_signed : List (Nat × Instr × Nat × pm_L) := [
  (0, .iload_n 2, 1, ([], .null)), (1, .iconst 1, 1, ([], .null)), (2, .if_icmp .ne 7, 3, ([9], .null)), (5, .lload_n 0, 1, ([], .null)), (6, .goto 14, 3, ([20], .null)), 
  (9, .lload_n 0, 1, ([], .null)), (10, .bipush 64, 2, ([], .null)), (12, .iload_n 2, 1, ([], .null)), (13, .isub, 1, ([], .null)), (14, .lshl, 1, ([], .null)), 
  (15, .bipush 64, 2, ([], .null)), (17, .iload_n 2, 1, ([], .null)), (18, .isub, 1, ([], .null)), (19, .lshr, 1, ([], .null)), (20, .lreturn, 1, ([], .null))
]
def mi_M_signed : pm_I := ((kc_M_signed, []), 3, ⟨"SegmentDeskModel", "signed", "(JI)J"⟩, prog_13_method_30_code, (some .long), 2)
def kc_M_real : List (Nat × Instr × Nat × pm_L) := [
  (0, .aload_n 0, 1, ([], .null)), (1, .iconst 0, 1, ([], .null)), (2, .putfield 78, 3, ([9, 10, 0], .null)), (5, .aload_n 0, 1, ([], .null)), (6, .aload_n 0, 1, ([], .null)), 
  (7, .iload_n 1, 1, ([], .null)), (8, .invokevirtual 157, 3, ([181, 2, 0, 10], .null)), (11, .ifCond .eq 7, 3, ([18], .null)), (14, .iload_n 3, 1, ([], .null)), 
  (15, .ifCond .ge 7, 3, ([22], .null)), (18, .iconst 1, 1, ([], .null)), (19, .goto 4, 3, ([23], .null)), (22, .iconst 0, 1, ([], .null)), (23, .iconst 1, 1, ([], .null)), 
  (24, .invokevirtual 93, 3, ([172, 3, 0, 10], .null)), (27, .ifCond .ne 26, 3, ([53], .null)), (30, .aload_n 0, 1, ([], .null)), (31, .aload_n 0, 1, ([], .null)), 
  (32, .getfield 36, 3, ([9, 12], .null)), (35, .iload_n 1, 1, ([], .null)), (36, .iaload, 1, ([], .null)), (37, .iconst 2, 1, ([], .null)), 
  (38, .if_icmp .ne 7, 3, ([45], .null)), (41, .iconst 1, 1, ([], .null)), (42, .goto 4, 3, ([46], .null)), (45, .iconst 0, 1, ([], .null)), (46, .iconst 2, 1, ([], .null)), 
  (47, .invokevirtual 93, 3, ([172, 3, 0, 10], .null)), (50, .ifCond .eq 5, 3, ([55], .null)), (53, .dconst 0, 1, ([], .null)), (54, .dreturn, 1, ([], .null)), 
  (55, .aload_n 0, 1, ([], .null)), (56, .iload_n 1, 1, ([], .null)), (57, .iload_n 2, 1, ([], .null)), (58, .ifCond .eq 8, 3, ([66], .null)), (61, .bipush 64, 2, ([], .null)), 
  (63, .goto 5, 3, ([68], .null)), (66, .bipush 32, 2, ([], .null)), (68, .iload_n 3, 1, ([], .null)), (69, .invokevirtual 189, 3, ([197, 4, 0, 10], .null)), 
  (72, .lstore 4, 2, ([], .null)), (74, .iload_n 2, 1, ([], .null)), (75, .ifCond .eq 27, 3, ([102], .null)), (78, .lload 4, 2, ([], .null)), (80, .bipush 52, 2, ([], .null)), 
  (82, .lushr, 1, ([], .null)), (83, .ldc2_w 197, 3, ([], .long 2047)), (86, .land, 1, ([], .null)), (87, .ldc2_w 197, 3, ([], .long 2047)), (90, .lcmp, 1, ([], .null)), 
  (91, .ifCond .ne 7, 3, ([98], .null)), (94, .iconst 1, 1, ([], .null)), (95, .goto 28, 3, ([123], .null)), (98, .iconst 0, 1, ([], .null)), (99, .goto 24, 3, ([123], .null)), 
  (102, .lload 4, 2, ([], .null)), (104, .bipush 23, 2, ([], .null)), (106, .lushr, 1, ([], .null)), (107, .ldc2_w 199, 3, ([], .long 255)), (110, .land, 1, ([], .null)), 
  (111, .ldc2_w 199, 3, ([], .long 255)), (114, .lcmp, 1, ([], .null)), (115, .ifCond .ne 7, 3, ([122], .null)), (118, .iconst 1, 1, ([], .null)), 
  (119, .goto 4, 3, ([123], .null)), (122, .iconst 0, 1, ([], .null)), (123, .istore 6, 2, ([], .null)), (125, .aload_n 0, 1, ([], .null)), (126, .iload 6, 2, ([], .null)), 
  (128, .iconst 3, 1, ([], .null)), (129, .invokevirtual 93, 3, ([172, 3, 0, 10], .null)), (132, .ifCond .eq 5, 3, ([137], .null)), (135, .dconst 0, 1, ([], .null)), 
  (136, .dreturn, 1, ([], .null)), (137, .iload_n 2, 1, ([], .null)), (138, .ifCond .eq 15, 3, ([153], .null)), (141, .lload 4, 2, ([], .null)), (143, .bipush 52, 2, ([], .null)), 
  (145, .bipush 11, 2, ([], .null)), (147, .invokestatic 201, 3, ([203, 3, 0, 0], .null)), (150, .goto 12, 3, ([162], .null)), (153, .lload 4, 2, ([], .null)), 
  (155, .bipush 23, 2, ([], .null)), (157, .bipush 8, 2, ([], .null)), (159, .invokestatic 201, 3, ([203, 3, 0, 0], .null)), (162, .dreturn, 1, ([], .null))
]
def mi_M_real : pm_I := ((kc_M_real, []), 7, ⟨"SegmentDeskModel", "real", "(IZI)D"⟩, prog_13_method_37_code, (some .double), 3)
def kc_M_realOf : List (Nat × Instr × Nat × pm_L) := [
  (0, .lload_n 0, 1, ([], .null)), (1, .lconst 1, 1, ([], .null)), (2, .iload_n 2, 1, ([], .null)), (3, .lshl, 1, ([], .null)), (4, .lconst 1, 1, ([], .null)), 
  (5, .lsub, 1, ([], .null)), (6, .land, 1, ([], .null)), (7, .lstore 4, 2, ([], .null)), (9, .lload_n 0, 1, ([], .null)), (10, .iload_n 2, 1, ([], .null)), 
  (11, .lushr, 1, ([], .null)), (12, .l2i, 1, ([], .null)), (13, .iconst 1, 1, ([], .null)), (14, .iload_n 3, 1, ([], .null)), (15, .ishl, 1, ([], .null)), 
  (16, .iconst 1, 1, ([], .null)), (17, .isub, 1, ([], .null)), (18, .iand, 1, ([], .null)), (19, .istore 6, 2, ([], .null)), (21, .iload 6, 2, ([], .null)), 
  (23, .ifCond .ne 8, 3, ([31], .null)), (26, .lload 4, 2, ([], .null)), (28, .goto 9, 3, ([37], .null)), (31, .lload 4, 2, ([], .null)), (33, .lconst 1, 1, ([], .null)), 
  (34, .iload_n 2, 1, ([], .null)), (35, .lshl, 1, ([], .null)), (36, .lor, 1, ([], .null)), (37, .l2d, 1, ([], .null)), (38, .dstore 7, 2, ([], .null)), 
  (40, .iload 6, 2, ([], .null)), (42, .ifCond .ne 7, 3, ([49], .null)), (45, .iconst 1, 1, ([], .null)), (46, .goto 5, 3, ([51], .null)), (49, .iload 6, 2, ([], .null)), 
  (51, .iconst 1, 1, ([], .null)), (52, .iload_n 3, 1, ([], .null)), (53, .iconst 1, 1, ([], .null)), (54, .isub, 1, ([], .null)), (55, .ishl, 1, ([], .null)), 
  (56, .isub, 1, ([], .null)), (57, .iconst 1, 1, ([], .null)), (58, .iadd, 1, ([], .null)), (59, .iload_n 2, 1, ([], .null)), (60, .isub, 1, ([], .null)), 
  (61, .istore 9, 2, ([], .null)), (63, .iconst 0, 1, ([], .null)), (64, .istore 10, 2, ([], .null)), (66, .iload 10, 2, ([], .null)), (68, .iload 9, 2, ([], .null)), 
  (70, .if_icmp .ge 17, 3, ([87], .null)), (73, .dload 7, 2, ([], .null)), (75, .ldc2_w 195, 3, ([], .double 4611686018427387904)), (78, .dmul, 1, ([], .null)), 
  (79, .dstore 7, 2, ([], .null)), (81, .iinc 10 1, 3, ([], .null)), (84, .goto (-18), 3, ([66], .null)), (87, .iconst 0, 1, ([], .null)), (88, .istore 10, 2, ([], .null)), 
  (90, .iload 10, 2, ([], .null)), (92, .iload 9, 2, ([], .null)), (94, .if_icmp .le 17, 3, ([111], .null)), (97, .dload 7, 2, ([], .null)), 
  (99, .ldc2_w 195, 3, ([], .double 4611686018427387904)), (102, .ddiv, 1, ([], .null)), (103, .dstore 7, 2, ([], .null)), (105, .iinc 10 (-1), 3, ([], .null)), 
  (108, .goto (-18), 3, ([90], .null)), (111, .lload_n 0, 1, ([], .null)), (112, .iload_n 2, 1, ([], .null)), (113, .iload_n 3, 1, ([], .null)), (114, .iadd, 1, ([], .null)), 
  (115, .lushr, 1, ([], .null)), (116, .lconst 1, 1, ([], .null)), (117, .land, 1, ([], .null)), (118, .lconst 1, 1, ([], .null)), (119, .lcmp, 1, ([], .null)), 
  (120, .ifCond .ne 9, 3, ([129], .null)), (123, .dload 7, 2, ([], .null)), (125, .dneg, 1, ([], .null)), (126, .goto 5, 3, ([131], .null)), (129, .dload 7, 2, ([], .null)), 
  (131, .dreturn, 1, ([], .null))
]
def mi_M_realOf : pm_I := ((kc_M_realOf, []), 11, ⟨"SegmentDeskModel", "realOf", "(JII)D"⟩, prog_13_method_36_code, (some .double), 3)
def kc_M_item : List (Nat × Instr × Nat × pm_L) := [
  (0, .aload_n 0, 1, ([], .null)), (1, .iconst 0, 1, ([], .null)), (2, .putfield 78, 3, ([9, 10, 0], .null)), (5, .aload_n 0, 1, ([], .null)), (6, .aload_n 0, 1, ([], .null)), 
  (7, .iload_n 1, 1, ([], .null)), (8, .invokevirtual 157, 3, ([181, 2, 0, 10], .null)), (11, .ifCond .ne 7, 3, ([18], .null)), (14, .iconst 1, 1, ([], .null)), 
  (15, .goto 4, 3, ([19], .null)), (18, .iconst 0, 1, ([], .null)), (19, .iconst 1, 1, ([], .null)), (20, .invokevirtual 93, 3, ([172, 3, 0, 10], .null)), 
  (23, .ifCond .ne 67, 3, ([90], .null)), (26, .aload_n 0, 1, ([], .null)), (27, .aload_n 0, 1, ([], .null)), (28, .getfield 36, 3, ([9, 12], .null)), 
  (31, .iload_n 1, 1, ([], .null)), (32, .iaload, 1, ([], .null)), (33, .iconst 2, 1, ([], .null)), (34, .if_icmp .ne 13, 3, ([47], .null)), (37, .aload_n 0, 1, ([], .null)), 
  (38, .getfield 57, 3, ([9, 19], .null)), (41, .iload_n 1, 1, ([], .null)), (42, .iaload, 1, ([], .null)), (43, .iconst 5, 1, ([], .null)), 
  (44, .if_icmp .le 7, 3, ([51], .null)), (47, .iconst 1, 1, ([], .null)), (48, .goto 4, 3, ([52], .null)), (51, .iconst 0, 1, ([], .null)), (52, .iconst 2, 1, ([], .null)), 
  (53, .invokevirtual 93, 3, ([172, 3, 0, 10], .null)), (56, .ifCond .ne 34, 3, ([90], .null)), (59, .aload_n 0, 1, ([], .null)), (60, .iload_n 2, 1, ([], .null)), 
  (61, .i2l, 1, ([], .null)), (62, .lconst 0, 1, ([], .null)), (63, .aload_n 0, 1, ([], .null)), (64, .getfield 54, 3, ([9, 18], .null)), (67, .iload_n 1, 1, ([], .null)), 
  (68, .iaload, 1, ([], .null)), (69, .iconst 1, 1, ([], .null)), (70, .isub, 1, ([], .null)), (71, .i2l, 1, ([], .null)), (72, .invokestatic 87, 3, ([171, 3, 0, 0], .null)), 
  (75, .ifCond .ne 7, 3, ([82], .null)), (78, .iconst 1, 1, ([], .null)), (79, .goto 4, 3, ([83], .null)), (82, .iconst 0, 1, ([], .null)), (83, .iconst 1, 1, ([], .null)), 
  (84, .invokevirtual 93, 3, ([172, 3, 0, 10], .null)), (87, .ifCond .eq 5, 3, ([92], .null)), (90, .lconst 0, 1, ([], .null)), (91, .lreturn, 1, ([], .null)), 
  (92, .aload_n 0, 1, ([], .null)), (93, .getfield 57, 3, ([9, 19], .null)), (96, .iload_n 1, 1, ([], .null)), (97, .iaload, 1, ([], .null)), 
  (98, .invokestatic 120, 3, ([190, 1, 0, 0], .null)), (101, .istore_n 3, 1, ([], .null)), (102, .iload_n 3, 1, ([], .null)), (103, .ifCond .ne 7, 3, ([110], .null)), 
  (106, .lconst 0, 1, ([], .null)), (107, .goto 23, 3, ([130], .null)), (110, .aload_n 0, 1, ([], .null)), (111, .iload_n 1, 1, ([], .null)), (112, .aload_n 0, 1, ([], .null)), 
  (113, .getfield 45, 3, ([9, 15], .null)), (116, .iload_n 1, 1, ([], .null)), (117, .iaload, 1, ([], .null)), (118, .iload_n 2, 1, ([], .null)), 
  (119, .iload_n 3, 1, ([], .null)), (120, .imul, 1, ([], .null)), (121, .iadd, 1, ([], .null)), (122, .iload_n 3, 1, ([], .null)), 
  (123, .invokevirtual 182, 3, ([199, 4, 0, 10], .null)), (126, .iload_n 3, 1, ([], .null)), (127, .invokestatic 192, 3, ([201, 2, 0, 0], .null)), (130, .lreturn, 1, ([], .null))
]
def mi_M_item : pm_I := ((kc_M_item, []), 4, ⟨"SegmentDeskModel", "item", "(II)J"⟩, prog_13_method_38_code, (some .long), 2)
def kc_M_look : List (Nat × Instr × Nat × pm_L) := [
  (0, .aload_n 0, 1, ([], .null)), (1, .iconst 0, 1, ([], .null)), (2, .putfield 78, 3, ([9, 10, 0], .null)), (5, .aload_n 0, 1, ([], .null)), (6, .aload_n 0, 1, ([], .null)), 
  (7, .iload_n 1, 1, ([], .null)), (8, .invokevirtual 157, 3, ([181, 2, 0, 10], .null)), (11, .ifCond .eq 15, 3, ([26], .null)), (14, .iload_n 2, 1, ([], .null)), 
  (15, .i2l, 1, ([], .null)), (16, .lconst 0, 1, ([], .null)), (17, .ldc2_w 118, 3, ([], .long 7)), (20, .invokestatic 87, 3, ([171, 3, 0, 0], .null)), 
  (23, .ifCond .ne 7, 3, ([30], .null)), (26, .iconst 1, 1, ([], .null)), (27, .goto 4, 3, ([31], .null)), (30, .iconst 0, 1, ([], .null)), (31, .iconst 1, 1, ([], .null)), 
  (32, .invokevirtual 93, 3, ([172, 3, 0, 10], .null)), (35, .ifCond .ne 12, 3, ([47], .null)), (38, .aload_n 0, 1, ([], .null)), (39, .getfield 36, 3, ([9, 12], .null)), 
  (42, .iload_n 1, 1, ([], .null)), (43, .iaload, 1, ([], .null)), (44, .ifCond .ne 5, 3, ([49], .null)), (47, .iconst 0, 1, ([], .null)), (48, .ireturn, 1, ([], .null)), 
  (49, .aload_n 0, 1, ([], .null)), (50, .getfield 36, 3, ([9, 12], .null)), (53, .iload_n 1, 1, ([], .null)), (54, .iaload, 1, ([], .null)), (55, .iconst 2, 1, ([], .null)), 
  (56, .if_icmp .ne 7, 3, ([63], .null)), (59, .iconst 1, 1, ([], .null)), (60, .goto 4, 3, ([64], .null)), (63, .iconst 0, 1, ([], .null)), (64, .istore_n 3, 1, ([], .null)), 
  (65, .iload_n 2, 1, ([], .null)), (66, .tableswitch 118 0 6 #[42, 49, 56, 63, 73, 88, 103], 42, ([184, 108, 115, 122, 129, 139, 154, 169], .null)), 
  (108, .aload_n 0, 1, ([], .null)), (109, .getfield 36, 3, ([9, 12], .null)), (112, .iload_n 1, 1, ([], .null)), (113, .iaload, 1, ([], .null)), (114, .ireturn, 1, ([], .null)), 
  (115, .aload_n 0, 1, ([], .null)), (116, .getfield 39, 3, ([9, 13], .null)), (119, .iload_n 1, 1, ([], .null)), (120, .iaload, 1, ([], .null)), (121, .ireturn, 1, ([], .null)), 
  (122, .aload_n 0, 1, ([], .null)), (123, .getfield 42, 3, ([9, 14], .null)), (126, .iload_n 1, 1, ([], .null)), (127, .iaload, 1, ([], .null)), (128, .ireturn, 1, ([], .null)), 
  (129, .aload_n 0, 1, ([], .null)), (130, .getfield 45, 3, ([9, 15], .null)), (133, .iload_n 1, 1, ([], .null)), (134, .iaload, 1, ([], .null)), 
  (135, .bipush 64, 2, ([], .null)), (137, .idiv, 1, ([], .null)), (138, .ireturn, 1, ([], .null)), (139, .iload_n 3, 1, ([], .null)), (140, .ifCond .eq 7, 3, ([147], .null)), 
  (143, .iconst 0, 1, ([], .null)), (144, .goto 9, 3, ([153], .null)), (147, .aload_n 0, 1, ([], .null)), (148, .getfield 48, 3, ([9, 16], .null)), 
  (151, .iload_n 1, 1, ([], .null)), (152, .iaload, 1, ([], .null)), (153, .ireturn, 1, ([], .null)), (154, .iload_n 3, 1, ([], .null)), (155, .ifCond .eq 7, 3, ([162], .null)), 
  (158, .iconst 0, 1, ([], .null)), (159, .goto 9, 3, ([168], .null)), (162, .aload_n 0, 1, ([], .null)), (163, .getfield 51, 3, ([9, 17], .null)), 
  (166, .iload_n 1, 1, ([], .null)), (167, .iaload, 1, ([], .null)), (168, .ireturn, 1, ([], .null)), (169, .iload_n 3, 1, ([], .null)), (170, .ifCond .eq 12, 3, ([182], .null)), 
  (173, .aload_n 0, 1, ([], .null)), (174, .getfield 54, 3, ([9, 18], .null)), (177, .iload_n 1, 1, ([], .null)), (178, .iaload, 1, ([], .null)), 
  (179, .goto 4, 3, ([183], .null)), (182, .iconst 0, 1, ([], .null)), (183, .ireturn, 1, ([], .null)), (184, .iload_n 3, 1, ([], .null)), 
  (185, .ifCond .eq 12, 3, ([197], .null)), (188, .aload_n 0, 1, ([], .null)), (189, .getfield 57, 3, ([9, 19], .null)), (192, .iload_n 1, 1, ([], .null)), 
  (193, .iaload, 1, ([], .null)), (194, .goto 4, 3, ([198], .null)), (197, .iconst 0, 1, ([], .null)), (198, .ireturn, 1, ([], .null))
]
def mi_M_look : pm_I := ((kc_M_look, []), 4, ⟨"SegmentDeskModel", "look", "(II)I"⟩, prog_13_method_39_code, (some .int), 2)
def kc_M_begin : List (Nat × Instr × Nat × pm_L) := [
  (0, .aload_n 0, 1, ([], .null)), (1, .iconst 0, 1, ([], .null)), (2, .putfield 78, 3, ([9, 10, 0], .null)), (5, .aload_n 0, 1, ([], .null)), (6, .iload_n 1, 1, ([], .null)), 
  (7, .i2l, 1, ([], .null)), (8, .lconst 1, 1, ([], .null)), (9, .ldc2_w 91, 3, ([], .long 64)), (12, .invokestatic 87, 3, ([171, 3, 0, 0], .null)), 
  (15, .ifCond .ne 7, 3, ([22], .null)), (18, .iconst 1, 1, ([], .null)), (19, .goto 4, 3, ([23], .null)), (22, .iconst 0, 1, ([], .null)), (23, .iconst 1, 1, ([], .null)), 
  (24, .invokevirtual 93, 3, ([172, 3, 0, 10], .null)), (27, .ifCond .eq 4, 3, ([31], .null)), (30, .return_, 1, ([], .null)), (31, .aload_n 0, 1, ([], .null)), 
  (32, .iload_n 1, 1, ([], .null)), (33, .putfield 205, 3, ([9, 9, 0], .null)), (36, .aload_n 0, 1, ([], .null)), (37, .iconst 1, 1, ([], .null)), 
  (38, .putfield 29, 3, ([9, 6, 0], .null)), (41, .iconst 0, 1, ([], .null)), (42, .istore_n 2, 1, ([], .null)), (43, .iload_n 2, 1, ([], .null)), (44, .iconst 4, 1, ([], .null)), 
  (45, .if_icmp .ge 15, 3, ([60], .null)), (48, .aload_n 0, 1, ([], .null)), (49, .iload_n 2, 1, ([], .null)), (50, .iconst 0, 1, ([], .null)), 
  (51, .invokevirtual 97, 3, ([173, 3, 0, 10], .null)), (54, .iinc 2 1, 3, ([], .null)), (57, .goto (-14), 3, ([43], .null)), (60, .aload_n 0, 1, ([], .null)), 
  (61, .getfield 19, 3, ([9, 3], .null)), (64, .iconst 0, 1, ([], .null)), (65, .iconst 1, 1, ([], .null)), (66, .iastore, 1, ([], .null)), (67, .aload_n 0, 1, ([], .null)), 
  (68, .iconst 1, 1, ([], .null)), (69, .putfield 101, 3, ([9, 11, 4], .null)), (72, .aload_n 0, 1, ([], .null)), (73, .invokevirtual 105, 3, ([174, 1, 0, 10], .null)), 
  (76, .return_, 1, ([], .null))
]
def mi_M_begin : pm_I := ((kc_M_begin, []), 3, ⟨"SegmentDeskModel", "begin", "(I)V"⟩, prog_13_method_40_code, none, 1)
def kc_M_struct : List (Nat × Instr × Nat × pm_L) := [
  (0, .aload_n 0, 1, ([], .null)), (1, .iconst 0, 1, ([], .null)), (2, .putfield 78, 3, ([9, 10, 0], .null)), (5, .aload_n 0, 1, ([], .null)), (6, .aload_n 0, 1, ([], .null)), 
  (7, .iload_n 1, 1, ([], .null)), (8, .invokevirtual 157, 3, ([181, 2, 0, 10], .null)), (11, .ifCond .eq 50, 3, ([61], .null)), (14, .iload_n 2, 1, ([], .null)), 
  (15, .i2l, 1, ([], .null)), (16, .ldc2_w 176, 3, ([], .long (-1))), (19, .ldc2_w 155, 3, ([], .long 15)), (22, .invokestatic 87, 3, ([171, 3, 0, 0], .null)), 
  (25, .ifCond .eq 36, 3, ([61], .null)), (28, .iload 4, 2, ([], .null)), (30, .i2l, 1, ([], .null)), (31, .lconst 0, 1, ([], .null)), (32, .ldc2_w 226, 3, ([], .long 20)), 
  (35, .invokestatic 87, 3, ([171, 3, 0, 0], .null)), (38, .ifCond .eq 23, 3, ([61], .null)), (41, .iload 5, 2, ([], .null)), (43, .i2l, 1, ([], .null)), 
  (44, .lconst 0, 1, ([], .null)), (45, .ldc2_w 226, 3, ([], .long 20)), (48, .invokestatic 87, 3, ([171, 3, 0, 0], .null)), (51, .ifCond .eq 10, 3, ([61], .null)), 
  (54, .aload_n 0, 1, ([], .null)), (55, .getfield 101, 3, ([9, 11], .null)), (58, .ifCond .ne 7, 3, ([65], .null)), (61, .iconst 1, 1, ([], .null)), 
  (62, .goto 4, 3, ([66], .null)), (65, .iconst 0, 1, ([], .null)), (66, .iconst 1, 1, ([], .null)), (67, .invokevirtual 93, 3, ([172, 3, 0, 10], .null)), 
  (70, .ifCond .eq 5, 3, ([75], .null)), (73, .iconst 0, 1, ([], .null)), (74, .ireturn, 1, ([], .null)), (75, .aload_n 0, 1, ([], .null)), (76, .iload_n 2, 1, ([], .null)), 
  (77, .iload_n 3, 1, ([], .null)), (78, .iload 4, 2, ([], .null)), (80, .iload 5, 2, ([], .null)), (82, .iadd, 1, ([], .null)), (83, .iload 4, 2, ([], .null)), 
  (85, .i2l, 1, ([], .null)), (86, .bipush 32, 2, ([], .null)), (88, .lshl, 1, ([], .null)), (89, .iload 5, 2, ([], .null)), (91, .i2l, 1, ([], .null)), 
  (92, .bipush 48, 2, ([], .null)), (94, .lshl, 1, ([], .null)), (95, .lor, 1, ([], .null)), (96, .invokevirtual 228, 3, ([208, 5, 0, 10], .null)), 
  (99, .istore 6, 2, ([], .null)), (101, .aload_n 0, 1, ([], .null)), (102, .getfield 78, 3, ([9, 10], .null)), (105, .ifCond .eq 5, 3, ([110], .null)), 
  (108, .iconst 0, 1, ([], .null)), (109, .ireturn, 1, ([], .null)), (110, .aload_n 0, 1, ([], .null)), (111, .iload_n 1, 1, ([], .null)), (112, .iconst 1, 1, ([], .null)), 
  (113, .iload 6, 2, ([], .null)), (115, .invokevirtual 231, 3, ([214, 4, 0, 10], .null)), (118, .aload_n 0, 1, ([], .null)), (119, .getfield 48, 3, ([9, 16], .null)), 
  (122, .iload_n 1, 1, ([], .null)), (123, .bipush 64, 2, ([], .null)), (125, .iload 4, 2, ([], .null)), (127, .imul, 1, ([], .null)), (128, .iastore, 1, ([], .null)), 
  (129, .aload_n 0, 1, ([], .null)), (130, .getfield 51, 3, ([9, 17], .null)), (133, .iload_n 1, 1, ([], .null)), (134, .iload 5, 2, ([], .null)), (136, .iastore, 1, ([], .null)), 
  (137, .iconst 1, 1, ([], .null)), (138, .ireturn, 1, ([], .null))
]
def mi_M_struct : pm_I := ((kc_M_struct, []), 7, ⟨"SegmentDeskModel", "struct", "(IIIII)I"⟩, prog_13_method_48_code, (some .int), 5)
def kc_M_made : List (Nat × Instr × Nat × pm_L) := [
  (0, .iload_n 1, 1, ([], .null)), (1, .ifCond .ge 33, 3, ([34], .null)), (4, .aload_n 0, 1, ([], .null)), (5, .iconst 0, 1, ([], .null)), (6, .iconst 0, 1, ([], .null)), 
  (7, .iload_n 3, 1, ([], .null)), (8, .lload 4, 2, ([], .null)), (10, .invokevirtual 222, 3, ([209, 5, 0, 10], .null)), (13, .istore 6, 2, ([], .null)), 
  (15, .aload_n 0, 1, ([], .null)), (16, .iload 6, 2, ([], .null)), (18, .ifCond .ge 7, 3, ([25], .null)), (21, .iconst 1, 1, ([], .null)), (22, .goto 4, 3, ([26], .null)), 
  (25, .iconst 0, 1, ([], .null)), (26, .iconst 3, 1, ([], .null)), (27, .invokevirtual 93, 3, ([172, 3, 0, 10], .null)), (30, .pop, 1, ([], .null)), 
  (31, .iload 6, 2, ([], .null)), (33, .ireturn, 1, ([], .null)), (34, .aload_n 0, 1, ([], .null)), (35, .aload_n 0, 1, ([], .null)), (36, .getfield 36, 3, ([9, 12], .null)), 
  (39, .iload_n 1, 1, ([], .null)), (40, .iaload, 1, ([], .null)), (41, .ifCond .eq 24, 3, ([65], .null)), (44, .aload_n 0, 1, ([], .null)), 
  (45, .getfield 36, 3, ([9, 12], .null)), (48, .iload_n 1, 1, ([], .null)), (49, .iaload, 1, ([], .null)), (50, .iconst 2, 1, ([], .null)), 
  (51, .if_icmp .ne 18, 3, ([69], .null)), (54, .aload_n 0, 1, ([], .null)), (55, .getfield 57, 3, ([9, 19], .null)), (58, .iload_n 1, 1, ([], .null)), 
  (59, .iaload, 1, ([], .null)), (60, .bipush 6, 2, ([], .null)), (62, .if_icmp .eq 7, 3, ([69], .null)), (65, .iconst 1, 1, ([], .null)), (66, .goto 4, 3, ([70], .null)), 
  (69, .iconst 0, 1, ([], .null)), (70, .iconst 2, 1, ([], .null)), (71, .invokevirtual 93, 3, ([172, 3, 0, 10], .null)), (74, .ifCond .eq 5, 3, ([79], .null)), 
  (77, .iconst (-1), 1, ([], .null)), (78, .ireturn, 1, ([], .null)), (79, .aload_n 0, 1, ([], .null)), (80, .iload_n 1, 1, ([], .null)), (81, .iload_n 2, 1, ([], .null)), 
  (82, .invokevirtual 168, 3, ([193, 3, 0, 10], .null)), (85, .istore 6, 2, ([], .null)), (87, .aload_n 0, 1, ([], .null)), (88, .iload 6, 2, ([], .null)), 
  (90, .ifCond .ge 7, 3, ([97], .null)), (93, .iconst 1, 1, ([], .null)), (94, .goto 4, 3, ([98], .null)), (97, .iconst 0, 1, ([], .null)), (98, .iconst 1, 1, ([], .null)), 
  (99, .invokevirtual 93, 3, ([172, 3, 0, 10], .null)), (102, .ifCond .eq 5, 3, ([107], .null)), (105, .iconst (-1), 1, ([], .null)), (106, .ireturn, 1, ([], .null)), 
  (107, .aload_n 0, 1, ([], .null)), (108, .aload_n 0, 1, ([], .null)), (109, .getfield 42, 3, ([9, 14], .null)), (112, .iload_n 1, 1, ([], .null)), 
  (113, .iaload, 1, ([], .null)), (114, .iload 6, 2, ([], .null)), (116, .iload_n 3, 1, ([], .null)), (117, .lload 4, 2, ([], .null)), 
  (119, .invokevirtual 222, 3, ([209, 5, 0, 10], .null)), (122, .istore 7, 2, ([], .null)), (124, .aload_n 0, 1, ([], .null)), (125, .iload 7, 2, ([], .null)), 
  (127, .ifCond .ge 7, 3, ([134], .null)), (130, .iconst 1, 1, ([], .null)), (131, .goto 4, 3, ([135], .null)), (134, .iconst 0, 1, ([], .null)), (135, .iconst 3, 1, ([], .null)), 
  (136, .invokevirtual 93, 3, ([172, 3, 0, 10], .null)), (139, .pop, 1, ([], .null)), (140, .iload 7, 2, ([], .null)), (142, .ireturn, 1, ([], .null))
]
def mi_M_made : pm_I := ((kc_M_made, []), 8, ⟨"SegmentDeskModel", "made", "(IIIJ)I"⟩, prog_13_method_46_code, (some .int), 4)
def kc_M_allocated : List (Nat × Instr × Nat × pm_L) := [
  (0, .bipush 64, 2, ([], .null)), (2, .iload_n 1, 1, ([], .null)), (3, .imul, 1, ([], .null)), (4, .iload_n 2, 1, ([], .null)), (5, .iadd, 1, ([], .null)), 
  (6, .istore 6, 2, ([], .null)), (8, .iload_n 3, 1, ([], .null)), (9, .ifCond .ne 35, 3, ([44], .null)), (12, .lload 4, 2, ([], .null)), (14, .ldc2_w 108, 3, ([], .long 3)), 
  (17, .land, 1, ([], .null)), (18, .lconst 0, 1, ([], .null)), (19, .lcmp, 1, ([], .null)), (20, .ifCond .ne 24, 3, ([44], .null)), (23, .aload_n 0, 1, ([], .null)), 
  (24, .getfield 7, 3, ([9, 0], .null)), (27, .iload 6, 2, ([], .null)), (29, .lload 4, 2, ([], .null)), (31, .iconst (-1), 1, ([], .null)), 
  (32, .invokestatic 210, 3, ([210, 2, 0, 0], .null)), (35, .lastore, 1, ([], .null)), (36, .sipush 128, 3, ([], .null)), (39, .iload_n 1, 1, ([], .null)), 
  (40, .imul, 1, ([], .null)), (41, .iload_n 2, 1, ([], .null)), (42, .iadd, 1, ([], .null)), (43, .ireturn, 1, ([], .null)), (44, .aload_n 0, 1, ([], .null)), 
  (45, .getfield 205, 3, ([9, 9], .null)), (48, .aload_n 0, 1, ([], .null)), (49, .getfield 19, 3, ([9, 3], .null)), (52, .iload_n 1, 1, ([], .null)), 
  (53, .iaload, 1, ([], .null)), (54, .isub, 1, ([], .null)), (55, .iload_n 3, 1, ([], .null)), (56, .if_icmp .lt 38, 3, ([94], .null)), (59, .aload_n 0, 1, ([], .null)), 
  (60, .iload_n 1, 1, ([], .null)), (61, .iload_n 3, 1, ([], .null)), (62, .invokevirtual 213, 3, ([211, 3, 0, 10], .null)), (65, .istore 8, 2, ([], .null)), 
  (67, .aload_n 0, 1, ([], .null)), (68, .getfield 7, 3, ([9, 0], .null)), (71, .iload 6, 2, ([], .null)), (73, .lload 4, 2, ([], .null)), (75, .iload 8, 2, ([], .null)), 
  (77, .iload_n 2, 1, ([], .null)), (78, .isub, 1, ([], .null)), (79, .iconst 1, 1, ([], .null)), (80, .isub, 1, ([], .null)), (81, .invokestatic 210, 3, ([210, 2, 0, 0], .null)), 
  (84, .lastore, 1, ([], .null)), (85, .sipush 128, 3, ([], .null)), (88, .iload_n 1, 1, ([], .null)), (89, .imul, 1, ([], .null)), (90, .iload 8, 2, ([], .null)), 
  (92, .iadd, 1, ([], .null)), (93, .ireturn, 1, ([], .null)), (94, .aload_n 0, 1, ([], .null)), (95, .iload_n 3, 1, ([], .null)), (96, .iconst 1, 1, ([], .null)), 
  (97, .iadd, 1, ([], .null)), (98, .invokevirtual 216, 3, ([212, 2, 0, 10], .null)), (101, .istore 7, 2, ([], .null)), (103, .aload_n 0, 1, ([], .null)), 
  (104, .iload_n 3, 1, ([], .null)), (105, .invokevirtual 216, 3, ([212, 2, 0, 10], .null)), (108, .istore 8, 2, ([], .null)), (110, .iconst (-1), 1, ([], .null)), 
  (111, .istore 9, 2, ([], .null)), (113, .iconst 0, 1, ([], .null)), (114, .istore 10, 2, ([], .null)), (116, .iload 10, 2, ([], .null)), (118, .aload_n 0, 1, ([], .null)), 
  (119, .getfield 29, 3, ([9, 6], .null)), (122, .if_icmp .ge 52, 3, ([174], .null)), (125, .iload 8, 2, ([], .null)), (127, .ifCond .lt 47, 3, ([174], .null)), 
  (130, .iload 9, 2, ([], .null)), (132, .ifCond .ge 36, 3, ([168], .null)), (135, .aload_n 0, 1, ([], .null)), (136, .getfield 205, 3, ([9, 9], .null)), 
  (139, .aload_n 0, 1, ([], .null)), (140, .getfield 19, 3, ([9, 3], .null)), (143, .iload 10, 2, ([], .null)), (145, .iaload, 1, ([], .null)), (146, .isub, 1, ([], .null)), 
  (147, .iload 10, 2, ([], .null)), (149, .iload 8, 2, ([], .null)), (151, .if_icmp .ne 7, 3, ([158], .null)), (154, .iload_n 3, 1, ([], .null)), 
  (155, .goto 4, 3, ([159], .null)), (158, .iconst 0, 1, ([], .null)), (159, .isub, 1, ([], .null)), (160, .iconst 2, 1, ([], .null)), (161, .if_icmp .lt 7, 3, ([168], .null)), 
  (164, .iload 10, 2, ([], .null)), (166, .istore 9, 2, ([], .null)), (168, .iinc 10 1, 3, ([], .null)), (171, .goto (-55), 3, ([116], .null)), (174, .iload 7, 2, ([], .null)), 
  (176, .ifCond .ge 89, 3, ([265], .null)), (179, .iload 9, 2, ([], .null)), (181, .ifCond .lt 84, 3, ([265], .null)), (184, .aload_n 0, 1, ([], .null)), 
  (185, .iload 8, 2, ([], .null)), (187, .iload_n 3, 1, ([], .null)), (188, .invokevirtual 213, 3, ([211, 3, 0, 10], .null)), (191, .istore 10, 2, ([], .null)), 
  (193, .aload_n 0, 1, ([], .null)), (194, .iload 9, 2, ([], .null)), (196, .iconst 2, 1, ([], .null)), (197, .invokevirtual 213, 3, ([211, 3, 0, 10], .null)), 
  (200, .istore 11, 2, ([], .null)), (202, .aload_n 0, 1, ([], .null)), (203, .getfield 7, 3, ([9, 0], .null)), (206, .bipush 64, 2, ([], .null)), (208, .iload 9, 2, ([], .null)), 
  (210, .imul, 1, ([], .null)), (211, .iload 11, 2, ([], .null)), (213, .iadd, 1, ([], .null)), (214, .iload 8, 2, ([], .null)), (216, .iload 10, 2, ([], .null)), 
  (218, .iconst 0, 1, ([], .null)), (219, .invokestatic 219, 3, ([213, 3, 0, 0], .null)), (222, .lastore, 1, ([], .null)), (223, .aload_n 0, 1, ([], .null)), 
  (224, .getfield 7, 3, ([9, 0], .null)), (227, .bipush 64, 2, ([], .null)), (229, .iload 9, 2, ([], .null)), (231, .imul, 1, ([], .null)), (232, .iload 11, 2, ([], .null)), 
  (234, .iadd, 1, ([], .null)), (235, .iconst 1, 1, ([], .null)), (236, .iadd, 1, ([], .null)), (237, .lload 4, 2, ([], .null)), (239, .lastore, 1, ([], .null)), 
  (240, .aload_n 0, 1, ([], .null)), (241, .getfield 7, 3, ([9, 0], .null)), (244, .iload 6, 2, ([], .null)), (246, .iload 9, 2, ([], .null)), (248, .iload 11, 2, ([], .null)), 
  (250, .iconst 1, 1, ([], .null)), (251, .invokestatic 219, 3, ([213, 3, 0, 0], .null)), (254, .lastore, 1, ([], .null)), (255, .sipush 128, 3, ([], .null)), 
  (258, .iload 8, 2, ([], .null)), (260, .imul, 1, ([], .null)), (261, .iload 10, 2, ([], .null)), (263, .iadd, 1, ([], .null)), (264, .ireturn, 1, ([], .null)), 
  (265, .iload 7, 2, ([], .null)), (267, .ifCond .ge 37, 3, ([304], .null)), (270, .aload_n 0, 1, ([], .null)), (271, .getfield 29, 3, ([9, 6], .null)), 
  (274, .iconst 4, 1, ([], .null)), (275, .if_icmp .ge 29, 3, ([304], .null)), (278, .iload_n 3, 1, ([], .null)), (279, .iconst 1, 1, ([], .null)), (280, .iadd, 1, ([], .null)), 
  (281, .aload_n 0, 1, ([], .null)), (282, .getfield 205, 3, ([9, 9], .null)), (285, .if_icmp .gt 19, 3, ([304], .null)), (288, .aload_n 0, 1, ([], .null)), 
  (289, .getfield 29, 3, ([9, 6], .null)), (292, .istore 7, 2, ([], .null)), (294, .aload_n 0, 1, ([], .null)), (295, .dup, 1, ([], .null)), 
  (296, .getfield 29, 3, ([9, 6], .null)), (299, .iconst 1, 1, ([], .null)), (300, .iadd, 1, ([], .null)), (301, .putfield 29, 3, ([9, 6, 0], .null)), 
  (304, .iload 7, 2, ([], .null)), (306, .ifCond .ge 5, 3, ([311], .null)), (309, .iconst (-1), 1, ([], .null)), (310, .ireturn, 1, ([], .null)), 
  (311, .aload_n 0, 1, ([], .null)), (312, .iload 7, 2, ([], .null)), (314, .iload_n 3, 1, ([], .null)), (315, .iconst 1, 1, ([], .null)), (316, .iadd, 1, ([], .null)), 
  (317, .invokevirtual 213, 3, ([211, 3, 0, 10], .null)), (320, .istore 10, 2, ([], .null)), (322, .aload_n 0, 1, ([], .null)), (323, .getfield 7, 3, ([9, 0], .null)), 
  (326, .bipush 64, 2, ([], .null)), (328, .iload 7, 2, ([], .null)), (330, .imul, 1, ([], .null)), (331, .iload 10, 2, ([], .null)), (333, .iadd, 1, ([], .null)), 
  (334, .lload 4, 2, ([], .null)), (336, .lastore, 1, ([], .null)), (337, .aload_n 0, 1, ([], .null)), (338, .getfield 7, 3, ([9, 0], .null)), (341, .iload 6, 2, ([], .null)), 
  (343, .iload 7, 2, ([], .null)), (345, .iload 10, 2, ([], .null)), (347, .iconst 0, 1, ([], .null)), (348, .invokestatic 219, 3, ([213, 3, 0, 0], .null)), 
  (351, .lastore, 1, ([], .null)), (352, .sipush 128, 3, ([], .null)), (355, .iload 7, 2, ([], .null)), (357, .imul, 1, ([], .null)), (358, .iload 10, 2, ([], .null)), 
  (360, .iadd, 1, ([], .null)), (361, .iconst 1, 1, ([], .null)), (362, .iadd, 1, ([], .null)), (363, .ireturn, 1, ([], .null))
]
def mi_M_allocated : pm_I := ((kc_M_allocated, []), 12, ⟨"SegmentDeskModel", "allocated", "(IIIJ)I"⟩, prog_13_method_45_code, (some .int), 4)
def kc_M_near : List (Nat × Instr × Nat × pm_L) := [
  (0, .lload_n 0, 1, ([], .null)), (1, .iload_n 2, 1, ([], .null)), (2, .i2l, 1, ([], .null)), (3, .ldc2_w 208, 3, ([], .long 1073741823)), (6, .land, 1, ([], .null)), 
  (7, .iconst 2, 1, ([], .null)), (8, .lshl, 1, ([], .null)), (9, .lor, 1, ([], .null)), (10, .lreturn, 1, ([], .null))
]
def mi_M_near : pm_I := ((kc_M_near, []), 3, ⟨"SegmentDeskModel", "near", "(JI)J"⟩, prog_13_method_43_code, (some .long), 2)
def kc_M_takes : List (Nat × Instr × Nat × pm_L) := [
  (0, .aload_n 0, 1, ([], .null)), (1, .getfield 19, 3, ([9, 3], .null)), (4, .iload_n 1, 1, ([], .null)), (5, .dup2, 1, ([], .null)), (6, .iaload, 1, ([], .null)), 
  (7, .iload_n 2, 1, ([], .null)), (8, .iadd, 1, ([], .null)), (9, .iastore, 1, ([], .null)), (10, .aload_n 0, 1, ([], .null)), (11, .getfield 19, 3, ([9, 3], .null)), 
  (14, .iload_n 1, 1, ([], .null)), (15, .iaload, 1, ([], .null)), (16, .iload_n 2, 1, ([], .null)), (17, .isub, 1, ([], .null)), (18, .ireturn, 1, ([], .null))
]
def mi_M_takes : pm_I := ((kc_M_takes, []), 3, ⟨"SegmentDeskModel", "takes", "(II)I"⟩, prog_13_method_44_code, (some .int), 2)
def kc_M_withLeft : List (Nat × Instr × Nat × pm_L) := [
  (0, .iconst 0, 1, ([], .null)), (1, .istore_n 2, 1, ([], .null)), (2, .iload_n 2, 1, ([], .null)), (3, .aload_n 0, 1, ([], .null)), (4, .getfield 29, 3, ([9, 6], .null)), 
  (7, .if_icmp .ge 26, 3, ([33], .null)), (10, .aload_n 0, 1, ([], .null)), (11, .getfield 205, 3, ([9, 9], .null)), (14, .aload_n 0, 1, ([], .null)), 
  (15, .getfield 19, 3, ([9, 3], .null)), (18, .iload_n 2, 1, ([], .null)), (19, .iaload, 1, ([], .null)), (20, .isub, 1, ([], .null)), (21, .iload_n 1, 1, ([], .null)), 
  (22, .if_icmp .lt 5, 3, ([27], .null)), (25, .iload_n 2, 1, ([], .null)), (26, .ireturn, 1, ([], .null)), (27, .iinc 2 1, 3, ([], .null)), (30, .goto (-28), 3, ([2], .null)), 
  (33, .iconst (-1), 1, ([], .null)), (34, .ireturn, 1, ([], .null))
]
def mi_M_withLeft : pm_I := ((kc_M_withLeft, []), 3, ⟨"SegmentDeskModel", "withLeft", "(I)I"⟩, prog_13_method_41_code, (some .int), 1)
def kc_M_far : List (Nat × Instr × Nat × pm_L) := [
  (0, .ldc2_w 126, 3, ([], .long 2)), (3, .ldc2_w 85, 3, ([], .long 4)), (6, .iload_n 2, 1, ([], .null)), (7, .i2l, 1, ([], .null)), (8, .lmul, 1, ([], .null)), 
  (9, .lor, 1, ([], .null)), (10, .iload_n 1, 1, ([], .null)), (11, .i2l, 1, ([], .null)), (12, .iconst 3, 1, ([], .null)), (13, .lshl, 1, ([], .null)), 
  (14, .lor, 1, ([], .null)), (15, .iload_n 0, 1, ([], .null)), (16, .i2l, 1, ([], .null)), (17, .bipush 32, 2, ([], .null)), (19, .lshl, 1, ([], .null)), 
  (20, .lor, 1, ([], .null)), (21, .lreturn, 1, ([], .null))
]
def mi_M_far : pm_I := ((kc_M_far, []), 3, ⟨"SegmentDeskModel", "far", "(III)J"⟩, prog_13_method_42_code, (some .long), 3)
def kc_M_sets : List (Nat × Instr × Nat × pm_L) := [
  (0, .aload_n 0, 1, ([], .null)), (1, .iload_n 1, 1, ([], .null)), (2, .invokevirtual 81, 3, ([175, 2, 0, 10], .null)), (5, .aload_n 0, 1, ([], .null)), 
  (6, .getfield 36, 3, ([9, 12], .null)), (9, .iload_n 1, 1, ([], .null)), (10, .iload_n 2, 1, ([], .null)), (11, .iastore, 1, ([], .null)), (12, .aload_n 0, 1, ([], .null)), 
  (13, .getfield 39, 3, ([9, 13], .null)), (16, .iload_n 1, 1, ([], .null)), (17, .bipush 64, 2, ([], .null)), (19, .iastore, 1, ([], .null)), (20, .aload_n 0, 1, ([], .null)), 
  (21, .getfield 42, 3, ([9, 14], .null)), (24, .iload_n 1, 1, ([], .null)), (25, .iload_n 3, 1, ([], .null)), (26, .sipush 128, 3, ([], .null)), (29, .idiv, 1, ([], .null)), 
  (30, .iastore, 1, ([], .null)), (31, .aload_n 0, 1, ([], .null)), (32, .getfield 45, 3, ([9, 15], .null)), (35, .iload_n 1, 1, ([], .null)), (36, .bipush 64, 2, ([], .null)), 
  (38, .iload_n 3, 1, ([], .null)), (39, .sipush 128, 3, ([], .null)), (42, .irem, 1, ([], .null)), (43, .imul, 1, ([], .null)), (44, .iastore, 1, ([], .null)), 
  (45, .return_, 1, ([], .null))
]
def mi_M_sets : pm_I := ((kc_M_sets, []), 4, ⟨"SegmentDeskModel", "sets", "(III)V"⟩, prog_13_method_47_code, none, 3)
def kc_M_list : List (Nat × Instr × Nat × pm_L) := [
  (0, .aload_n 0, 1, ([], .null)), (1, .iconst 0, 1, ([], .null)), (2, .putfield 78, 3, ([9, 10, 0], .null)), (5, .aload_n 0, 1, ([], .null)), (6, .aload_n 0, 1, ([], .null)), 
  (7, .iload_n 1, 1, ([], .null)), (8, .invokevirtual 157, 3, ([181, 2, 0, 10], .null)), (11, .ifCond .eq 83, 3, ([94], .null)), (14, .iload_n 2, 1, ([], .null)), 
  (15, .i2l, 1, ([], .null)), (16, .ldc2_w 176, 3, ([], .long (-1))), (19, .ldc2_w 155, 3, ([], .long 15)), (22, .invokestatic 87, 3, ([171, 3, 0, 0], .null)), 
  (25, .ifCond .eq 69, 3, ([94], .null)), (28, .iload 4, 2, ([], .null)), (30, .i2l, 1, ([], .null)), (31, .lconst 0, 1, ([], .null)), (32, .ldc2_w 118, 3, ([], .long 7)), 
  (35, .invokestatic 87, 3, ([171, 3, 0, 0], .null)), (38, .ifCond .eq 56, 3, ([94], .null)), (41, .iload 5, 2, ([], .null)), (43, .i2l, 1, ([], .null)), 
  (44, .lconst 0, 1, ([], .null)), (45, .ldc2_w 91, 3, ([], .long 64)), (48, .invokestatic 87, 3, ([171, 3, 0, 0], .null)), (51, .ifCond .eq 43, 3, ([94], .null)), 
  (54, .iload 4, 2, ([], .null)), (56, .bipush 7, 2, ([], .null)), (58, .if_icmp .ne 29, 3, ([87], .null)), (61, .iload 6, 2, ([], .null)), (63, .i2l, 1, ([], .null)), 
  (64, .lconst 0, 1, ([], .null)), (65, .ldc2_w 235, 3, ([], .long 8)), (68, .invokestatic 87, 3, ([171, 3, 0, 0], .null)), (71, .ifCond .eq 23, 3, ([94], .null)), 
  (74, .iload 7, 2, ([], .null)), (76, .i2l, 1, ([], .null)), (77, .lconst 0, 1, ([], .null)), (78, .ldc2_w 235, 3, ([], .long 8)), 
  (81, .invokestatic 87, 3, ([171, 3, 0, 0], .null)), (84, .ifCond .eq 10, 3, ([94], .null)), (87, .aload_n 0, 1, ([], .null)), (88, .getfield 101, 3, ([9, 11], .null)), 
  (91, .ifCond .ne 7, 3, ([98], .null)), (94, .iconst 1, 1, ([], .null)), (95, .goto 4, 3, ([99], .null)), (98, .iconst 0, 1, ([], .null)), (99, .iconst 1, 1, ([], .null)), 
  (100, .invokevirtual 93, 3, ([172, 3, 0, 10], .null)), (103, .ifCond .eq 5, 3, ([108], .null)), (106, .iconst 0, 1, ([], .null)), (107, .ireturn, 1, ([], .null)), 
  (108, .iload 4, 2, ([], .null)), (110, .bipush 7, 2, ([], .null)), (112, .if_icmp .ne 14, 3, ([126], .null)), (115, .iload 5, 2, ([], .null)), (117, .iload 6, 2, ([], .null)), 
  (119, .iload 7, 2, ([], .null)), (121, .iadd, 1, ([], .null)), (122, .imul, 1, ([], .null)), (123, .goto 5, 3, ([128], .null)), (126, .iload 5, 2, ([], .null)), 
  (128, .istore 8, 2, ([], .null)), (130, .aload_n 0, 1, ([], .null)), (131, .iload_n 2, 1, ([], .null)), (132, .iload_n 3, 1, ([], .null)), (133, .iload 4, 2, ([], .null)), 
  (135, .iload 8, 2, ([], .null)), (137, .i2l, 1, ([], .null)), (138, .invokestatic 151, 3, ([189, 2, 0, 0], .null)), (141, .l2i, 1, ([], .null)), 
  (142, .lconst 1, 1, ([], .null)), (143, .iload 4, 2, ([], .null)), (145, .i2l, 1, ([], .null)), (146, .bipush 32, 2, ([], .null)), (148, .lshl, 1, ([], .null)), 
  (149, .lor, 1, ([], .null)), (150, .iload 8, 2, ([], .null)), (152, .i2l, 1, ([], .null)), (153, .bipush 35, 2, ([], .null)), (155, .lshl, 1, ([], .null)), 
  (156, .lor, 1, ([], .null)), (157, .invokevirtual 228, 3, ([208, 5, 0, 10], .null)), (160, .istore 9, 2, ([], .null)), (162, .aload_n 0, 1, ([], .null)), 
  (163, .getfield 78, 3, ([9, 10], .null)), (166, .ifCond .eq 5, 3, ([171], .null)), (169, .iconst 0, 1, ([], .null)), (170, .ireturn, 1, ([], .null)), 
  (171, .aload_n 0, 1, ([], .null)), (172, .iload_n 1, 1, ([], .null)), (173, .iconst 2, 1, ([], .null)), (174, .iload 9, 2, ([], .null)), 
  (176, .invokevirtual 231, 3, ([214, 4, 0, 10], .null)), (179, .aload_n 0, 1, ([], .null)), (180, .getfield 57, 3, ([9, 19], .null)), (183, .iload_n 1, 1, ([], .null)), 
  (184, .iload 4, 2, ([], .null)), (186, .iastore, 1, ([], .null)), (187, .aload_n 0, 1, ([], .null)), (188, .getfield 54, 3, ([9, 18], .null)), (191, .iload_n 1, 1, ([], .null)), 
  (192, .iload 5, 2, ([], .null)), (194, .iastore, 1, ([], .null)), (195, .iload 4, 2, ([], .null)), (197, .bipush 7, 2, ([], .null)), (199, .if_icmp .ne 59, 3, ([258], .null)), 
  (202, .aload_n 0, 1, ([], .null)), (203, .getfield 7, 3, ([9, 0], .null)), (206, .bipush 64, 2, ([], .null)), (208, .iload 9, 2, ([], .null)), 
  (210, .sipush 128, 3, ([], .null)), (213, .idiv, 1, ([], .null)), (214, .imul, 1, ([], .null)), (215, .iload 9, 2, ([], .null)), (217, .sipush 128, 3, ([], .null)), 
  (220, .irem, 1, ([], .null)), (221, .iadd, 1, ([], .null)), (222, .iload 5, 2, ([], .null)), (224, .i2l, 1, ([], .null)), (225, .iconst 2, 1, ([], .null)), 
  (226, .lshl, 1, ([], .null)), (227, .iload 6, 2, ([], .null)), (229, .i2l, 1, ([], .null)), (230, .bipush 32, 2, ([], .null)), (232, .lshl, 1, ([], .null)), 
  (233, .lor, 1, ([], .null)), (234, .iload 7, 2, ([], .null)), (236, .i2l, 1, ([], .null)), (237, .bipush 48, 2, ([], .null)), (239, .lshl, 1, ([], .null)), 
  (240, .lor, 1, ([], .null)), (241, .lastore, 1, ([], .null)), (242, .aload_n 0, 1, ([], .null)), (243, .getfield 60, 3, ([9, 20], .null)), (246, .iload_n 1, 1, ([], .null)), 
  (247, .iload 6, 2, ([], .null)), (249, .iastore, 1, ([], .null)), (250, .aload_n 0, 1, ([], .null)), (251, .getfield 63, 3, ([9, 21], .null)), (254, .iload_n 1, 1, ([], .null)), 
  (255, .iload 7, 2, ([], .null)), (257, .iastore, 1, ([], .null)), (258, .iconst 2, 1, ([], .null)), (259, .ireturn, 1, ([], .null))
]
def mi_M_list : pm_I := ((kc_M_list, []), 10, ⟨"SegmentDeskModel", "list", "(IIIIIII)I"⟩, prog_13_method_49_code, (some .int), 7)
def kc_M_put : List (Nat × Instr × Nat × pm_L) := [
  (0, .aload_n 0, 1, ([], .null)), (1, .iconst 0, 1, ([], .null)), (2, .putfield 78, 3, ([9, 10, 0], .null)), (5, .aload_n 0, 1, ([], .null)), (6, .aload_n 0, 1, ([], .null)), 
  (7, .iload_n 1, 1, ([], .null)), (8, .invokevirtual 157, 3, ([181, 2, 0, 10], .null)), (11, .ifCond .eq 21, 3, ([32], .null)), (14, .iload_n 2, 1, ([], .null)), 
  (15, .invokestatic 186, 3, ([196, 1, 0, 0], .null)), (18, .ifCond .eq 14, 3, ([32], .null)), (21, .iload_n 3, 1, ([], .null)), (22, .ifCond .lt 10, 3, ([32], .null)), 
  (25, .aload_n 0, 1, ([], .null)), (26, .getfield 101, 3, ([9, 11], .null)), (29, .ifCond .ne 7, 3, ([36], .null)), (32, .iconst 1, 1, ([], .null)), 
  (33, .goto 4, 3, ([37], .null)), (36, .iconst 0, 1, ([], .null)), (37, .iconst 1, 1, ([], .null)), (38, .invokevirtual 93, 3, ([172, 3, 0, 10], .null)), 
  (41, .ifCond .eq 4, 3, ([45], .null)), (44, .return_, 1, ([], .null)), (45, .aload_n 0, 1, ([], .null)), (46, .getfield 36, 3, ([9, 12], .null)), 
  (49, .iload_n 1, 1, ([], .null)), (50, .iaload, 1, ([], .null)), (51, .iconst 2, 1, ([], .null)), (52, .if_icmp .ne 7, 3, ([59], .null)), (55, .iconst 1, 1, ([], .null)), 
  (56, .goto 4, 3, ([60], .null)), (59, .iconst 0, 1, ([], .null)), (60, .istore 6, 2, ([], .null)), (62, .aload_n 0, 1, ([], .null)), (63, .aload_n 0, 1, ([], .null)), 
  (64, .getfield 36, 3, ([9, 12], .null)), (67, .iload_n 1, 1, ([], .null)), (68, .iaload, 1, ([], .null)), (69, .ifCond .eq 21, 3, ([90], .null)), (72, .iload 6, 2, ([], .null)), 
  (74, .ifCond .eq 20, 3, ([94], .null)), (77, .aload_n 0, 1, ([], .null)), (78, .getfield 57, 3, ([9, 19], .null)), (81, .iload_n 1, 1, ([], .null)), 
  (82, .iaload, 1, ([], .null)), (83, .invokestatic 120, 3, ([190, 1, 0, 0], .null)), (86, .iload_n 2, 1, ([], .null)), (87, .if_icmp .eq 7, 3, ([94], .null)), 
  (90, .iconst 1, 1, ([], .null)), (91, .goto 4, 3, ([95], .null)), (94, .iconst 0, 1, ([], .null)), (95, .iconst 2, 1, ([], .null)), 
  (96, .invokevirtual 93, 3, ([172, 3, 0, 10], .null)), (99, .ifCond .ne 49, 3, ([148], .null)), (102, .aload_n 0, 1, ([], .null)), (103, .iload 6, 2, ([], .null)), 
  (105, .ifCond .eq 21, 3, ([126], .null)), (108, .iload_n 3, 1, ([], .null)), (109, .aload_n 0, 1, ([], .null)), (110, .getfield 54, 3, ([9, 18], .null)), 
  (113, .iload_n 1, 1, ([], .null)), (114, .iaload, 1, ([], .null)), (115, .if_icmp .lt 7, 3, ([122], .null)), (118, .iconst 1, 1, ([], .null)), 
  (119, .goto 22, 3, ([141], .null)), (122, .iconst 0, 1, ([], .null)), (123, .goto 18, 3, ([141], .null)), (126, .aload_n 0, 1, ([], .null)), (127, .iload_n 1, 1, ([], .null)), 
  (128, .iload_n 2, 1, ([], .null)), (129, .iload_n 3, 1, ([], .null)), (130, .invokevirtual 178, 3, ([198, 4, 0, 10], .null)), (133, .ifCond .ne 7, 3, ([140], .null)), 
  (136, .iconst 1, 1, ([], .null)), (137, .goto 4, 3, ([141], .null)), (140, .iconst 0, 1, ([], .null)), (141, .iconst 1, 1, ([], .null)), 
  (142, .invokevirtual 93, 3, ([172, 3, 0, 10], .null)), (145, .ifCond .eq 4, 3, ([149], .null)), (148, .return_, 1, ([], .null)), (149, .aload_n 0, 1, ([], .null)), 
  (150, .iload_n 1, 1, ([], .null)), (151, .aload_n 0, 1, ([], .null)), (152, .getfield 45, 3, ([9, 15], .null)), (155, .iload_n 1, 1, ([], .null)), 
  (156, .iaload, 1, ([], .null)), (157, .iload_n 3, 1, ([], .null)), (158, .iload_n 2, 1, ([], .null)), (159, .imul, 1, ([], .null)), (160, .iadd, 1, ([], .null)), 
  (161, .iload_n 2, 1, ([], .null)), (162, .lload 4, 2, ([], .null)), (164, .invokevirtual 237, 3, ([217, 5, 0, 10], .null)), (167, .return_, 1, ([], .null))
]
def mi_M_put : pm_I := ((kc_M_put, []), 7, ⟨"SegmentDeskModel", "put", "(IIIJ)V"⟩, prog_13_method_50_code, none, 4)
def kc_M_store : List (Nat × Instr × Nat × pm_L) := [
  (0, .bipush 64, 2, ([], .null)), (2, .aload_n 0, 1, ([], .null)), (3, .getfield 42, 3, ([9, 14], .null)), (6, .iload_n 1, 1, ([], .null)), (7, .iaload, 1, ([], .null)), 
  (8, .imul, 1, ([], .null)), (9, .iload_n 2, 1, ([], .null)), (10, .bipush 64, 2, ([], .null)), (12, .idiv, 1, ([], .null)), (13, .iadd, 1, ([], .null)), 
  (14, .istore 6, 2, ([], .null)), (16, .iload_n 3, 1, ([], .null)), (17, .bipush 64, 2, ([], .null)), (19, .if_icmp .ne 9, 3, ([28], .null)), 
  (22, .ldc2_w 176, 3, ([], .long (-1))), (25, .goto 8, 3, ([33], .null)), (28, .lconst 1, 1, ([], .null)), (29, .iload_n 3, 1, ([], .null)), (30, .lshl, 1, ([], .null)), 
  (31, .lconst 1, 1, ([], .null)), (32, .lsub, 1, ([], .null)), (33, .lstore 7, 2, ([], .null)), (35, .aload_n 0, 1, ([], .null)), (36, .getfield 7, 3, ([9, 0], .null)), 
  (39, .iload 6, 2, ([], .null)), (41, .aload_n 0, 1, ([], .null)), (42, .getfield 7, 3, ([9, 0], .null)), (45, .iload 6, 2, ([], .null)), (47, .laload, 1, ([], .null)), 
  (48, .lload 7, 2, ([], .null)), (50, .iload_n 2, 1, ([], .null)), (51, .bipush 64, 2, ([], .null)), (53, .irem, 1, ([], .null)), (54, .lshl, 1, ([], .null)), 
  (55, .ldc2_w 176, 3, ([], .long (-1))), (58, .lxor, 1, ([], .null)), (59, .land, 1, ([], .null)), (60, .lload 4, 2, ([], .null)), (62, .lload 7, 2, ([], .null)), 
  (64, .land, 1, ([], .null)), (65, .iload_n 2, 1, ([], .null)), (66, .bipush 64, 2, ([], .null)), (68, .irem, 1, ([], .null)), (69, .lshl, 1, ([], .null)), 
  (70, .lor, 1, ([], .null)), (71, .lastore, 1, ([], .null)), (72, .return_, 1, ([], .null))
]
def mi_M_store : pm_I := ((kc_M_store, []), 9, ⟨"SegmentDeskModel", "store", "(IIIJ)V"⟩, prog_13_method_32_code, none, 4)
def kc_M_putReal : List (Nat × Instr × Nat × pm_L) := [
  (0, .aload_n 0, 1, ([], .null)), (1, .iconst 0, 1, ([], .null)), (2, .putfield 78, 3, ([9, 10, 0], .null)), (5, .iload_n 2, 1, ([], .null)), 
  (6, .ifCond .eq 8, 3, ([14], .null)), (9, .bipush 64, 2, ([], .null)), (11, .goto 5, 3, ([16], .null)), (14, .bipush 32, 2, ([], .null)), (16, .istore 6, 2, ([], .null)), 
  (18, .aload_n 0, 1, ([], .null)), (19, .aload_n 0, 1, ([], .null)), (20, .iload_n 1, 1, ([], .null)), (21, .invokevirtual 157, 3, ([181, 2, 0, 10], .null)), 
  (24, .ifCond .eq 14, 3, ([38], .null)), (27, .iload_n 3, 1, ([], .null)), (28, .ifCond .lt 10, 3, ([38], .null)), (31, .aload_n 0, 1, ([], .null)), 
  (32, .getfield 101, 3, ([9, 11], .null)), (35, .ifCond .ne 7, 3, ([42], .null)), (38, .iconst 1, 1, ([], .null)), (39, .goto 4, 3, ([43], .null)), 
  (42, .iconst 0, 1, ([], .null)), (43, .iconst 1, 1, ([], .null)), (44, .invokevirtual 93, 3, ([172, 3, 0, 10], .null)), (47, .ifCond .ne 50, 3, ([97], .null)), 
  (50, .aload_n 0, 1, ([], .null)), (51, .aload_n 0, 1, ([], .null)), (52, .getfield 36, 3, ([9, 12], .null)), (55, .iload_n 1, 1, ([], .null)), (56, .iaload, 1, ([], .null)), 
  (57, .iconst 1, 1, ([], .null)), (58, .if_icmp .eq 7, 3, ([65], .null)), (61, .iconst 1, 1, ([], .null)), (62, .goto 4, 3, ([66], .null)), (65, .iconst 0, 1, ([], .null)), 
  (66, .iconst 2, 1, ([], .null)), (67, .invokevirtual 93, 3, ([172, 3, 0, 10], .null)), (70, .ifCond .ne 27, 3, ([97], .null)), (73, .aload_n 0, 1, ([], .null)), 
  (74, .aload_n 0, 1, ([], .null)), (75, .iload_n 1, 1, ([], .null)), (76, .iload 6, 2, ([], .null)), (78, .iload_n 3, 1, ([], .null)), 
  (79, .invokevirtual 178, 3, ([198, 4, 0, 10], .null)), (82, .ifCond .ne 7, 3, ([89], .null)), (85, .iconst 1, 1, ([], .null)), (86, .goto 4, 3, ([90], .null)), 
  (89, .iconst 0, 1, ([], .null)), (90, .iconst 1, 1, ([], .null)), (91, .invokevirtual 93, 3, ([172, 3, 0, 10], .null)), (94, .ifCond .eq 4, 3, ([98], .null)), 
  (97, .return_, 1, ([], .null)), (98, .aload_n 0, 1, ([], .null)), (99, .iload_n 1, 1, ([], .null)), (100, .aload_n 0, 1, ([], .null)), (101, .getfield 45, 3, ([9, 15], .null)), 
  (104, .iload_n 1, 1, ([], .null)), (105, .iaload, 1, ([], .null)), (106, .iload_n 3, 1, ([], .null)), (107, .iload 6, 2, ([], .null)), (109, .imul, 1, ([], .null)), 
  (110, .iadd, 1, ([], .null)), (111, .iload 6, 2, ([], .null)), (113, .iload_n 2, 1, ([], .null)), (114, .ifCond .eq 15, 3, ([129], .null)), (117, .dload 4, 2, ([], .null)), 
  (119, .bipush 52, 2, ([], .null)), (121, .bipush 11, 2, ([], .null)), (123, .invokestatic 241, 3, ([219, 3, 0, 0], .null)), (126, .goto 14, 3, ([140], .null)), 
  (129, .dload 4, 2, ([], .null)), (131, .d2f, 1, ([], .null)), (132, .f2d, 1, ([], .null)), (133, .bipush 23, 2, ([], .null)), (135, .bipush 8, 2, ([], .null)), 
  (137, .invokestatic 241, 3, ([219, 3, 0, 0], .null)), (140, .invokevirtual 237, 3, ([217, 5, 0, 10], .null)), (143, .return_, 1, ([], .null))
]
def mi_M_putReal : pm_I := ((kc_M_putReal, []), 7, ⟨"SegmentDeskModel", "putReal", "(IZID)V"⟩, prog_13_method_52_code, none, 4)
def kc_M_bitsOfReal : List (Nat × Instr × Nat × pm_L) := [
  (0, .dload_n 0, 1, ([], .null)), (1, .dconst 0, 1, ([], .null)), (2, .dcmp .l, 1, ([], .null)), (3, .ifCond .ne 5, 3, ([8], .null)), (6, .lconst 0, 1, ([], .null)), 
  (7, .lreturn, 1, ([], .null)), (8, .dload_n 0, 1, ([], .null)), (9, .dconst 0, 1, ([], .null)), (10, .dcmp .g, 1, ([], .null)), (11, .ifCond .ge 8, 3, ([19], .null)), 
  (14, .dload_n 0, 1, ([], .null)), (15, .dneg, 1, ([], .null)), (16, .goto 4, 3, ([20], .null)), (19, .dload_n 0, 1, ([], .null)), (20, .dstore 4, 2, ([], .null)), 
  (22, .iconst 0, 1, ([], .null)), (23, .istore 6, 2, ([], .null)), (25, .dload 4, 2, ([], .null)), (27, .ldc2_w 195, 3, ([], .double 4611686018427387904)), 
  (30, .dcmp .l, 1, ([], .null)), (31, .ifCond .lt 17, 3, ([48], .null)), (34, .dload 4, 2, ([], .null)), (36, .ldc2_w 195, 3, ([], .double 4611686018427387904)), 
  (39, .ddiv, 1, ([], .null)), (40, .dstore 4, 2, ([], .null)), (42, .iinc 6 1, 3, ([], .null)), (45, .goto (-20), 3, ([25], .null)), (48, .dload 4, 2, ([], .null)), 
  (50, .dconst 1, 1, ([], .null)), (51, .dcmp .g, 1, ([], .null)), (52, .ifCond .ge 17, 3, ([69], .null)), (55, .dload 4, 2, ([], .null)), 
  (57, .ldc2_w 195, 3, ([], .double 4611686018427387904)), (60, .dmul, 1, ([], .null)), (61, .dstore 4, 2, ([], .null)), (63, .iinc 6 (-1), 3, ([], .null)), 
  (66, .goto (-18), 3, ([48], .null)), (69, .dload 4, 2, ([], .null)), (71, .dconst 1, 1, ([], .null)), (72, .dsub, 1, ([], .null)), (73, .lconst 1, 1, ([], .null)), 
  (74, .iload_n 2, 1, ([], .null)), (75, .lshl, 1, ([], .null)), (76, .l2d, 1, ([], .null)), (77, .dmul, 1, ([], .null)), (78, .d2l, 1, ([], .null)), 
  (79, .lstore 7, 2, ([], .null)), (81, .dload_n 0, 1, ([], .null)), (82, .dconst 0, 1, ([], .null)), (83, .dcmp .g, 1, ([], .null)), (84, .ifCond .ge 7, 3, ([91], .null)), 
  (87, .lconst 1, 1, ([], .null)), (88, .goto 4, 3, ([92], .null)), (91, .lconst 0, 1, ([], .null)), (92, .iload_n 2, 1, ([], .null)), (93, .iload_n 3, 1, ([], .null)), 
  (94, .iadd, 1, ([], .null)), (95, .lshl, 1, ([], .null)), (96, .iload 6, 2, ([], .null)), (98, .iconst 1, 1, ([], .null)), (99, .iload_n 3, 1, ([], .null)), 
  (100, .iconst 1, 1, ([], .null)), (101, .isub, 1, ([], .null)), (102, .ishl, 1, ([], .null)), (103, .iadd, 1, ([], .null)), (104, .iconst 1, 1, ([], .null)), 
  (105, .isub, 1, ([], .null)), (106, .i2l, 1, ([], .null)), (107, .iload_n 2, 1, ([], .null)), (108, .lshl, 1, ([], .null)), (109, .lor, 1, ([], .null)), 
  (110, .lload 7, 2, ([], .null)), (112, .lor, 1, ([], .null)), (113, .lreturn, 1, ([], .null))
]
def mi_M_bitsOfReal : pm_I := ((kc_M_bitsOfReal, []), 9, ⟨"SegmentDeskModel", "bitsOfReal", "(DII)J"⟩, prog_13_method_51_code, (some .long), 3)
def kc_M_pack : List (Nat × Instr × Nat × pm_L) := [
  (0, .aload_n 0, 1, ([], .null)), (1, .iconst 0, 1, ([], .null)), (2, .putfield 78, 3, ([9, 10, 0], .null)), (5, .aload_n 0, 1, ([], .null)), 
  (6, .invokevirtual 245, 3, ([221, 1, 0, 10], .null)), (9, .istore_n 1, 1, ([], .null)), (10, .iconst 0, 1, ([], .null)), (11, .istore_n 2, 1, ([], .null)), 
  (12, .iconst 0, 1, ([], .null)), (13, .istore_n 3, 1, ([], .null)), (14, .iload_n 3, 1, ([], .null)), (15, .iload_n 1, 1, ([], .null)), 
  (16, .if_icmp .ge 207, 3, ([223], .null)), (19, .aload_n 0, 1, ([], .null)), (20, .getfield 16, 3, ([9, 2], .null)), (23, .iload_n 3, 1, ([], .null)), 
  (24, .laload, 1, ([], .null)), (25, .lstore 4, 2, ([], .null)), (27, .iconst 0, 1, ([], .null)), (28, .istore 6, 2, ([], .null)), (30, .iload_n 2, 1, ([], .null)), 
  (31, .istore 7, 2, ([], .null)), (33, .iconst 0, 1, ([], .null)), (34, .istore 8, 2, ([], .null)), (36, .iinc 2 1, 3, ([], .null)), (39, .iconst 0, 1, ([], .null)), 
  (40, .istore 9, 2, ([], .null)), (42, .iload 9, 2, ([], .null)), (44, .bipush 8, 2, ([], .null)), (46, .if_icmp .ge 57, 3, ([103], .null)), (49, .lload 4, 2, ([], .null)), 
  (51, .bipush 8, 2, ([], .null)), (53, .iload 9, 2, ([], .null)), (55, .imul, 1, ([], .null)), (56, .lushr, 1, ([], .null)), (57, .ldc2_w 199, 3, ([], .long 255)), 
  (60, .land, 1, ([], .null)), (61, .lconst 0, 1, ([], .null)), (62, .lcmp, 1, ([], .null)), (63, .ifCond .eq 34, 3, ([97], .null)), (66, .iload 6, 2, ([], .null)), 
  (68, .iconst 1, 1, ([], .null)), (69, .iload 9, 2, ([], .null)), (71, .ishl, 1, ([], .null)), (72, .ior, 1, ([], .null)), (73, .istore 6, 2, ([], .null)), 
  (75, .aload_n 0, 1, ([], .null)), (76, .getfield 26, 3, ([9, 5], .null)), (79, .iload_n 2, 1, ([], .null)), (80, .lload 4, 2, ([], .null)), (82, .bipush 8, 2, ([], .null)), 
  (84, .iload 9, 2, ([], .null)), (86, .imul, 1, ([], .null)), (87, .lushr, 1, ([], .null)), (88, .ldc2_w 199, 3, ([], .long 255)), (91, .land, 1, ([], .null)), 
  (92, .l2i, 1, ([], .null)), (93, .iastore, 1, ([], .null)), (94, .iinc 2 1, 3, ([], .null)), (97, .iinc 9 1, 3, ([], .null)), (100, .goto (-58), 3, ([42], .null)), 
  (103, .aload_n 0, 1, ([], .null)), (104, .getfield 26, 3, ([9, 5], .null)), (107, .iload 7, 2, ([], .null)), (109, .iload 6, 2, ([], .null)), (111, .iastore, 1, ([], .null)), 
  (112, .iinc 3 1, 3, ([], .null)), (115, .iload 6, 2, ([], .null)), (117, .ifCond .eq 14, 3, ([131], .null)), (120, .iload 6, 2, ([], .null)), (122, .sipush 255, 3, ([], .null)), 
  (125, .if_icmp .eq 6, 3, ([131], .null)), (128, .goto (-114), 3, ([14], .null)), (131, .iload_n 2, 1, ([], .null)), (132, .istore 9, 2, ([], .null)), 
  (134, .iinc 2 1, 3, ([], .null)), (137, .iload_n 3, 1, ([], .null)), (138, .iload_n 1, 1, ([], .null)), (139, .if_icmp .ge 72, 3, ([211], .null)), 
  (142, .iload 8, 2, ([], .null)), (144, .sipush 255, 3, ([], .null)), (147, .if_icmp .ge 64, 3, ([211], .null)), (150, .iload 6, 2, ([], .null)), 
  (152, .ifCond .ne 17, 3, ([169], .null)), (155, .aload_n 0, 1, ([], .null)), (156, .getfield 16, 3, ([9, 2], .null)), (159, .iload_n 3, 1, ([], .null)), 
  (160, .laload, 1, ([], .null)), (161, .lconst 0, 1, ([], .null)), (162, .lcmp, 1, ([], .null)), (163, .ifCond .ne 48, 3, ([211], .null)), (166, .goto 16, 3, ([182], .null)), 
  (169, .aload_n 0, 1, ([], .null)), (170, .getfield 16, 3, ([9, 2], .null)), (173, .iload_n 3, 1, ([], .null)), (174, .laload, 1, ([], .null)), 
  (175, .invokestatic 249, 3, ([222, 1, 0, 0], .null)), (178, .iconst 2, 1, ([], .null)), (179, .if_icmp .ge 32, 3, ([211], .null)), (182, .iload 6, 2, ([], .null)), 
  (184, .sipush 255, 3, ([], .null)), (187, .if_icmp .ne 15, 3, ([202], .null)), (190, .aload_n 0, 1, ([], .null)), (191, .iload_n 2, 1, ([], .null)), 
  (192, .aload_n 0, 1, ([], .null)), (193, .getfield 16, 3, ([9, 2], .null)), (196, .iload_n 3, 1, ([], .null)), (197, .laload, 1, ([], .null)), 
  (198, .invokevirtual 252, 3, ([223, 3, 0, 10], .null)), (201, .istore_n 2, 1, ([], .null)), (202, .iinc 8 1, 3, ([], .null)), (205, .iinc 3 1, 3, ([], .null)), 
  (208, .goto (-71), 3, ([137], .null)), (211, .aload_n 0, 1, ([], .null)), (212, .getfield 26, 3, ([9, 5], .null)), (215, .iload 9, 2, ([], .null)), 
  (217, .iload 8, 2, ([], .null)), (219, .iastore, 1, ([], .null)), (220, .goto (-206), 3, ([14], .null)), (223, .aload_n 0, 1, ([], .null)), (224, .iload_n 2, 1, ([], .null)), 
  (225, .sipush 1500, 3, ([], .null)), (228, .if_icmp .le 7, 3, ([235], .null)), (231, .iconst 1, 1, ([], .null)), (232, .goto 4, 3, ([236], .null)), 
  (235, .iconst 0, 1, ([], .null)), (236, .iconst 1, 1, ([], .null)), (237, .invokevirtual 93, 3, ([172, 3, 0, 10], .null)), (240, .ifCond .eq 5, 3, ([245], .null)), 
  (243, .iconst 0, 1, ([], .null)), (244, .ireturn, 1, ([], .null)), (245, .iconst 0, 1, ([], .null)), (246, .istore 4, 2, ([], .null)), (248, .iload 4, 2, ([], .null)), 
  (250, .iload_n 2, 1, ([], .null)), (251, .if_icmp .ge 23, 3, ([274], .null)), (254, .aload_n 0, 1, ([], .null)), (255, .getfield 23, 3, ([9, 4], .null)), 
  (258, .iload 4, 2, ([], .null)), (260, .aload_n 0, 1, ([], .null)), (261, .getfield 26, 3, ([9, 5], .null)), (264, .iload 4, 2, ([], .null)), (266, .iaload, 1, ([], .null)), 
  (267, .iastore, 1, ([], .null)), (268, .iinc 4 1, 3, ([], .null)), (271, .goto (-23), 3, ([248], .null)), (274, .aload_n 0, 1, ([], .null)), (275, .iload_n 2, 1, ([], .null)), 
  (276, .putfield 256, 3, ([9, 7, 0], .null)), (279, .aload_n 0, 1, ([], .null)), (280, .getfield 256, 3, ([9, 7], .null)), (283, .ireturn, 1, ([], .null))
]
def mi_M_pack : pm_I := ((kc_M_pack, []), 10, ⟨"SegmentDeskModel", "pack", "()I"⟩, prog_13_method_56_code, (some .int), 0)
def kc_M_framed : List (Nat × Instr × Nat × pm_L) := [
  (0, .iconst 0, 1, ([], .null)), (1, .istore_n 1, 1, ([], .null)), (2, .aload_n 0, 1, ([], .null)), (3, .getfield 29, 3, ([9, 6], .null)), (6, .iconst 1, 1, ([], .null)), 
  (7, .isub, 1, ([], .null)), (8, .i2l, 1, ([], .null)), (9, .lstore_n 2, 1, ([], .null)), (10, .iconst 0, 1, ([], .null)), (11, .istore 4, 2, ([], .null)), 
  (13, .iload 4, 2, ([], .null)), (15, .aload_n 0, 1, ([], .null)), (16, .getfield 29, 3, ([9, 6], .null)), (19, .if_icmp .ge 52, 3, ([71], .null)), 
  (22, .iload 4, 2, ([], .null)), (24, .iconst 2, 1, ([], .null)), (25, .irem, 1, ([], .null)), (26, .ifCond .ne 30, 3, ([56], .null)), (29, .aload_n 0, 1, ([], .null)), 
  (30, .getfield 16, 3, ([9, 2], .null)), (33, .iload_n 1, 1, ([], .null)), (34, .lload_n 2, 1, ([], .null)), (35, .aload_n 0, 1, ([], .null)), 
  (36, .getfield 19, 3, ([9, 3], .null)), (39, .iload 4, 2, ([], .null)), (41, .iaload, 1, ([], .null)), (42, .i2l, 1, ([], .null)), (43, .bipush 32, 2, ([], .null)), 
  (45, .lshl, 1, ([], .null)), (46, .lor, 1, ([], .null)), (47, .lastore, 1, ([], .null)), (48, .iinc 1 1, 3, ([], .null)), (51, .lconst 0, 1, ([], .null)), 
  (52, .lstore_n 2, 1, ([], .null)), (53, .goto 12, 3, ([65], .null)), (56, .aload_n 0, 1, ([], .null)), (57, .getfield 19, 3, ([9, 3], .null)), (60, .iload 4, 2, ([], .null)), 
  (62, .iaload, 1, ([], .null)), (63, .i2l, 1, ([], .null)), (64, .lstore_n 2, 1, ([], .null)), (65, .iinc 4 1, 3, ([], .null)), (68, .goto (-55), 3, ([13], .null)), 
  (71, .aload_n 0, 1, ([], .null)), (72, .getfield 29, 3, ([9, 6], .null)), (75, .iconst 2, 1, ([], .null)), (76, .irem, 1, ([], .null)), (77, .ifCond .ne 13, 3, ([90], .null)), 
  (80, .aload_n 0, 1, ([], .null)), (81, .getfield 16, 3, ([9, 2], .null)), (84, .iload_n 1, 1, ([], .null)), (85, .lload_n 2, 1, ([], .null)), (86, .lastore, 1, ([], .null)), 
  (87, .iinc 1 1, 3, ([], .null)), (90, .iconst 0, 1, ([], .null)), (91, .istore 4, 2, ([], .null)), (93, .iload 4, 2, ([], .null)), (95, .aload_n 0, 1, ([], .null)), 
  (96, .getfield 29, 3, ([9, 6], .null)), (99, .if_icmp .ge 52, 3, ([151], .null)), (102, .iconst 0, 1, ([], .null)), (103, .istore 5, 2, ([], .null)), 
  (105, .iload 5, 2, ([], .null)), (107, .aload_n 0, 1, ([], .null)), (108, .getfield 19, 3, ([9, 3], .null)), (111, .iload 4, 2, ([], .null)), (113, .iaload, 1, ([], .null)), 
  (114, .if_icmp .ge 31, 3, ([145], .null)), (117, .aload_n 0, 1, ([], .null)), (118, .getfield 16, 3, ([9, 2], .null)), (121, .iload_n 1, 1, ([], .null)), 
  (122, .aload_n 0, 1, ([], .null)), (123, .getfield 7, 3, ([9, 0], .null)), (126, .bipush 64, 2, ([], .null)), (128, .iload 4, 2, ([], .null)), (130, .imul, 1, ([], .null)), 
  (131, .iload 5, 2, ([], .null)), (133, .iadd, 1, ([], .null)), (134, .laload, 1, ([], .null)), (135, .lastore, 1, ([], .null)), (136, .iinc 1 1, 3, ([], .null)), 
  (139, .iinc 5 1, 3, ([], .null)), (142, .goto (-37), 3, ([105], .null)), (145, .iinc 4 1, 3, ([], .null)), (148, .goto (-55), 3, ([93], .null)), 
  (151, .iload_n 1, 1, ([], .null)), (152, .ireturn, 1, ([], .null))
]
def mi_M_framed : pm_I := ((kc_M_framed, []), 6, ⟨"SegmentDeskModel", "framed", "()I"⟩, prog_13_method_54_code, (some .int), 0)
def kc_M_zeros : List (Nat × Instr × Nat × pm_L) := [
  (0, .iconst 0, 1, ([], .null)), (1, .istore_n 2, 1, ([], .null)), (2, .iconst 0, 1, ([], .null)), (3, .istore_n 3, 1, ([], .null)), (4, .iload_n 3, 1, ([], .null)), 
  (5, .bipush 8, 2, ([], .null)), (7, .if_icmp .ge 27, 3, ([34], .null)), (10, .lload_n 0, 1, ([], .null)), (11, .bipush 8, 2, ([], .null)), (13, .iload_n 3, 1, ([], .null)), 
  (14, .imul, 1, ([], .null)), (15, .lushr, 1, ([], .null)), (16, .ldc2_w 199, 3, ([], .long 255)), (19, .land, 1, ([], .null)), (20, .lconst 0, 1, ([], .null)), 
  (21, .lcmp, 1, ([], .null)), (22, .ifCond .ne 6, 3, ([28], .null)), (25, .iinc 2 1, 3, ([], .null)), (28, .iinc 3 1, 3, ([], .null)), (31, .goto (-27), 3, ([4], .null)), 
  (34, .iload_n 2, 1, ([], .null)), (35, .ireturn, 1, ([], .null))
]
def mi_M_zeros : pm_I := ((kc_M_zeros, []), 4, ⟨"SegmentDeskModel", "zeros", "(J)I"⟩, prog_13_method_53_code, (some .int), 1)
def kc_M_whole : List (Nat × Instr × Nat × pm_L) := [
  (0, .iconst 0, 1, ([], .null)), (1, .istore 4, 2, ([], .null)), (3, .iload 4, 2, ([], .null)), (5, .bipush 8, 2, ([], .null)), (7, .if_icmp .ge 30, 3, ([37], .null)), 
  (10, .aload_n 0, 1, ([], .null)), (11, .getfield 26, 3, ([9, 5], .null)), (14, .iload_n 1, 1, ([], .null)), (15, .iload 4, 2, ([], .null)), (17, .iadd, 1, ([], .null)), 
  (18, .lload_n 2, 1, ([], .null)), (19, .bipush 8, 2, ([], .null)), (21, .iload 4, 2, ([], .null)), (23, .imul, 1, ([], .null)), (24, .lushr, 1, ([], .null)), 
  (25, .ldc2_w 199, 3, ([], .long 255)), (28, .land, 1, ([], .null)), (29, .l2i, 1, ([], .null)), (30, .iastore, 1, ([], .null)), (31, .iinc 4 1, 3, ([], .null)), 
  (34, .goto (-31), 3, ([3], .null)), (37, .iload_n 1, 1, ([], .null)), (38, .bipush 8, 2, ([], .null)), (40, .iadd, 1, ([], .null)), (41, .ireturn, 1, ([], .null))
]
def mi_M_whole : pm_I := ((kc_M_whole, []), 5, ⟨"SegmentDeskModel", "whole", "(IJ)I"⟩, prog_13_method_55_code, (some .int), 2)
def kc_M_octet : List (Nat × Instr × Nat × pm_L) := [
  (0, .aload_n 0, 1, ([], .null)), (1, .iconst 0, 1, ([], .null)), (2, .putfield 78, 3, ([9, 10, 0], .null)), (5, .aload_n 0, 1, ([], .null)), (6, .iload_n 1, 1, ([], .null)), 
  (7, .i2l, 1, ([], .null)), (8, .lconst 0, 1, ([], .null)), (9, .aload_n 0, 1, ([], .null)), (10, .getfield 256, 3, ([9, 7], .null)), (13, .iconst 1, 1, ([], .null)), 
  (14, .isub, 1, ([], .null)), (15, .i2l, 1, ([], .null)), (16, .invokestatic 87, 3, ([171, 3, 0, 0], .null)), (19, .ifCond .ne 7, 3, ([26], .null)), 
  (22, .iconst 1, 1, ([], .null)), (23, .goto 4, 3, ([27], .null)), (26, .iconst 0, 1, ([], .null)), (27, .iconst 1, 1, ([], .null)), 
  (28, .invokevirtual 93, 3, ([172, 3, 0, 10], .null)), (31, .ifCond .eq 7, 3, ([38], .null)), (34, .iconst 0, 1, ([], .null)), (35, .goto 9, 3, ([44], .null)), 
  (38, .aload_n 0, 1, ([], .null)), (39, .getfield 23, 3, ([9, 4], .null)), (42, .iload_n 1, 1, ([], .null)), (43, .iaload, 1, ([], .null)), (44, .ireturn, 1, ([], .null))
]
def mi_M_octet : pm_I := ((kc_M_octet, []), 2, ⟨"SegmentDeskModel", "octet", "(I)I"⟩, prog_13_method_57_code, (some .int), 1)
def kc_M_feed : List (Nat × Instr × Nat × pm_L) := [
  (0, .aload_n 0, 1, ([], .null)), (1, .iconst 0, 1, ([], .null)), (2, .putfield 78, 3, ([9, 10, 0], .null)), (5, .aload_n 0, 1, ([], .null)), (6, .iload_n 3, 1, ([], .null)), 
  (7, .i2l, 1, ([], .null)), (8, .lconst 1, 1, ([], .null)), (9, .ldc2_w 235, 3, ([], .long 8)), (12, .invokestatic 87, 3, ([171, 3, 0, 0], .null)), 
  (15, .ifCond .ne 7, 3, ([22], .null)), (18, .iconst 1, 1, ([], .null)), (19, .goto 4, 3, ([23], .null)), (22, .iconst 0, 1, ([], .null)), (23, .iconst 1, 1, ([], .null)), 
  (24, .invokevirtual 93, 3, ([172, 3, 0, 10], .null)), (27, .ifCond .ne 28, 3, ([55], .null)), (30, .aload_n 0, 1, ([], .null)), (31, .aload_n 0, 1, ([], .null)), 
  (32, .getfield 256, 3, ([9, 7], .null)), (35, .iload_n 3, 1, ([], .null)), (36, .iadd, 1, ([], .null)), (37, .sipush 1500, 3, ([], .null)), 
  (40, .if_icmp .le 7, 3, ([47], .null)), (43, .iconst 1, 1, ([], .null)), (44, .goto 4, 3, ([48], .null)), (47, .iconst 0, 1, ([], .null)), (48, .iconst 2, 1, ([], .null)), 
  (49, .invokevirtual 93, 3, ([172, 3, 0, 10], .null)), (52, .ifCond .eq 5, 3, ([57], .null)), (55, .iconst 0, 1, ([], .null)), (56, .ireturn, 1, ([], .null)), 
  (57, .iconst 0, 1, ([], .null)), (58, .istore 4, 2, ([], .null)), (60, .iload 4, 2, ([], .null)), (62, .iload_n 3, 1, ([], .null)), (63, .if_icmp .ge 33, 3, ([96], .null)), 
  (66, .aload_n 0, 1, ([], .null)), (67, .getfield 23, 3, ([9, 4], .null)), (70, .aload_n 0, 1, ([], .null)), (71, .getfield 256, 3, ([9, 7], .null)), 
  (74, .iload 4, 2, ([], .null)), (76, .iadd, 1, ([], .null)), (77, .lload_n 1, 1, ([], .null)), (78, .bipush 8, 2, ([], .null)), (80, .iload 4, 2, ([], .null)), 
  (82, .imul, 1, ([], .null)), (83, .lushr, 1, ([], .null)), (84, .ldc2_w 199, 3, ([], .long 255)), (87, .land, 1, ([], .null)), (88, .l2i, 1, ([], .null)), 
  (89, .iastore, 1, ([], .null)), (90, .iinc 4 1, 3, ([], .null)), (93, .goto (-33), 3, ([60], .null)), (96, .aload_n 0, 1, ([], .null)), (97, .dup, 1, ([], .null)), 
  (98, .getfield 256, 3, ([9, 7], .null)), (101, .iload_n 3, 1, ([], .null)), (102, .iadd, 1, ([], .null)), (103, .putfield 256, 3, ([9, 7, 0], .null)), 
  (106, .aload_n 0, 1, ([], .null)), (107, .getfield 256, 3, ([9, 7], .null)), (110, .ireturn, 1, ([], .null))
]
def mi_M_feed : pm_I := ((kc_M_feed, []), 5, ⟨"SegmentDeskModel", "feed", "(JI)I"⟩, prog_13_method_58_code, (some .int), 2)
def kc_M_drop : List (Nat × Instr × Nat × pm_L) := [
  (0, .aload_n 0, 1, ([], .null)), (1, .iconst 0, 1, ([], .null)), (2, .putfield 78, 3, ([9, 10, 0], .null)), (5, .aload_n 0, 1, ([], .null)), 
  (6, .getfield 256, 3, ([9, 7], .null)), (9, .istore_n 1, 1, ([], .null)), (10, .aload_n 0, 1, ([], .null)), (11, .iconst 0, 1, ([], .null)), 
  (12, .putfield 256, 3, ([9, 7, 0], .null)), (15, .iload_n 1, 1, ([], .null)), (16, .ireturn, 1, ([], .null))
]
def mi_M_drop : pm_I := ((kc_M_drop, []), 2, ⟨"SegmentDeskModel", "drop", "()I"⟩, prog_13_method_59_code, (some .int), 0)
def kc_M_take : List (Nat × Instr × Nat × pm_L) := [
  (0, .aload_n 0, 1, ([], .null)), (1, .iconst 0, 1, ([], .null)), (2, .putfield 78, 3, ([9, 10, 0], .null)), (5, .aload_n 0, 1, ([], .null)), 
  (6, .invokevirtual 264, 3, ([228, 1, 0, 10], .null)), (9, .istore_n 1, 1, ([], .null)), (10, .aload_n 0, 1, ([], .null)), (11, .iload_n 1, 1, ([], .null)), 
  (12, .iconst 1, 1, ([], .null)), (13, .if_icmp .ge 7, 3, ([20], .null)), (16, .iconst 1, 1, ([], .null)), (17, .goto 4, 3, ([21], .null)), (20, .iconst 0, 1, ([], .null)), 
  (21, .iconst 1, 1, ([], .null)), (22, .invokevirtual 93, 3, ([172, 3, 0, 10], .null)), (25, .ifCond .eq 5, 3, ([30], .null)), (28, .iconst 0, 1, ([], .null)), 
  (29, .ireturn, 1, ([], .null)), (30, .aload_n 0, 1, ([], .null)), (31, .iconst 0, 1, ([], .null)), (32, .invokevirtual 267, 3, ([230, 2, 0, 10], .null)), 
  (35, .lconst 1, 1, ([], .null)), (36, .ladd, 1, ([], .null)), (37, .lstore_n 2, 1, ([], .null)), (38, .aload_n 0, 1, ([], .null)), (39, .lload_n 2, 1, ([], .null)), 
  (40, .ldc2_w 85, 3, ([], .long 4)), (43, .lcmp, 1, ([], .null)), (44, .ifCond .le 7, 3, ([51], .null)), (47, .iconst 1, 1, ([], .null)), (48, .goto 4, 3, ([52], .null)), 
  (51, .iconst 0, 1, ([], .null)), (52, .iconst 1, 1, ([], .null)), (53, .invokevirtual 93, 3, ([172, 3, 0, 10], .null)), (56, .ifCond .eq 5, 3, ([61], .null)), 
  (59, .iconst 0, 1, ([], .null)), (60, .ireturn, 1, ([], .null)), (61, .lload_n 2, 1, ([], .null)), (62, .l2i, 1, ([], .null)), (63, .istore 4, 2, ([], .null)), 
  (65, .iload 4, 2, ([], .null)), (67, .iconst 2, 1, ([], .null)), (68, .iadd, 1, ([], .null)), (69, .iconst 2, 1, ([], .null)), (70, .idiv, 1, ([], .null)), 
  (71, .istore 5, 2, ([], .null)), (73, .aload_n 0, 1, ([], .null)), (74, .iload_n 1, 1, ([], .null)), (75, .iload 5, 2, ([], .null)), (77, .if_icmp .ge 7, 3, ([84], .null)), 
  (80, .iconst 1, 1, ([], .null)), (81, .goto 4, 3, ([85], .null)), (84, .iconst 0, 1, ([], .null)), (85, .iconst 1, 1, ([], .null)), 
  (86, .invokevirtual 93, 3, ([172, 3, 0, 10], .null)), (89, .ifCond .eq 5, 3, ([94], .null)), (92, .iconst 0, 1, ([], .null)), (93, .ireturn, 1, ([], .null)), 
  (94, .iload 5, 2, ([], .null)), (96, .i2l, 1, ([], .null)), (97, .lstore 6, 2, ([], .null)), (99, .iconst 0, 1, ([], .null)), (100, .istore 8, 2, ([], .null)), 
  (102, .iload 8, 2, ([], .null)), (104, .iload 4, 2, ([], .null)), (106, .if_icmp .ge 52, 3, ([158], .null)), (109, .lload 6, 2, ([], .null)), (111, .aload_n 0, 1, ([], .null)), 
  (112, .iconst 1, 1, ([], .null)), (113, .iload 8, 2, ([], .null)), (115, .iadd, 1, ([], .null)), (116, .invokevirtual 267, 3, ([230, 2, 0, 10], .null)), 
  (119, .ladd, 1, ([], .null)), (120, .lstore 6, 2, ([], .null)), (122, .aload_n 0, 1, ([], .null)), (123, .aload_n 0, 1, ([], .null)), (124, .iconst 1, 1, ([], .null)), 
  (125, .iload 8, 2, ([], .null)), (127, .iadd, 1, ([], .null)), (128, .invokevirtual 267, 3, ([230, 2, 0, 10], .null)), (131, .ldc2_w 91, 3, ([], .long 64)), 
  (134, .lcmp, 1, ([], .null)), (135, .ifCond .le 7, 3, ([142], .null)), (138, .iconst 1, 1, ([], .null)), (139, .goto 4, 3, ([143], .null)), (142, .iconst 0, 1, ([], .null)), 
  (143, .iconst 1, 1, ([], .null)), (144, .invokevirtual 93, 3, ([172, 3, 0, 10], .null)), (147, .ifCond .eq 5, 3, ([152], .null)), (150, .iconst 0, 1, ([], .null)), 
  (151, .ireturn, 1, ([], .null)), (152, .iinc 8 1, 3, ([], .null)), (155, .goto (-53), 3, ([102], .null)), (158, .aload_n 0, 1, ([], .null)), (159, .lload 6, 2, ([], .null)), 
  (161, .iload_n 1, 1, ([], .null)), (162, .i2l, 1, ([], .null)), (163, .lcmp, 1, ([], .null)), (164, .ifCond .eq 7, 3, ([171], .null)), (167, .iconst 1, 1, ([], .null)), 
  (168, .goto 4, 3, ([172], .null)), (171, .iconst 0, 1, ([], .null)), (172, .iconst 1, 1, ([], .null)), (173, .invokevirtual 93, 3, ([172, 3, 0, 10], .null)), 
  (176, .ifCond .eq 5, 3, ([181], .null)), (179, .iconst 0, 1, ([], .null)), (180, .ireturn, 1, ([], .null)), (181, .aload_n 0, 1, ([], .null)), (182, .iload 4, 2, ([], .null)), 
  (184, .putfield 29, 3, ([9, 6, 0], .null)), (187, .iload 5, 2, ([], .null)), (189, .istore 8, 2, ([], .null)), (191, .iconst 0, 1, ([], .null)), 
  (192, .istore 9, 2, ([], .null)), (194, .iload 9, 2, ([], .null)), (196, .iconst 4, 1, ([], .null)), (197, .if_icmp .ge 79, 3, ([276], .null)), 
  (200, .aload_n 0, 1, ([], .null)), (201, .iload 9, 2, ([], .null)), (203, .iload 9, 2, ([], .null)), (205, .iload 4, 2, ([], .null)), (207, .if_icmp .ge 15, 3, ([222], .null)), 
  (210, .aload_n 0, 1, ([], .null)), (211, .iconst 1, 1, ([], .null)), (212, .iload 9, 2, ([], .null)), (214, .iadd, 1, ([], .null)), 
  (215, .invokevirtual 267, 3, ([230, 2, 0, 10], .null)), (218, .l2i, 1, ([], .null)), (219, .goto 4, 3, ([223], .null)), (222, .iconst 0, 1, ([], .null)), 
  (223, .invokevirtual 97, 3, ([173, 3, 0, 10], .null)), (226, .iconst 0, 1, ([], .null)), (227, .istore 10, 2, ([], .null)), (229, .iload 10, 2, ([], .null)), 
  (231, .aload_n 0, 1, ([], .null)), (232, .getfield 19, 3, ([9, 3], .null)), (235, .iload 9, 2, ([], .null)), (237, .iaload, 1, ([], .null)), 
  (238, .if_icmp .ge 32, 3, ([270], .null)), (241, .aload_n 0, 1, ([], .null)), (242, .getfield 7, 3, ([9, 0], .null)), (245, .bipush 64, 2, ([], .null)), 
  (247, .iload 9, 2, ([], .null)), (249, .imul, 1, ([], .null)), (250, .iload 10, 2, ([], .null)), (252, .iadd, 1, ([], .null)), (253, .aload_n 0, 1, ([], .null)), 
  (254, .getfield 16, 3, ([9, 2], .null)), (257, .iload 8, 2, ([], .null)), (259, .laload, 1, ([], .null)), (260, .lastore, 1, ([], .null)), (261, .iinc 8 1, 3, ([], .null)), 
  (264, .iinc 10 1, 3, ([], .null)), (267, .goto (-38), 3, ([229], .null)), (270, .iinc 9 1, 3, ([], .null)), (273, .goto (-79), 3, ([194], .null)), 
  (276, .aload_n 0, 1, ([], .null)), (277, .iconst 0, 1, ([], .null)), (278, .putfield 101, 3, ([9, 11, 4], .null)), (281, .aload_n 0, 1, ([], .null)), 
  (282, .invokevirtual 105, 3, ([174, 1, 0, 10], .null)), (285, .iload 4, 2, ([], .null)), (287, .ireturn, 1, ([], .null))
]
def mi_M_take : pm_I := ((kc_M_take, []), 11, ⟨"SegmentDeskModel", "take", "()I"⟩, prog_13_method_63_code, (some .int), 0)
def kc_M_unpacked : List (Nat × Instr × Nat × pm_L) := [
  (0, .iconst 0, 1, ([], .null)), (1, .istore_n 1, 1, ([], .null)), (2, .iconst 0, 1, ([], .null)), (3, .istore_n 2, 1, ([], .null)), (4, .iload_n 2, 1, ([], .null)), 
  (5, .aload_n 0, 1, ([], .null)), (6, .getfield 256, 3, ([9, 7], .null)), (9, .if_icmp .ge 234, 3, ([243], .null)), (12, .aload_n 0, 1, ([], .null)), 
  (13, .getfield 23, 3, ([9, 4], .null)), (16, .iload_n 2, 1, ([], .null)), (17, .iaload, 1, ([], .null)), (18, .istore_n 3, 1, ([], .null)), (19, .lconst 0, 1, ([], .null)), 
  (20, .lstore 4, 2, ([], .null)), (22, .iinc 2 1, 3, ([], .null)), (25, .iconst 0, 1, ([], .null)), (26, .istore 6, 2, ([], .null)), (28, .iload 6, 2, ([], .null)), 
  (30, .bipush 8, 2, ([], .null)), (32, .if_icmp .ge 50, 3, ([82], .null)), (35, .iload_n 3, 1, ([], .null)), (36, .iload 6, 2, ([], .null)), (38, .ishr, 1, ([], .null)), 
  (39, .iconst 1, 1, ([], .null)), (40, .iand, 1, ([], .null)), (41, .iconst 1, 1, ([], .null)), (42, .if_icmp .ne 34, 3, ([76], .null)), (45, .iload_n 2, 1, ([], .null)), 
  (46, .aload_n 0, 1, ([], .null)), (47, .getfield 256, 3, ([9, 7], .null)), (50, .if_icmp .lt 5, 3, ([55], .null)), (53, .iconst (-1), 1, ([], .null)), 
  (54, .ireturn, 1, ([], .null)), (55, .lload 4, 2, ([], .null)), (57, .aload_n 0, 1, ([], .null)), (58, .getfield 23, 3, ([9, 4], .null)), (61, .iload_n 2, 1, ([], .null)), 
  (62, .iaload, 1, ([], .null)), (63, .i2l, 1, ([], .null)), (64, .bipush 8, 2, ([], .null)), (66, .iload 6, 2, ([], .null)), (68, .imul, 1, ([], .null)), 
  (69, .lshl, 1, ([], .null)), (70, .lor, 1, ([], .null)), (71, .lstore 4, 2, ([], .null)), (73, .iinc 2 1, 3, ([], .null)), (76, .iinc 6 1, 3, ([], .null)), 
  (79, .goto (-51), 3, ([28], .null)), (82, .aload_n 0, 1, ([], .null)), (83, .iload_n 1, 1, ([], .null)), (84, .lload 4, 2, ([], .null)), 
  (86, .invokevirtual 259, 3, ([229, 3, 0, 10], .null)), (89, .istore_n 1, 1, ([], .null)), (90, .iload_n 3, 1, ([], .null)), (91, .ifCond .eq 13, 3, ([104], .null)), 
  (94, .iload_n 3, 1, ([], .null)), (95, .sipush 255, 3, ([], .null)), (98, .if_icmp .eq 6, 3, ([104], .null)), (101, .goto (-97), 3, ([4], .null)), 
  (104, .iload_n 2, 1, ([], .null)), (105, .aload_n 0, 1, ([], .null)), (106, .getfield 256, 3, ([9, 7], .null)), (109, .if_icmp .lt 5, 3, ([114], .null)), 
  (112, .iconst (-1), 1, ([], .null)), (113, .ireturn, 1, ([], .null)), (114, .aload_n 0, 1, ([], .null)), (115, .getfield 23, 3, ([9, 4], .null)), 
  (118, .iload_n 2, 1, ([], .null)), (119, .iaload, 1, ([], .null)), (120, .istore 6, 2, ([], .null)), (122, .iinc 2 1, 3, ([], .null)), (125, .iload_n 3, 1, ([], .null)), 
  (126, .sipush 255, 3, ([], .null)), (129, .if_icmp .ne 19, 3, ([148], .null)), (132, .iload_n 2, 1, ([], .null)), (133, .bipush 8, 2, ([], .null)), 
  (135, .iload 6, 2, ([], .null)), (137, .imul, 1, ([], .null)), (138, .iadd, 1, ([], .null)), (139, .aload_n 0, 1, ([], .null)), (140, .getfield 256, 3, ([9, 7], .null)), 
  (143, .if_icmp .le 5, 3, ([148], .null)), (146, .iconst (-1), 1, ([], .null)), (147, .ireturn, 1, ([], .null)), (148, .iconst 0, 1, ([], .null)), 
  (149, .istore 7, 2, ([], .null)), (151, .iload 7, 2, ([], .null)), (153, .iload 6, 2, ([], .null)), (155, .if_icmp .ge 70, 3, ([225], .null)), (158, .lconst 0, 1, ([], .null)), 
  (159, .lstore 4, 2, ([], .null)), (161, .iconst 0, 1, ([], .null)), (162, .istore 8, 2, ([], .null)), (164, .iload 8, 2, ([], .null)), (166, .bipush 8, 2, ([], .null)), 
  (168, .if_icmp .ge 43, 3, ([211], .null)), (171, .iload_n 3, 1, ([], .null)), (172, .sipush 255, 3, ([], .null)), (175, .if_icmp .ne 36, 3, ([211], .null)), 
  (178, .lload 4, 2, ([], .null)), (180, .aload_n 0, 1, ([], .null)), (181, .getfield 23, 3, ([9, 4], .null)), (184, .iload_n 2, 1, ([], .null)), (185, .bipush 8, 2, ([], .null)), 
  (187, .iload 7, 2, ([], .null)), (189, .imul, 1, ([], .null)), (190, .iadd, 1, ([], .null)), (191, .iload 8, 2, ([], .null)), (193, .iadd, 1, ([], .null)), 
  (194, .iaload, 1, ([], .null)), (195, .i2l, 1, ([], .null)), (196, .bipush 8, 2, ([], .null)), (198, .iload 8, 2, ([], .null)), (200, .imul, 1, ([], .null)), 
  (201, .lshl, 1, ([], .null)), (202, .lor, 1, ([], .null)), (203, .lstore 4, 2, ([], .null)), (205, .iinc 8 1, 3, ([], .null)), (208, .goto (-44), 3, ([164], .null)), 
  (211, .aload_n 0, 1, ([], .null)), (212, .iload_n 1, 1, ([], .null)), (213, .lload 4, 2, ([], .null)), (215, .invokevirtual 259, 3, ([229, 3, 0, 10], .null)), 
  (218, .istore_n 1, 1, ([], .null)), (219, .iinc 7 1, 3, ([], .null)), (222, .goto (-71), 3, ([151], .null)), (225, .iload_n 3, 1, ([], .null)), 
  (226, .sipush 255, 3, ([], .null)), (229, .if_icmp .ne 11, 3, ([240], .null)), (232, .iload_n 2, 1, ([], .null)), (233, .bipush 8, 2, ([], .null)), 
  (235, .iload 6, 2, ([], .null)), (237, .imul, 1, ([], .null)), (238, .iadd, 1, ([], .null)), (239, .istore_n 2, 1, ([], .null)), (240, .goto (-236), 3, ([4], .null)), 
  (243, .iload_n 1, 1, ([], .null)), (244, .ireturn, 1, ([], .null))
]
def mi_M_unpacked : pm_I := ((kc_M_unpacked, []), 9, ⟨"SegmentDeskModel", "unpacked", "()I"⟩, prog_13_method_61_code, (some .int), 0)
def kc_M_grown : List (Nat × Instr × Nat × pm_L) := [
  (0, .iload_n 1, 1, ([], .null)), (1, .sipush 300, 3, ([], .null)), (4, .if_icmp .ge 10, 3, ([14], .null)), (7, .aload_n 0, 1, ([], .null)), 
  (8, .getfield 16, 3, ([9, 2], .null)), (11, .iload_n 1, 1, ([], .null)), (12, .lload_n 2, 1, ([], .null)), (13, .lastore, 1, ([], .null)), (14, .iload_n 1, 1, ([], .null)), 
  (15, .iconst 1, 1, ([], .null)), (16, .iadd, 1, ([], .null)), (17, .ireturn, 1, ([], .null))
]
def mi_M_grown : pm_I := ((kc_M_grown, []), 4, ⟨"SegmentDeskModel", "grown", "(IJ)I"⟩, prog_13_method_60_code, (some .int), 2)
def kc_M_fourth : List (Nat × Instr × Nat × pm_L) := [
  (0, .aload_n 0, 1, ([], .null)), (1, .getfield 16, 3, ([9, 2], .null)), (4, .iload_n 1, 1, ([], .null)), (5, .iconst 2, 1, ([], .null)), (6, .idiv, 1, ([], .null)), 
  (7, .laload, 1, ([], .null)), (8, .bipush 32, 2, ([], .null)), (10, .iload_n 1, 1, ([], .null)), (11, .iconst 2, 1, ([], .null)), (12, .irem, 1, ([], .null)), 
  (13, .imul, 1, ([], .null)), (14, .lushr, 1, ([], .null)), (15, .ldc2_w 262, 3, ([], .long 4294967295)), (18, .land, 1, ([], .null)), (19, .lreturn, 1, ([], .null))
]
def mi_M_fourth : pm_I := ((kc_M_fourth, []), 2, ⟨"SegmentDeskModel", "fourth", "(I)J"⟩, prog_13_method_62_code, (some .long), 1)
def kc_M_canonical : List (Nat × Instr × Nat × pm_L) := [
  (0, .aload_n 0, 1, ([], .null)), (1, .iconst 0, 1, ([], .null)), (2, .putfield 78, 3, ([9, 10, 0], .null)), (5, .aload_n 0, 1, ([], .null)), (6, .aload_n 0, 1, ([], .null)), 
  (7, .getfield 19, 3, ([9, 3], .null)), (10, .iconst 0, 1, ([], .null)), (11, .iaload, 1, ([], .null)), (12, .ifCond .ne 7, 3, ([19], .null)), (15, .iconst 1, 1, ([], .null)), 
  (16, .goto 4, 3, ([20], .null)), (19, .iconst 0, 1, ([], .null)), (20, .iconst 1, 1, ([], .null)), (21, .invokevirtual 93, 3, ([172, 3, 0, 10], .null)), 
  (24, .ifCond .eq 5, 3, ([29], .null)), (27, .iconst 0, 1, ([], .null)), (28, .ireturn, 1, ([], .null)), (29, .iconst 0, 1, ([], .null)), (30, .istore_n 1, 1, ([], .null)), 
  (31, .iload_n 1, 1, ([], .null)), (32, .bipush 64, 2, ([], .null)), (34, .if_icmp .ge 16, 3, ([50], .null)), (37, .aload_n 0, 1, ([], .null)), 
  (38, .getfield 13, 3, ([9, 1], .null)), (41, .iload_n 1, 1, ([], .null)), (42, .lconst 0, 1, ([], .null)), (43, .lastore, 1, ([], .null)), (44, .iinc 1 1, 3, ([], .null)), 
  (47, .goto (-16), 3, ([31], .null)), (50, .iconst 1, 1, ([], .null)), (51, .istore_n 1, 1, ([], .null)), (52, .aload_n 0, 1, ([], .null)), (53, .iconst 0, 1, ([], .null)), 
  (54, .putfield 271, 3, ([9, 26, 0], .null)), (57, .aload_n 0, 1, ([], .null)), (58, .iconst 0, 1, ([], .null)), (59, .iconst 0, 1, ([], .null)), (60, .iconst 0, 1, ([], .null)), 
  (61, .bipush 64, 2, ([], .null)), (63, .invokevirtual 274, 3, ([232, 5, 0, 10], .null)), (66, .aload_n 0, 1, ([], .null)), (67, .getfield 271, 3, ([9, 26], .null)), 
  (70, .ifCond .le 146, 3, ([216], .null)), (73, .aload_n 0, 1, ([], .null)), (74, .getfield 78, 3, ([9, 10], .null)), (77, .ifCond .ne 139, 3, ([216], .null)), 
  (80, .aload_n 0, 1, ([], .null)), (81, .dup, 1, ([], .null)), (82, .getfield 271, 3, ([9, 26], .null)), (85, .iconst 1, 1, ([], .null)), (86, .isub, 1, ([], .null)), 
  (87, .putfield 271, 3, ([9, 26, 0], .null)), (90, .aload_n 0, 1, ([], .null)), (91, .getfield 72, 3, ([9, 24], .null)), (94, .aload_n 0, 1, ([], .null)), 
  (95, .getfield 271, 3, ([9, 26], .null)), (98, .iaload, 1, ([], .null)), (99, .istore_n 2, 1, ([], .null)), (100, .aload_n 0, 1, ([], .null)), (101, .bipush 16, 2, ([], .null)), 
  (103, .aload_n 0, 1, ([], .null)), (104, .getfield 66, 3, ([9, 22], .null)), (107, .aload_n 0, 1, ([], .null)), (108, .getfield 271, 3, ([9, 26], .null)), 
  (111, .iaload, 1, ([], .null)), (112, .aload_n 0, 1, ([], .null)), (113, .getfield 69, 3, ([9, 23], .null)), (116, .aload_n 0, 1, ([], .null)), 
  (117, .getfield 271, 3, ([9, 26], .null)), (120, .iaload, 1, ([], .null)), (121, .aload_n 0, 1, ([], .null)), (122, .getfield 75, 3, ([9, 25], .null)), 
  (125, .aload_n 0, 1, ([], .null)), (126, .getfield 271, 3, ([9, 26], .null)), (129, .iaload, 1, ([], .null)), (130, .invokevirtual 161, 3, ([182, 5, 0, 10], .null)), 
  (133, .istore_n 3, 1, ([], .null)), (134, .aload_n 0, 1, ([], .null)), (135, .iload_n 3, 1, ([], .null)), (136, .ifCond .ne 7, 3, ([143], .null)), 
  (139, .iconst 1, 1, ([], .null)), (140, .goto 4, 3, ([144], .null)), (143, .iconst 0, 1, ([], .null)), (144, .iconst 1, 1, ([], .null)), 
  (145, .invokevirtual 93, 3, ([172, 3, 0, 10], .null)), (148, .ifCond .eq 5, 3, ([153], .null)), (151, .iconst 0, 1, ([], .null)), (152, .ireturn, 1, ([], .null)), 
  (153, .aload_n 0, 1, ([], .null)), (154, .getfield 36, 3, ([9, 12], .null)), (157, .bipush 16, 2, ([], .null)), (159, .iaload, 1, ([], .null)), (160, .iconst 1, 1, ([], .null)), 
  (161, .if_icmp .ne 13, 3, ([174], .null)), (164, .aload_n 0, 1, ([], .null)), (165, .iload_n 2, 1, ([], .null)), (166, .iload_n 1, 1, ([], .null)), 
  (167, .invokevirtual 278, 3, ([233, 3, 0, 10], .null)), (170, .istore_n 1, 1, ([], .null)), (171, .goto 42, 3, ([213], .null)), (174, .aload_n 0, 1, ([], .null)), 
  (175, .getfield 36, 3, ([9, 12], .null)), (178, .bipush 16, 2, ([], .null)), (180, .iaload, 1, ([], .null)), (181, .iconst 2, 1, ([], .null)), 
  (182, .if_icmp .ne 31, 3, ([213], .null)), (185, .aload_n 0, 1, ([], .null)), (186, .getfield 57, 3, ([9, 19], .null)), (189, .bipush 16, 2, ([], .null)), 
  (191, .iaload, 1, ([], .null)), (192, .bipush 7, 2, ([], .null)), (194, .if_icmp .ne 12, 3, ([206], .null)), (197, .aload_n 0, 1, ([], .null)), 
  (198, .iload_n 2, 1, ([], .null)), (199, .iload_n 1, 1, ([], .null)), (200, .invokevirtual 281, 3, ([235, 3, 0, 10], .null)), (203, .goto 9, 3, ([212], .null)), 
  (206, .aload_n 0, 1, ([], .null)), (207, .iload_n 2, 1, ([], .null)), (208, .iload_n 1, 1, ([], .null)), (209, .invokevirtual 284, 3, ([236, 3, 0, 10], .null)), 
  (212, .istore_n 1, 1, ([], .null)), (213, .goto (-147), 3, ([66], .null)), (216, .aload_n 0, 1, ([], .null)), (217, .getfield 78, 3, ([9, 10], .null)), 
  (220, .ifCond .eq 5, 3, ([225], .null)), (223, .iconst 0, 1, ([], .null)), (224, .ireturn, 1, ([], .null)), (225, .iconst 1, 1, ([], .null)), (226, .istore_n 2, 1, ([], .null)), 
  (227, .iload_n 2, 1, ([], .null)), (228, .iconst 4, 1, ([], .null)), (229, .if_icmp .ge 15, 3, ([244], .null)), (232, .aload_n 0, 1, ([], .null)), 
  (233, .iload_n 2, 1, ([], .null)), (234, .iconst 0, 1, ([], .null)), (235, .invokevirtual 97, 3, ([173, 3, 0, 10], .null)), (238, .iinc 2 1, 3, ([], .null)), 
  (241, .goto (-14), 3, ([227], .null)), (244, .aload_n 0, 1, ([], .null)), (245, .iconst 0, 1, ([], .null)), (246, .iload_n 1, 1, ([], .null)), 
  (247, .invokevirtual 97, 3, ([173, 3, 0, 10], .null)), (250, .iconst 0, 1, ([], .null)), (251, .istore_n 2, 1, ([], .null)), (252, .iload_n 2, 1, ([], .null)), 
  (253, .iload_n 1, 1, ([], .null)), (254, .if_icmp .ge 21, 3, ([275], .null)), (257, .aload_n 0, 1, ([], .null)), (258, .getfield 7, 3, ([9, 0], .null)), 
  (261, .iload_n 2, 1, ([], .null)), (262, .aload_n 0, 1, ([], .null)), (263, .getfield 13, 3, ([9, 1], .null)), (266, .iload_n 2, 1, ([], .null)), (267, .laload, 1, ([], .null)), 
  (268, .lastore, 1, ([], .null)), (269, .iinc 2 1, 3, ([], .null)), (272, .goto (-20), 3, ([252], .null)), (275, .aload_n 0, 1, ([], .null)), (276, .iconst 1, 1, ([], .null)), 
  (277, .putfield 29, 3, ([9, 6, 0], .null)), (280, .aload_n 0, 1, ([], .null)), (281, .iconst 0, 1, ([], .null)), (282, .putfield 101, 3, ([9, 11, 4], .null)), 
  (285, .aload_n 0, 1, ([], .null)), (286, .invokevirtual 105, 3, ([174, 1, 0, 10], .null)), (289, .iload_n 1, 1, ([], .null)), (290, .ireturn, 1, ([], .null))
]
def mi_M_canonical : pm_I := ((kc_M_canonical, []), 4, ⟨"SegmentDeskModel", "canonical", "()I"⟩, prog_13_method_66_code, (some .int), 0)
def kc_M_push : List (Nat × Instr × Nat × pm_L) := [
  (0, .aload_n 0, 1, ([], .null)), (1, .getfield 66, 3, ([9, 22], .null)), (4, .aload_n 0, 1, ([], .null)), (5, .getfield 271, 3, ([9, 26], .null)), 
  (8, .iload_n 1, 1, ([], .null)), (9, .iastore, 1, ([], .null)), (10, .aload_n 0, 1, ([], .null)), (11, .getfield 69, 3, ([9, 23], .null)), (14, .aload_n 0, 1, ([], .null)), 
  (15, .getfield 271, 3, ([9, 26], .null)), (18, .iload_n 2, 1, ([], .null)), (19, .iastore, 1, ([], .null)), (20, .aload_n 0, 1, ([], .null)), 
  (21, .getfield 72, 3, ([9, 24], .null)), (24, .aload_n 0, 1, ([], .null)), (25, .getfield 271, 3, ([9, 26], .null)), (28, .iload_n 3, 1, ([], .null)), 
  (29, .iastore, 1, ([], .null)), (30, .aload_n 0, 1, ([], .null)), (31, .getfield 75, 3, ([9, 25], .null)), (34, .aload_n 0, 1, ([], .null)), 
  (35, .getfield 271, 3, ([9, 26], .null)), (38, .iload 4, 2, ([], .null)), (40, .iastore, 1, ([], .null)), (41, .aload_n 0, 1, ([], .null)), (42, .dup, 1, ([], .null)), 
  (43, .getfield 271, 3, ([9, 26], .null)), (46, .iconst 1, 1, ([], .null)), (47, .iadd, 1, ([], .null)), (48, .putfield 271, 3, ([9, 26, 0], .null)), 
  (51, .return_, 1, ([], .null))
]
def mi_M_push : pm_I := ((kc_M_push, []), 5, ⟨"SegmentDeskModel", "push", "(IIII)V"⟩, prog_13_method_64_code, none, 4)
def kc_M_writesStruct : List (Nat × Instr × Nat × pm_L) := [
  (0, .aload_n 0, 1, ([], .null)), (1, .getfield 42, 3, ([9, 14], .null)), (4, .bipush 16, 2, ([], .null)), (6, .iaload, 1, ([], .null)), (7, .istore_n 3, 1, ([], .null)), 
  (8, .aload_n 0, 1, ([], .null)), (9, .getfield 45, 3, ([9, 15], .null)), (12, .bipush 16, 2, ([], .null)), (14, .iaload, 1, ([], .null)), (15, .bipush 64, 2, ([], .null)), 
  (17, .idiv, 1, ([], .null)), (18, .istore 4, 2, ([], .null)), (20, .aload_n 0, 1, ([], .null)), (21, .getfield 48, 3, ([9, 16], .null)), (24, .bipush 16, 2, ([], .null)), 
  (26, .iaload, 1, ([], .null)), (27, .bipush 64, 2, ([], .null)), (29, .idiv, 1, ([], .null)), (30, .istore 5, 2, ([], .null)), (32, .aload_n 0, 1, ([], .null)), 
  (33, .iload_n 3, 1, ([], .null)), (34, .iload 4, 2, ([], .null)), (36, .iload 5, 2, ([], .null)), (38, .invokevirtual 287, 3, ([234, 4, 0, 10], .null)), 
  (41, .istore 6, 2, ([], .null)), (43, .aload_n 0, 1, ([], .null)), (44, .iload_n 3, 1, ([], .null)), (45, .iload 4, 2, ([], .null)), (47, .iload 5, 2, ([], .null)), 
  (49, .iadd, 1, ([], .null)), (50, .aload_n 0, 1, ([], .null)), (51, .getfield 51, 3, ([9, 17], .null)), (54, .bipush 16, 2, ([], .null)), (56, .iaload, 1, ([], .null)), 
  (57, .invokevirtual 287, 3, ([234, 4, 0, 10], .null)), (60, .istore 7, 2, ([], .null)), (62, .iload 6, 2, ([], .null)), (64, .i2l, 1, ([], .null)), 
  (65, .bipush 32, 2, ([], .null)), (67, .lshl, 1, ([], .null)), (68, .iload 7, 2, ([], .null)), (70, .i2l, 1, ([], .null)), (71, .bipush 48, 2, ([], .null)), 
  (73, .lshl, 1, ([], .null)), (74, .lor, 1, ([], .null)), (75, .lstore 8, 2, ([], .null)), (77, .aload_n 0, 1, ([], .null)), (78, .getfield 13, 3, ([9, 1], .null)), 
  (81, .iload_n 1, 1, ([], .null)), (82, .lload 8, 2, ([], .null)), (84, .iload 6, 2, ([], .null)), (86, .iload 7, 2, ([], .null)), (88, .iadd, 1, ([], .null)), 
  (89, .ifCond .ne 7, 3, ([96], .null)), (92, .iconst (-1), 1, ([], .null)), (93, .goto 8, 3, ([101], .null)), (96, .iload_n 2, 1, ([], .null)), (97, .iload_n 1, 1, ([], .null)), 
  (98, .isub, 1, ([], .null)), (99, .iconst 1, 1, ([], .null)), (100, .isub, 1, ([], .null)), (101, .invokestatic 210, 3, ([210, 2, 0, 0], .null)), 
  (104, .lastore, 1, ([], .null)), (105, .aload_n 0, 1, ([], .null)), (106, .iload_n 2, 1, ([], .null)), (107, .iload 6, 2, ([], .null)), (109, .iadd, 1, ([], .null)), 
  (110, .iload 7, 2, ([], .null)), (112, .iadd, 1, ([], .null)), (113, .bipush 64, 2, ([], .null)), (115, .if_icmp .le 7, 3, ([122], .null)), (118, .iconst 1, 1, ([], .null)), 
  (119, .goto 4, 3, ([123], .null)), (122, .iconst 0, 1, ([], .null)), (123, .iconst 2, 1, ([], .null)), (124, .invokevirtual 93, 3, ([172, 3, 0, 10], .null)), 
  (127, .ifCond .eq 5, 3, ([132], .null)), (130, .iload_n 2, 1, ([], .null)), (131, .ireturn, 1, ([], .null)), (132, .iconst 0, 1, ([], .null)), (133, .istore 10, 2, ([], .null)), 
  (135, .iload 10, 2, ([], .null)), (137, .iload 6, 2, ([], .null)), (139, .if_icmp .ge 33, 3, ([172], .null)), (142, .aload_n 0, 1, ([], .null)), 
  (143, .getfield 13, 3, ([9, 1], .null)), (146, .iload_n 2, 1, ([], .null)), (147, .iload 10, 2, ([], .null)), (149, .iadd, 1, ([], .null)), (150, .aload_n 0, 1, ([], .null)), 
  (151, .getfield 7, 3, ([9, 0], .null)), (154, .bipush 64, 2, ([], .null)), (156, .iload_n 3, 1, ([], .null)), (157, .imul, 1, ([], .null)), (158, .iload 4, 2, ([], .null)), 
  (160, .iadd, 1, ([], .null)), (161, .iload 10, 2, ([], .null)), (163, .iadd, 1, ([], .null)), (164, .laload, 1, ([], .null)), (165, .lastore, 1, ([], .null)), 
  (166, .iinc 10 1, 3, ([], .null)), (169, .goto (-34), 3, ([135], .null)), (172, .iload 7, 2, ([], .null)), (174, .iconst 1, 1, ([], .null)), (175, .isub, 1, ([], .null)), 
  (176, .istore 10, 2, ([], .null)), (178, .iload 10, 2, ([], .null)), (180, .ifCond .lt 36, 3, ([216], .null)), (183, .aload_n 0, 1, ([], .null)), 
  (184, .iload_n 3, 1, ([], .null)), (185, .iload 4, 2, ([], .null)), (187, .iload 5, 2, ([], .null)), (189, .iadd, 1, ([], .null)), (190, .iload 10, 2, ([], .null)), 
  (192, .iadd, 1, ([], .null)), (193, .iload_n 2, 1, ([], .null)), (194, .iload 6, 2, ([], .null)), (196, .iadd, 1, ([], .null)), (197, .iload 10, 2, ([], .null)), 
  (199, .iadd, 1, ([], .null)), (200, .aload_n 0, 1, ([], .null)), (201, .getfield 39, 3, ([9, 13], .null)), (204, .bipush 16, 2, ([], .null)), (206, .iaload, 1, ([], .null)), 
  (207, .invokevirtual 274, 3, ([232, 5, 0, 10], .null)), (210, .iinc 10 (-1), 3, ([], .null)), (213, .goto (-35), 3, ([178], .null)), (216, .iload_n 2, 1, ([], .null)), 
  (217, .iload 6, 2, ([], .null)), (219, .iadd, 1, ([], .null)), (220, .iload 7, 2, ([], .null)), (222, .iadd, 1, ([], .null)), (223, .ireturn, 1, ([], .null))
]
def mi_M_writesStruct : pm_I := ((kc_M_writesStruct, []), 11, ⟨"SegmentDeskModel", "writesStruct", "(II)I"⟩, prog_13_method_67_code, (some .int), 2)
def kc_M_needs : List (Nat × Instr × Nat × pm_L) := [
  (0, .iload_n 3, 1, ([], .null)), (1, .istore 4, 2, ([], .null)), (3, .iload 4, 2, ([], .null)), (5, .ifCond .le 30, 3, ([35], .null)), (8, .aload_n 0, 1, ([], .null)), 
  (9, .getfield 7, 3, ([9, 0], .null)), (12, .bipush 64, 2, ([], .null)), (14, .iload_n 1, 1, ([], .null)), (15, .imul, 1, ([], .null)), (16, .iload_n 2, 1, ([], .null)), 
  (17, .iadd, 1, ([], .null)), (18, .iload 4, 2, ([], .null)), (20, .iadd, 1, ([], .null)), (21, .iconst 1, 1, ([], .null)), (22, .isub, 1, ([], .null)), 
  (23, .laload, 1, ([], .null)), (24, .lconst 0, 1, ([], .null)), (25, .lcmp, 1, ([], .null)), (26, .ifCond .ne 9, 3, ([35], .null)), (29, .iinc 4 (-1), 3, ([], .null)), 
  (32, .goto (-29), 3, ([3], .null)), (35, .iload 4, 2, ([], .null)), (37, .ireturn, 1, ([], .null))
]
def mi_M_needs : pm_I := ((kc_M_needs, []), 5, ⟨"SegmentDeskModel", "needs", "(III)I"⟩, prog_13_method_65_code, (some .int), 3)
def kc_M_writesStructs : List (Nat × Instr × Nat × pm_L) := [
  (0, .aload_n 0, 1, ([], .null)), (1, .getfield 42, 3, ([9, 14], .null)), (4, .bipush 16, 2, ([], .null)), (6, .iaload, 1, ([], .null)), (7, .istore_n 3, 1, ([], .null)), 
  (8, .aload_n 0, 1, ([], .null)), (9, .getfield 45, 3, ([9, 15], .null)), (12, .bipush 16, 2, ([], .null)), (14, .iaload, 1, ([], .null)), (15, .bipush 64, 2, ([], .null)), 
  (17, .idiv, 1, ([], .null)), (18, .iconst 1, 1, ([], .null)), (19, .iadd, 1, ([], .null)), (20, .istore 4, 2, ([], .null)), (22, .aload_n 0, 1, ([], .null)), 
  (23, .getfield 54, 3, ([9, 18], .null)), (26, .bipush 16, 2, ([], .null)), (28, .iaload, 1, ([], .null)), (29, .istore 5, 2, ([], .null)), (31, .iconst 0, 1, ([], .null)), 
  (32, .istore 6, 2, ([], .null)), (34, .iconst 0, 1, ([], .null)), (35, .istore 7, 2, ([], .null)), (37, .aload_n 0, 1, ([], .null)), (38, .getfield 60, 3, ([9, 20], .null)), 
  (41, .bipush 16, 2, ([], .null)), (43, .iaload, 1, ([], .null)), (44, .aload_n 0, 1, ([], .null)), (45, .getfield 63, 3, ([9, 21], .null)), (48, .bipush 16, 2, ([], .null)), 
  (50, .iaload, 1, ([], .null)), (51, .iadd, 1, ([], .null)), (52, .istore 8, 2, ([], .null)), (54, .iconst 0, 1, ([], .null)), (55, .istore 9, 2, ([], .null)), 
  (57, .iload 9, 2, ([], .null)), (59, .iload 5, 2, ([], .null)), (61, .if_icmp .ge 98, 3, ([159], .null)), (64, .iload 8, 2, ([], .null)), 
  (66, .ifCond .le 93, 3, ([159], .null)), (69, .aload_n 0, 1, ([], .null)), (70, .iload_n 3, 1, ([], .null)), (71, .iload 4, 2, ([], .null)), (73, .iload 9, 2, ([], .null)), 
  (75, .iload 8, 2, ([], .null)), (77, .imul, 1, ([], .null)), (78, .iadd, 1, ([], .null)), (79, .aload_n 0, 1, ([], .null)), (80, .getfield 60, 3, ([9, 20], .null)), 
  (83, .bipush 16, 2, ([], .null)), (85, .iaload, 1, ([], .null)), (86, .invokevirtual 287, 3, ([234, 4, 0, 10], .null)), (89, .istore 10, 2, ([], .null)), 
  (91, .aload_n 0, 1, ([], .null)), (92, .iload_n 3, 1, ([], .null)), (93, .iload 4, 2, ([], .null)), (95, .iload 9, 2, ([], .null)), (97, .iload 8, 2, ([], .null)), 
  (99, .imul, 1, ([], .null)), (100, .iadd, 1, ([], .null)), (101, .aload_n 0, 1, ([], .null)), (102, .getfield 60, 3, ([9, 20], .null)), (105, .bipush 16, 2, ([], .null)), 
  (107, .iaload, 1, ([], .null)), (108, .iadd, 1, ([], .null)), (109, .aload_n 0, 1, ([], .null)), (110, .getfield 63, 3, ([9, 21], .null)), (113, .bipush 16, 2, ([], .null)), 
  (115, .iaload, 1, ([], .null)), (116, .invokevirtual 287, 3, ([234, 4, 0, 10], .null)), (119, .istore 11, 2, ([], .null)), (121, .iload 10, 2, ([], .null)), 
  (123, .iload 6, 2, ([], .null)), (125, .if_icmp .le 8, 3, ([133], .null)), (128, .iload 10, 2, ([], .null)), (130, .goto 5, 3, ([135], .null)), (133, .iload 6, 2, ([], .null)), 
  (135, .istore 6, 2, ([], .null)), (137, .iload 11, 2, ([], .null)), (139, .iload 7, 2, ([], .null)), (141, .if_icmp .le 8, 3, ([149], .null)), (144, .iload 11, 2, ([], .null)), 
  (146, .goto 5, 3, ([151], .null)), (149, .iload 7, 2, ([], .null)), (151, .istore 7, 2, ([], .null)), (153, .iinc 9 1, 3, ([], .null)), (156, .goto (-99), 3, ([57], .null)), 
  (159, .iload 5, 2, ([], .null)), (161, .i2l, 1, ([], .null)), (162, .iload 6, 2, ([], .null)), (164, .iload 7, 2, ([], .null)), (166, .iadd, 1, ([], .null)), 
  (167, .i2l, 1, ([], .null)), (168, .lmul, 1, ([], .null)), (169, .lstore 9, 2, ([], .null)), (171, .aload_n 0, 1, ([], .null)), (172, .getfield 13, 3, ([9, 1], .null)), 
  (175, .iload_n 1, 1, ([], .null)), (176, .ldc2_w 291, 3, ([], .long 30064771073)), (179, .lload 9, 2, ([], .null)), (181, .bipush 35, 2, ([], .null)), 
  (183, .lshl, 1, ([], .null)), (184, .lor, 1, ([], .null)), (185, .iload_n 2, 1, ([], .null)), (186, .iload_n 1, 1, ([], .null)), (187, .isub, 1, ([], .null)), 
  (188, .iconst 1, 1, ([], .null)), (189, .isub, 1, ([], .null)), (190, .invokestatic 210, 3, ([210, 2, 0, 0], .null)), (193, .lastore, 1, ([], .null)), 
  (194, .aload_n 0, 1, ([], .null)), (195, .iload_n 2, 1, ([], .null)), (196, .i2l, 1, ([], .null)), (197, .lload 9, 2, ([], .null)), (199, .ladd, 1, ([], .null)), 
  (200, .lconst 1, 1, ([], .null)), (201, .ladd, 1, ([], .null)), (202, .ldc2_w 91, 3, ([], .long 64)), (205, .lcmp, 1, ([], .null)), (206, .ifCond .le 7, 3, ([213], .null)), 
  (209, .iconst 1, 1, ([], .null)), (210, .goto 4, 3, ([214], .null)), (213, .iconst 0, 1, ([], .null)), (214, .iconst 2, 1, ([], .null)), 
  (215, .invokevirtual 93, 3, ([172, 3, 0, 10], .null)), (218, .ifCond .eq 5, 3, ([223], .null)), (221, .iload_n 2, 1, ([], .null)), (222, .ireturn, 1, ([], .null)), 
  (223, .aload_n 0, 1, ([], .null)), (224, .getfield 13, 3, ([9, 1], .null)), (227, .iload_n 2, 1, ([], .null)), (228, .iload 5, 2, ([], .null)), (230, .i2l, 1, ([], .null)), 
  (231, .iconst 2, 1, ([], .null)), (232, .lshl, 1, ([], .null)), (233, .iload 6, 2, ([], .null)), (235, .i2l, 1, ([], .null)), (236, .bipush 32, 2, ([], .null)), 
  (238, .lshl, 1, ([], .null)), (239, .lor, 1, ([], .null)), (240, .iload 7, 2, ([], .null)), (242, .i2l, 1, ([], .null)), (243, .bipush 48, 2, ([], .null)), 
  (245, .lshl, 1, ([], .null)), (246, .lor, 1, ([], .null)), (247, .lastore, 1, ([], .null)), (248, .iconst 0, 1, ([], .null)), (249, .istore 11, 2, ([], .null)), 
  (251, .iload 11, 2, ([], .null)), (253, .iload 5, 2, ([], .null)), (255, .if_icmp .ge 74, 3, ([329], .null)), (258, .iload 6, 2, ([], .null)), (260, .iload 7, 2, ([], .null)), 
  (262, .iadd, 1, ([], .null)), (263, .ifCond .le 66, 3, ([329], .null)), (266, .iconst 0, 1, ([], .null)), (267, .istore 12, 2, ([], .null)), (269, .iload 12, 2, ([], .null)), 
  (271, .iload 6, 2, ([], .null)), (273, .if_icmp .ge 50, 3, ([323], .null)), (276, .aload_n 0, 1, ([], .null)), (277, .getfield 13, 3, ([9, 1], .null)), 
  (280, .iload_n 2, 1, ([], .null)), (281, .iconst 1, 1, ([], .null)), (282, .iadd, 1, ([], .null)), (283, .iload 11, 2, ([], .null)), (285, .iload 6, 2, ([], .null)), 
  (287, .iload 7, 2, ([], .null)), (289, .iadd, 1, ([], .null)), (290, .imul, 1, ([], .null)), (291, .iadd, 1, ([], .null)), (292, .iload 12, 2, ([], .null)), 
  (294, .iadd, 1, ([], .null)), (295, .aload_n 0, 1, ([], .null)), (296, .getfield 7, 3, ([9, 0], .null)), (299, .bipush 64, 2, ([], .null)), (301, .iload_n 3, 1, ([], .null)), 
  (302, .imul, 1, ([], .null)), (303, .iload 4, 2, ([], .null)), (305, .iadd, 1, ([], .null)), (306, .iload 11, 2, ([], .null)), (308, .iload 8, 2, ([], .null)), 
  (310, .imul, 1, ([], .null)), (311, .iadd, 1, ([], .null)), (312, .iload 12, 2, ([], .null)), (314, .iadd, 1, ([], .null)), (315, .laload, 1, ([], .null)), 
  (316, .lastore, 1, ([], .null)), (317, .iinc 12 1, 3, ([], .null)), (320, .goto (-51), 3, ([269], .null)), (323, .iinc 11 1, 3, ([], .null)), 
  (326, .goto (-75), 3, ([251], .null)), (329, .iload 5, 2, ([], .null)), (331, .iconst 1, 1, ([], .null)), (332, .isub, 1, ([], .null)), (333, .istore 11, 2, ([], .null)), 
  (335, .iload 11, 2, ([], .null)), (337, .ifCond .lt 80, 3, ([417], .null)), (340, .iload 7, 2, ([], .null)), (342, .ifCond .le 75, 3, ([417], .null)), 
  (345, .iload 7, 2, ([], .null)), (347, .iconst 1, 1, ([], .null)), (348, .isub, 1, ([], .null)), (349, .istore 12, 2, ([], .null)), (351, .iload 12, 2, ([], .null)), 
  (353, .ifCond .lt 58, 3, ([411], .null)), (356, .aload_n 0, 1, ([], .null)), (357, .iload_n 3, 1, ([], .null)), (358, .iload 4, 2, ([], .null)), 
  (360, .iload 11, 2, ([], .null)), (362, .iload 8, 2, ([], .null)), (364, .imul, 1, ([], .null)), (365, .iadd, 1, ([], .null)), (366, .aload_n 0, 1, ([], .null)), 
  (367, .getfield 60, 3, ([9, 20], .null)), (370, .bipush 16, 2, ([], .null)), (372, .iaload, 1, ([], .null)), (373, .iadd, 1, ([], .null)), (374, .iload 12, 2, ([], .null)), 
  (376, .iadd, 1, ([], .null)), (377, .iload_n 2, 1, ([], .null)), (378, .iconst 1, 1, ([], .null)), (379, .iadd, 1, ([], .null)), (380, .iload 11, 2, ([], .null)), 
  (382, .iload 6, 2, ([], .null)), (384, .iload 7, 2, ([], .null)), (386, .iadd, 1, ([], .null)), (387, .imul, 1, ([], .null)), (388, .iadd, 1, ([], .null)), 
  (389, .iload 6, 2, ([], .null)), (391, .iadd, 1, ([], .null)), (392, .iload 12, 2, ([], .null)), (394, .iadd, 1, ([], .null)), (395, .aload_n 0, 1, ([], .null)), 
  (396, .getfield 39, 3, ([9, 13], .null)), (399, .bipush 16, 2, ([], .null)), (401, .iaload, 1, ([], .null)), (402, .invokevirtual 274, 3, ([232, 5, 0, 10], .null)), 
  (405, .iinc 12 (-1), 3, ([], .null)), (408, .goto (-57), 3, ([351], .null)), (411, .iinc 11 (-1), 3, ([], .null)), (414, .goto (-79), 3, ([335], .null)), 
  (417, .iload_n 2, 1, ([], .null)), (418, .iconst 1, 1, ([], .null)), (419, .iadd, 1, ([], .null)), (420, .lload 9, 2, ([], .null)), (422, .l2i, 1, ([], .null)), 
  (423, .iadd, 1, ([], .null)), (424, .ireturn, 1, ([], .null))
]
def mi_M_writesStructs : pm_I := ((kc_M_writesStructs, []), 13, ⟨"SegmentDeskModel", "writesStructs", "(II)I"⟩, prog_13_method_69_code, (some .int), 2)
def kc_M_writesList : List (Nat × Instr × Nat × pm_L) := [
  (0, .aload_n 0, 1, ([], .null)), (1, .getfield 42, 3, ([9, 14], .null)), (4, .bipush 16, 2, ([], .null)), (6, .iaload, 1, ([], .null)), (7, .istore_n 3, 1, ([], .null)), 
  (8, .aload_n 0, 1, ([], .null)), (9, .getfield 45, 3, ([9, 15], .null)), (12, .bipush 16, 2, ([], .null)), (14, .iaload, 1, ([], .null)), (15, .bipush 64, 2, ([], .null)), 
  (17, .idiv, 1, ([], .null)), (18, .istore 4, 2, ([], .null)), (20, .aload_n 0, 1, ([], .null)), (21, .getfield 57, 3, ([9, 19], .null)), (24, .bipush 16, 2, ([], .null)), 
  (26, .iaload, 1, ([], .null)), (27, .istore 5, 2, ([], .null)), (29, .aload_n 0, 1, ([], .null)), (30, .getfield 54, 3, ([9, 18], .null)), (33, .bipush 16, 2, ([], .null)), 
  (35, .iaload, 1, ([], .null)), (36, .istore 6, 2, ([], .null)), (38, .iload 5, 2, ([], .null)), (40, .iload 6, 2, ([], .null)), (42, .i2l, 1, ([], .null)), 
  (43, .invokestatic 151, 3, ([189, 2, 0, 0], .null)), (46, .lstore 7, 2, ([], .null)), (48, .aload_n 0, 1, ([], .null)), (49, .getfield 13, 3, ([9, 1], .null)), 
  (52, .iload_n 1, 1, ([], .null)), (53, .lconst 1, 1, ([], .null)), (54, .iload 5, 2, ([], .null)), (56, .i2l, 1, ([], .null)), (57, .bipush 32, 2, ([], .null)), 
  (59, .lshl, 1, ([], .null)), (60, .lor, 1, ([], .null)), (61, .iload 6, 2, ([], .null)), (63, .i2l, 1, ([], .null)), (64, .bipush 35, 2, ([], .null)), 
  (66, .lshl, 1, ([], .null)), (67, .lor, 1, ([], .null)), (68, .iload_n 2, 1, ([], .null)), (69, .iload_n 1, 1, ([], .null)), (70, .isub, 1, ([], .null)), 
  (71, .iconst 1, 1, ([], .null)), (72, .isub, 1, ([], .null)), (73, .invokestatic 210, 3, ([210, 2, 0, 0], .null)), (76, .lastore, 1, ([], .null)), 
  (77, .aload_n 0, 1, ([], .null)), (78, .iload_n 2, 1, ([], .null)), (79, .i2l, 1, ([], .null)), (80, .lload 7, 2, ([], .null)), (82, .ladd, 1, ([], .null)), 
  (83, .ldc2_w 91, 3, ([], .long 64)), (86, .lcmp, 1, ([], .null)), (87, .ifCond .le 7, 3, ([94], .null)), (90, .iconst 1, 1, ([], .null)), (91, .goto 4, 3, ([95], .null)), 
  (94, .iconst 0, 1, ([], .null)), (95, .iconst 2, 1, ([], .null)), (96, .invokevirtual 93, 3, ([172, 3, 0, 10], .null)), (99, .ifCond .eq 5, 3, ([104], .null)), 
  (102, .iload_n 2, 1, ([], .null)), (103, .ireturn, 1, ([], .null)), (104, .lload 7, 2, ([], .null)), (106, .l2i, 1, ([], .null)), (107, .istore 9, 2, ([], .null)), 
  (109, .iload 6, 2, ([], .null)), (111, .iload 5, 2, ([], .null)), (113, .invokestatic 120, 3, ([190, 1, 0, 0], .null)), (116, .imul, 1, ([], .null)), 
  (117, .bipush 64, 2, ([], .null)), (119, .irem, 1, ([], .null)), (120, .istore 10, 2, ([], .null)), (122, .iload 5, 2, ([], .null)), (124, .bipush 6, 2, ([], .null)), 
  (126, .if_icmp .ne 44, 3, ([170], .null)), (129, .iload 9, 2, ([], .null)), (131, .iconst 1, 1, ([], .null)), (132, .isub, 1, ([], .null)), (133, .istore 11, 2, ([], .null)), 
  (135, .iload 11, 2, ([], .null)), (137, .ifCond .lt 30, 3, ([167], .null)), (140, .aload_n 0, 1, ([], .null)), (141, .iload_n 3, 1, ([], .null)), 
  (142, .iload 4, 2, ([], .null)), (144, .iload 11, 2, ([], .null)), (146, .iadd, 1, ([], .null)), (147, .iload_n 2, 1, ([], .null)), (148, .iload 11, 2, ([], .null)), 
  (150, .iadd, 1, ([], .null)), (151, .aload_n 0, 1, ([], .null)), (152, .getfield 39, 3, ([9, 13], .null)), (155, .bipush 16, 2, ([], .null)), (157, .iaload, 1, ([], .null)), 
  (158, .invokevirtual 274, 3, ([232, 5, 0, 10], .null)), (161, .iinc 11 (-1), 3, ([], .null)), (164, .goto (-29), 3, ([135], .null)), (167, .goto 80, 3, ([247], .null)), 
  (170, .iconst 0, 1, ([], .null)), (171, .istore 11, 2, ([], .null)), (173, .iload 11, 2, ([], .null)), (175, .iload 9, 2, ([], .null)), 
  (177, .if_icmp .ge 70, 3, ([247], .null)), (180, .aload_n 0, 1, ([], .null)), (181, .getfield 13, 3, ([9, 1], .null)), (184, .iload_n 2, 1, ([], .null)), 
  (185, .iload 11, 2, ([], .null)), (187, .iadd, 1, ([], .null)), (188, .iload 11, 2, ([], .null)), (190, .iload 9, 2, ([], .null)), (192, .iconst 1, 1, ([], .null)), 
  (193, .isub, 1, ([], .null)), (194, .if_icmp .ne 31, 3, ([225], .null)), (197, .iload 10, 2, ([], .null)), (199, .ifCond .le 26, 3, ([225], .null)), 
  (202, .aload_n 0, 1, ([], .null)), (203, .getfield 7, 3, ([9, 0], .null)), (206, .bipush 64, 2, ([], .null)), (208, .iload_n 3, 1, ([], .null)), (209, .imul, 1, ([], .null)), 
  (210, .iload 4, 2, ([], .null)), (212, .iadd, 1, ([], .null)), (213, .iload 11, 2, ([], .null)), (215, .iadd, 1, ([], .null)), (216, .laload, 1, ([], .null)), 
  (217, .iload 10, 2, ([], .null)), (219, .invokestatic 172, 3, ([200, 2, 0, 0], .null)), (222, .goto 18, 3, ([240], .null)), (225, .aload_n 0, 1, ([], .null)), 
  (226, .getfield 7, 3, ([9, 0], .null)), (229, .bipush 64, 2, ([], .null)), (231, .iload_n 3, 1, ([], .null)), (232, .imul, 1, ([], .null)), (233, .iload 4, 2, ([], .null)), 
  (235, .iadd, 1, ([], .null)), (236, .iload 11, 2, ([], .null)), (238, .iadd, 1, ([], .null)), (239, .laload, 1, ([], .null)), (240, .lastore, 1, ([], .null)), 
  (241, .iinc 11 1, 3, ([], .null)), (244, .goto (-71), 3, ([173], .null)), (247, .iload_n 2, 1, ([], .null)), (248, .iload 9, 2, ([], .null)), (250, .iadd, 1, ([], .null)), 
  (251, .ireturn, 1, ([], .null))
]
def mi_M_writesList : pm_I := ((kc_M_writesList, []), 12, ⟨"SegmentDeskModel", "writesList", "(II)I"⟩, prog_13_method_68_code, (some .int), 2)
def kc_M_count : List (Nat × Instr × Nat × pm_L) := [
  (0, .aload_n 0, 1, ([], .null)), (1, .iconst 0, 1, ([], .null)), (2, .putfield 78, 3, ([9, 10, 0], .null)), (5, .aload_n 0, 1, ([], .null)), (6, .iload_n 1, 1, ([], .null)), 
  (7, .i2l, 1, ([], .null)), (8, .lconst 0, 1, ([], .null)), (9, .ldc2_w 235, 3, ([], .long 8)), (12, .invokestatic 87, 3, ([171, 3, 0, 0], .null)), 
  (15, .ifCond .ne 7, 3, ([22], .null)), (18, .iconst 1, 1, ([], .null)), (19, .goto 4, 3, ([23], .null)), (22, .iconst 0, 1, ([], .null)), (23, .iconst 1, 1, ([], .null)), 
  (24, .invokevirtual 93, 3, ([172, 3, 0, 10], .null)), (27, .ifCond .eq 5, 3, ([32], .null)), (30, .iconst 0, 1, ([], .null)), (31, .ireturn, 1, ([], .null)), 
  (32, .iload_n 1, 1, ([], .null)), (33, .tableswitch 95 0 8 #[51, 56, 61, 66, 95, 95, 95, 95, 79], 51, ([128, 84, 89, 94, 99, 128, 128, 128, 128, 112], .null)), 
  (84, .aload_n 0, 1, ([], .null)), (85, .getfield 29, 3, ([9, 6], .null)), (88, .ireturn, 1, ([], .null)), (89, .aload_n 0, 1, ([], .null)), 
  (90, .getfield 256, 3, ([9, 7], .null)), (93, .ireturn, 1, ([], .null)), (94, .aload_n 0, 1, ([], .null)), (95, .getfield 33, 3, ([9, 8], .null)), 
  (98, .ireturn, 1, ([], .null)), (99, .aload_n 0, 1, ([], .null)), (100, .getfield 101, 3, ([9, 11], .null)), (103, .ifCond .eq 7, 3, ([110], .null)), 
  (106, .iconst 1, 1, ([], .null)), (107, .goto 4, 3, ([111], .null)), (110, .iconst 0, 1, ([], .null)), (111, .ireturn, 1, ([], .null)), (112, .aload_n 0, 1, ([], .null)), 
  (113, .getfield 101, 3, ([9, 11], .null)), (116, .ifCond .eq 10, 3, ([126], .null)), (119, .aload_n 0, 1, ([], .null)), (120, .getfield 205, 3, ([9, 9], .null)), 
  (123, .goto 4, 3, ([127], .null)), (126, .iconst 0, 1, ([], .null)), (127, .ireturn, 1, ([], .null)), (128, .iload_n 1, 1, ([], .null)), (129, .iconst 4, 1, ([], .null)), 
  (130, .isub, 1, ([], .null)), (131, .aload_n 0, 1, ([], .null)), (132, .getfield 29, 3, ([9, 6], .null)), (135, .if_icmp .ge 14, 3, ([149], .null)), 
  (138, .aload_n 0, 1, ([], .null)), (139, .getfield 19, 3, ([9, 3], .null)), (142, .iload_n 1, 1, ([], .null)), (143, .iconst 4, 1, ([], .null)), (144, .isub, 1, ([], .null)), 
  (145, .iaload, 1, ([], .null)), (146, .goto 4, 3, ([150], .null)), (149, .iconst 0, 1, ([], .null)), (150, .ireturn, 1, ([], .null))
]
def mi_M_count : pm_I := ((kc_M_count, []), 2, ⟨"SegmentDeskModel", "count", "(I)I"⟩, prog_13_method_70_code, (some .int), 1)
def kc_L_law : List (Nat × Instr × Nat × pm_L) := [
  (0, .new 8, 3, ([0], .null)), (3, .dup, 1, ([], .null)), (4, .invokespecial 100, 3, ([0, 1, 1, 1], .null)), (7, .astore_n 1, 1, ([], .null)), (8, .new 101, 3, ([9], .null)), 
  (11, .dup, 1, ([], .null)), (12, .invokespecial 103, 3, ([168, 1, 1, 10], .null)), (15, .astore_n 2, 1, ([], .null)), (16, .iconst 1, 1, ([], .null)), 
  (17, .newarray .long, 2, ([1], .null)), (19, .astore_n 3, 1, ([], .null)), (20, .iconst 1, 1, ([], .null)), (21, .newarray .double, 2, ([4], .null)), 
  (23, .astore 4, 2, ([], .null)), (25, .iconst 0, 1, ([], .null)), (26, .istore 5, 2, ([], .null)), (28, .iload 5, 2, ([], .null)), (30, .aload_n 0, 1, ([], .null)), 
  (31, .arraylength, 1, ([], .null)), (32, .bipush 8, 2, ([], .null)), (34, .isub, 1, ([], .null)), (35, .if_icmp .gt 1875, 3, ([1910], .null)), (38, .aload_n 0, 1, ([], .null)), 
  (39, .iload 5, 2, ([], .null)), (41, .iaload, 1, ([], .null)), (42, .bipush 31, 2, ([], .null)), (44, .iand, 1, ([], .null)), 
  (45, .tableswitch 1859 0 22 #[107, 191, 302, 369, 425, 493, 573, 653, 776, 893, 960, 1028, 1064, 1168, 1300, 1404, 1502, 1546, 1602, 1702, 1715, 1759, 1803], 107, ([1904, 152, 236, 347, 414, 470, 538, 618, 698, 821, 938, 1005, 1073, 1109, 1213, 1345, 1449, 1547, 1591, 1647, 1747, 1760, 1804, 1848], .null)), 
  (152, .aload_n 1, 1, ([], .null)), (153, .aload_n 0, 1, ([], .null)), (154, .iload 5, 2, ([], .null)), (156, .iconst 1, 1, ([], .null)), (157, .iadd, 1, ([], .null)), 
  (158, .iaload, 1, ([], .null)), (159, .aload_n 0, 1, ([], .null)), (160, .iload 5, 2, ([], .null)), (162, .iconst 2, 1, ([], .null)), (163, .iadd, 1, ([], .null)), 
  (164, .iaload, 1, ([], .null)), (165, .aload_n 0, 1, ([], .null)), (166, .iload 5, 2, ([], .null)), (168, .iconst 3, 1, ([], .null)), (169, .iadd, 1, ([], .null)), 
  (170, .iaload, 1, ([], .null)), (171, .aload_n 0, 1, ([], .null)), (172, .iload 5, 2, ([], .null)), (174, .iconst 4, 1, ([], .null)), (175, .iadd, 1, ([], .null)), 
  (176, .iaload, 1, ([], .null)), (177, .aload_n 0, 1, ([], .null)), (178, .iload 5, 2, ([], .null)), (180, .iconst 5, 1, ([], .null)), (181, .iadd, 1, ([], .null)), 
  (182, .iaload, 1, ([], .null)), (183, .invokestatic 104, 3, ([10, 6, 0, 0], .null)), (186, .istore 6, 2, ([], .null)), (188, .aload_n 2, 1, ([], .null)), 
  (189, .aload_n 0, 1, ([], .null)), (190, .iload 5, 2, ([], .null)), (192, .iconst 1, 1, ([], .null)), (193, .iadd, 1, ([], .null)), (194, .iaload, 1, ([], .null)), 
  (195, .aload_n 0, 1, ([], .null)), (196, .iload 5, 2, ([], .null)), (198, .iconst 2, 1, ([], .null)), (199, .iadd, 1, ([], .null)), (200, .iaload, 1, ([], .null)), 
  (201, .aload_n 0, 1, ([], .null)), (202, .iload 5, 2, ([], .null)), (204, .iconst 3, 1, ([], .null)), (205, .iadd, 1, ([], .null)), (206, .iaload, 1, ([], .null)), 
  (207, .aload_n 0, 1, ([], .null)), (208, .iload 5, 2, ([], .null)), (210, .iconst 4, 1, ([], .null)), (211, .iadd, 1, ([], .null)), (212, .iaload, 1, ([], .null)), 
  (213, .aload_n 0, 1, ([], .null)), (214, .iload 5, 2, ([], .null)), (216, .iconst 5, 1, ([], .null)), (217, .iadd, 1, ([], .null)), (218, .iaload, 1, ([], .null)), 
  (219, .invokevirtual 109, 3, ([170, 6, 0, 10], .null)), (222, .aload_n 2, 1, ([], .null)), (223, .invokevirtual 110, 3, ([169, 1, 0, 10], .null)), 
  (226, .iload 6, 2, ([], .null)), (228, .if_icmp .eq 5, 3, ([233], .null)), (231, .iconst 0, 1, ([], .null)), (232, .ireturn, 1, ([1], .null)), 
  (233, .goto 1671, 3, ([1904], .null)), (236, .aload_n 1, 1, ([], .null)), (237, .aload_n 0, 1, ([], .null)), (238, .iload 5, 2, ([], .null)), (240, .iconst 1, 1, ([], .null)), 
  (241, .iadd, 1, ([], .null)), (242, .iaload, 1, ([], .null)), (243, .aload_n 0, 1, ([], .null)), (244, .iload 5, 2, ([], .null)), (246, .iconst 2, 1, ([], .null)), 
  (247, .iadd, 1, ([], .null)), (248, .iaload, 1, ([], .null)), (249, .aload_n 0, 1, ([], .null)), (250, .iload 5, 2, ([], .null)), (252, .iconst 3, 1, ([], .null)), 
  (253, .iadd, 1, ([], .null)), (254, .iaload, 1, ([], .null)), (255, .i2l, 1, ([], .null)), (256, .bipush 32, 2, ([], .null)), (258, .lshl, 1, ([], .null)), 
  (259, .aload_n 0, 1, ([], .null)), (260, .iload 5, 2, ([], .null)), (262, .iconst 4, 1, ([], .null)), (263, .iadd, 1, ([], .null)), (264, .iaload, 1, ([], .null)), 
  (265, .i2l, 1, ([], .null)), (266, .ldc2_w 113, 3, ([], .long 4294967295)), (269, .land, 1, ([], .null)), (270, .lor, 1, ([], .null)), (271, .aload_n 3, 1, ([], .null)), 
  (272, .invokestatic 115, 3, ([19, 5, 0, 0], .null)), (275, .istore 6, 2, ([], .null)), (277, .aload_n 2, 1, ([], .null)), (278, .aload_n 0, 1, ([], .null)), 
  (279, .iload 5, 2, ([], .null)), (281, .iconst 1, 1, ([], .null)), (282, .iadd, 1, ([], .null)), (283, .iaload, 1, ([], .null)), (284, .aload_n 0, 1, ([], .null)), 
  (285, .iload 5, 2, ([], .null)), (287, .iconst 2, 1, ([], .null)), (288, .iadd, 1, ([], .null)), (289, .iaload, 1, ([], .null)), (290, .aload_n 0, 1, ([], .null)), 
  (291, .iload 5, 2, ([], .null)), (293, .iconst 3, 1, ([], .null)), (294, .iadd, 1, ([], .null)), (295, .iaload, 1, ([], .null)), (296, .i2l, 1, ([], .null)), 
  (297, .bipush 32, 2, ([], .null)), (299, .lshl, 1, ([], .null)), (300, .aload_n 0, 1, ([], .null)), (301, .iload 5, 2, ([], .null)), (303, .iconst 4, 1, ([], .null)), 
  (304, .iadd, 1, ([], .null)), (305, .iaload, 1, ([], .null)), (306, .i2l, 1, ([], .null)), (307, .ldc2_w 113, 3, ([], .long 4294967295)), (310, .land, 1, ([], .null)), 
  (311, .lor, 1, ([], .null)), (312, .invokevirtual 118, 3, ([176, 4, 0, 10], .null)), (315, .lstore 7, 2, ([], .null)), (317, .aload_n 2, 1, ([], .null)), 
  (318, .invokevirtual 110, 3, ([169, 1, 0, 10], .null)), (321, .iload 6, 2, ([], .null)), (323, .if_icmp .eq 5, 3, ([328], .null)), (326, .iconst 0, 1, ([], .null)), 
  (327, .ireturn, 1, ([1], .null)), (328, .iload 6, 2, ([], .null)), (330, .ifCond .ne 14, 3, ([344], .null)), (333, .aload_n 3, 1, ([], .null)), (334, .iconst 0, 1, ([], .null)), 
  (335, .laload, 1, ([], .null)), (336, .lload 7, 2, ([], .null)), (338, .lcmp, 1, ([], .null)), (339, .ifCond .eq 5, 3, ([344], .null)), (342, .iconst 0, 1, ([], .null)), 
  (343, .ireturn, 1, ([1], .null)), (344, .goto 1560, 3, ([1904], .null)), (347, .aload_n 1, 1, ([], .null)), (348, .aload_n 0, 1, ([], .null)), (349, .iload 5, 2, ([], .null)), 
  (351, .iconst 1, 1, ([], .null)), (352, .iadd, 1, ([], .null)), (353, .iaload, 1, ([], .null)), (354, .aload_n 0, 1, ([], .null)), (355, .iload 5, 2, ([], .null)), 
  (357, .iconst 2, 1, ([], .null)), (358, .iadd, 1, ([], .null)), (359, .iaload, 1, ([], .null)), (360, .aload_n 3, 1, ([], .null)), 
  (361, .invokestatic 119, 3, ([22, 4, 0, 0], .null)), (364, .istore 6, 2, ([], .null)), (366, .aload_n 2, 1, ([], .null)), (367, .aload_n 0, 1, ([], .null)), 
  (368, .iload 5, 2, ([], .null)), (370, .iconst 1, 1, ([], .null)), (371, .iadd, 1, ([], .null)), (372, .iaload, 1, ([], .null)), (373, .aload_n 0, 1, ([], .null)), 
  (374, .iload 5, 2, ([], .null)), (376, .iconst 2, 1, ([], .null)), (377, .iadd, 1, ([], .null)), (378, .iaload, 1, ([], .null)), 
  (379, .invokevirtual 122, 3, ([178, 3, 0, 10], .null)), (382, .lstore 7, 2, ([], .null)), (384, .aload_n 2, 1, ([], .null)), 
  (385, .invokevirtual 110, 3, ([169, 1, 0, 10], .null)), (388, .iload 6, 2, ([], .null)), (390, .if_icmp .eq 5, 3, ([395], .null)), (393, .iconst 0, 1, ([], .null)), 
  (394, .ireturn, 1, ([1], .null)), (395, .iload 6, 2, ([], .null)), (397, .ifCond .ne 14, 3, ([411], .null)), (400, .aload_n 3, 1, ([], .null)), (401, .iconst 0, 1, ([], .null)), 
  (402, .laload, 1, ([], .null)), (403, .lload 7, 2, ([], .null)), (405, .lcmp, 1, ([], .null)), (406, .ifCond .eq 5, 3, ([411], .null)), (409, .iconst 0, 1, ([], .null)), 
  (410, .ireturn, 1, ([1], .null)), (411, .goto 1493, 3, ([1904], .null)), (414, .aload_n 1, 1, ([], .null)), (415, .aload_n 0, 1, ([], .null)), (416, .iload 5, 2, ([], .null)), 
  (418, .iconst 1, 1, ([], .null)), (419, .iadd, 1, ([], .null)), (420, .iaload, 1, ([], .null)), (421, .aload_n 3, 1, ([], .null)), 
  (422, .invokestatic 123, 3, ([24, 3, 0, 0], .null)), (425, .istore 6, 2, ([], .null)), (427, .aload_n 2, 1, ([], .null)), (428, .aload_n 0, 1, ([], .null)), 
  (429, .iload 5, 2, ([], .null)), (431, .iconst 1, 1, ([], .null)), (432, .iadd, 1, ([], .null)), (433, .iaload, 1, ([], .null)), 
  (434, .invokevirtual 126, 3, ([179, 2, 0, 10], .null)), (437, .istore 7, 2, ([], .null)), (439, .aload_n 2, 1, ([], .null)), 
  (440, .invokevirtual 110, 3, ([169, 1, 0, 10], .null)), (443, .iload 6, 2, ([], .null)), (445, .if_icmp .eq 5, 3, ([450], .null)), (448, .iconst 0, 1, ([], .null)), 
  (449, .ireturn, 1, ([1], .null)), (450, .iload 6, 2, ([], .null)), (452, .ifCond .ne 15, 3, ([467], .null)), (455, .aload_n 3, 1, ([], .null)), (456, .iconst 0, 1, ([], .null)), 
  (457, .laload, 1, ([], .null)), (458, .iload 7, 2, ([], .null)), (460, .i2l, 1, ([], .null)), (461, .lcmp, 1, ([], .null)), (462, .ifCond .eq 5, 3, ([467], .null)), 
  (465, .iconst 0, 1, ([], .null)), (466, .ireturn, 1, ([1], .null)), (467, .goto 1437, 3, ([1904], .null)), (470, .aload_n 1, 1, ([], .null)), (471, .aload_n 0, 1, ([], .null)), 
  (472, .iload 5, 2, ([], .null)), (474, .iconst 1, 1, ([], .null)), (475, .iadd, 1, ([], .null)), (476, .iaload, 1, ([], .null)), (477, .aload_n 0, 1, ([], .null)), 
  (478, .iload 5, 2, ([], .null)), (480, .iconst 2, 1, ([], .null)), (481, .iadd, 1, ([], .null)), (482, .iaload, 1, ([], .null)), (483, .aload_n 3, 1, ([], .null)), 
  (484, .invokestatic 127, 3, ([26, 4, 0, 0], .null)), (487, .istore 6, 2, ([], .null)), (489, .aload_n 2, 1, ([], .null)), (490, .aload_n 0, 1, ([], .null)), 
  (491, .iload 5, 2, ([], .null)), (493, .iconst 1, 1, ([], .null)), (494, .iadd, 1, ([], .null)), (495, .iaload, 1, ([], .null)), (496, .aload_n 0, 1, ([], .null)), 
  (497, .iload 5, 2, ([], .null)), (499, .iconst 2, 1, ([], .null)), (500, .iadd, 1, ([], .null)), (501, .iaload, 1, ([], .null)), 
  (502, .invokevirtual 129, 3, ([180, 3, 0, 10], .null)), (505, .istore 7, 2, ([], .null)), (507, .aload_n 2, 1, ([], .null)), 
  (508, .invokevirtual 110, 3, ([169, 1, 0, 10], .null)), (511, .iload 6, 2, ([], .null)), (513, .if_icmp .eq 5, 3, ([518], .null)), (516, .iconst 0, 1, ([], .null)), 
  (517, .ireturn, 1, ([1], .null)), (518, .iload 6, 2, ([], .null)), (520, .ifCond .ne 15, 3, ([535], .null)), (523, .aload_n 3, 1, ([], .null)), (524, .iconst 0, 1, ([], .null)), 
  (525, .laload, 1, ([], .null)), (526, .iload 7, 2, ([], .null)), (528, .i2l, 1, ([], .null)), (529, .lcmp, 1, ([], .null)), (530, .ifCond .eq 5, 3, ([535], .null)), 
  (533, .iconst 0, 1, ([], .null)), (534, .ireturn, 1, ([1], .null)), (535, .goto 1369, 3, ([1904], .null)), (538, .aload_n 1, 1, ([], .null)), (539, .aload_n 0, 1, ([], .null)), 
  (540, .iload 5, 2, ([], .null)), (542, .iconst 1, 1, ([], .null)), (543, .iadd, 1, ([], .null)), (544, .iaload, 1, ([], .null)), (545, .aload_n 0, 1, ([], .null)), 
  (546, .iload 5, 2, ([], .null)), (548, .iconst 2, 1, ([], .null)), (549, .iadd, 1, ([], .null)), (550, .iaload, 1, ([], .null)), (551, .aload_n 0, 1, ([], .null)), 
  (552, .iload 5, 2, ([], .null)), (554, .iconst 3, 1, ([], .null)), (555, .iadd, 1, ([], .null)), (556, .iaload, 1, ([], .null)), (557, .aload_n 3, 1, ([], .null)), 
  (558, .invokestatic 130, 3, ([53, 5, 0, 0], .null)), (561, .istore 6, 2, ([], .null)), (563, .aload_n 2, 1, ([], .null)), (564, .aload_n 0, 1, ([], .null)), 
  (565, .iload 5, 2, ([], .null)), (567, .iconst 1, 1, ([], .null)), (568, .iadd, 1, ([], .null)), (569, .iaload, 1, ([], .null)), (570, .aload_n 0, 1, ([], .null)), 
  (571, .iload 5, 2, ([], .null)), (573, .iconst 2, 1, ([], .null)), (574, .iadd, 1, ([], .null)), (575, .iaload, 1, ([], .null)), (576, .aload_n 0, 1, ([], .null)), 
  (577, .iload 5, 2, ([], .null)), (579, .iconst 3, 1, ([], .null)), (580, .iadd, 1, ([], .null)), (581, .iaload, 1, ([], .null)), 
  (582, .invokevirtual 133, 3, ([192, 4, 0, 10], .null)), (585, .istore 7, 2, ([], .null)), (587, .aload_n 2, 1, ([], .null)), 
  (588, .invokevirtual 110, 3, ([169, 1, 0, 10], .null)), (591, .iload 6, 2, ([], .null)), (593, .if_icmp .eq 5, 3, ([598], .null)), (596, .iconst 0, 1, ([], .null)), 
  (597, .ireturn, 1, ([1], .null)), (598, .iload 6, 2, ([], .null)), (600, .ifCond .ne 15, 3, ([615], .null)), (603, .aload_n 3, 1, ([], .null)), (604, .iconst 0, 1, ([], .null)), 
  (605, .laload, 1, ([], .null)), (606, .iload 7, 2, ([], .null)), (608, .i2l, 1, ([], .null)), (609, .lcmp, 1, ([], .null)), (610, .ifCond .eq 5, 3, ([615], .null)), 
  (613, .iconst 0, 1, ([], .null)), (614, .ireturn, 1, ([1], .null)), (615, .goto 1289, 3, ([1904], .null)), (618, .aload_n 1, 1, ([], .null)), (619, .aload_n 0, 1, ([], .null)), 
  (620, .iload 5, 2, ([], .null)), (622, .iconst 1, 1, ([], .null)), (623, .iadd, 1, ([], .null)), (624, .iaload, 1, ([], .null)), (625, .aload_n 0, 1, ([], .null)), 
  (626, .iload 5, 2, ([], .null)), (628, .iconst 2, 1, ([], .null)), (629, .iadd, 1, ([], .null)), (630, .iaload, 1, ([], .null)), (631, .aload_n 0, 1, ([], .null)), 
  (632, .iload 5, 2, ([], .null)), (634, .iconst 3, 1, ([], .null)), (635, .iadd, 1, ([], .null)), (636, .iaload, 1, ([], .null)), (637, .aload_n 3, 1, ([], .null)), 
  (638, .invokestatic 134, 3, ([60, 5, 0, 0], .null)), (641, .istore 6, 2, ([], .null)), (643, .aload_n 2, 1, ([], .null)), (644, .aload_n 0, 1, ([], .null)), 
  (645, .iload 5, 2, ([], .null)), (647, .iconst 1, 1, ([], .null)), (648, .iadd, 1, ([], .null)), (649, .iaload, 1, ([], .null)), (650, .aload_n 0, 1, ([], .null)), 
  (651, .iload 5, 2, ([], .null)), (653, .iconst 2, 1, ([], .null)), (654, .iadd, 1, ([], .null)), (655, .iaload, 1, ([], .null)), (656, .aload_n 0, 1, ([], .null)), 
  (657, .iload 5, 2, ([], .null)), (659, .iconst 3, 1, ([], .null)), (660, .iadd, 1, ([], .null)), (661, .iaload, 1, ([], .null)), 
  (662, .invokevirtual 136, 3, ([194, 4, 0, 10], .null)), (665, .istore 7, 2, ([], .null)), (667, .aload_n 2, 1, ([], .null)), 
  (668, .invokevirtual 110, 3, ([169, 1, 0, 10], .null)), (671, .iload 6, 2, ([], .null)), (673, .if_icmp .eq 5, 3, ([678], .null)), (676, .iconst 0, 1, ([], .null)), 
  (677, .ireturn, 1, ([1], .null)), (678, .iload 6, 2, ([], .null)), (680, .ifCond .ne 15, 3, ([695], .null)), (683, .aload_n 3, 1, ([], .null)), (684, .iconst 0, 1, ([], .null)), 
  (685, .laload, 1, ([], .null)), (686, .iload 7, 2, ([], .null)), (688, .i2l, 1, ([], .null)), (689, .lcmp, 1, ([], .null)), (690, .ifCond .eq 5, 3, ([695], .null)), 
  (693, .iconst 0, 1, ([], .null)), (694, .ireturn, 1, ([1], .null)), (695, .goto 1209, 3, ([1904], .null)), (698, .aload_n 1, 1, ([], .null)), (699, .aload_n 0, 1, ([], .null)), 
  (700, .iload 5, 2, ([], .null)), (702, .iconst 1, 1, ([], .null)), (703, .iadd, 1, ([], .null)), (704, .iaload, 1, ([], .null)), (705, .aload_n 0, 1, ([], .null)), 
  (706, .iload 5, 2, ([], .null)), (708, .iconst 2, 1, ([], .null)), (709, .iadd, 1, ([], .null)), (710, .iaload, 1, ([], .null)), (711, .aload_n 0, 1, ([], .null)), 
  (712, .iload 5, 2, ([], .null)), (714, .iconst 3, 1, ([], .null)), (715, .iadd, 1, ([], .null)), (716, .iaload, 1, ([], .null)), (717, .aload_n 0, 1, ([], .null)), 
  (718, .iload 5, 2, ([], .null)), (720, .iconst 4, 1, ([], .null)), (721, .iadd, 1, ([], .null)), (722, .iaload, 1, ([], .null)), (723, .i2l, 1, ([], .null)), 
  (724, .bipush 32, 2, ([], .null)), (726, .lshl, 1, ([], .null)), (727, .aload_n 0, 1, ([], .null)), (728, .iload 5, 2, ([], .null)), (730, .iconst 5, 1, ([], .null)), 
  (731, .iadd, 1, ([], .null)), (732, .iaload, 1, ([], .null)), (733, .i2l, 1, ([], .null)), (734, .ldc2_w 113, 3, ([], .long 4294967295)), (737, .land, 1, ([], .null)), 
  (738, .lor, 1, ([], .null)), (739, .aload_n 3, 1, ([], .null)), (740, .invokestatic 137, 3, ([64, 6, 0, 0], .null)), (743, .istore 6, 2, ([], .null)), 
  (745, .aload_n 2, 1, ([], .null)), (746, .aload_n 0, 1, ([], .null)), (747, .iload 5, 2, ([], .null)), (749, .iconst 1, 1, ([], .null)), (750, .iadd, 1, ([], .null)), 
  (751, .iaload, 1, ([], .null)), (752, .aload_n 0, 1, ([], .null)), (753, .iload 5, 2, ([], .null)), (755, .iconst 2, 1, ([], .null)), (756, .iadd, 1, ([], .null)), 
  (757, .iaload, 1, ([], .null)), (758, .aload_n 0, 1, ([], .null)), (759, .iload 5, 2, ([], .null)), (761, .iconst 3, 1, ([], .null)), (762, .iadd, 1, ([], .null)), 
  (763, .iaload, 1, ([], .null)), (764, .aload_n 0, 1, ([], .null)), (765, .iload 5, 2, ([], .null)), (767, .iconst 4, 1, ([], .null)), (768, .iadd, 1, ([], .null)), 
  (769, .iaload, 1, ([], .null)), (770, .i2l, 1, ([], .null)), (771, .bipush 32, 2, ([], .null)), (773, .lshl, 1, ([], .null)), (774, .aload_n 0, 1, ([], .null)), 
  (775, .iload 5, 2, ([], .null)), (777, .iconst 5, 1, ([], .null)), (778, .iadd, 1, ([], .null)), (779, .iaload, 1, ([], .null)), (780, .i2l, 1, ([], .null)), 
  (781, .ldc2_w 113, 3, ([], .long 4294967295)), (784, .land, 1, ([], .null)), (785, .lor, 1, ([], .null)), (786, .invokevirtual 140, 3, ([195, 5, 0, 10], .null)), 
  (789, .lstore 7, 2, ([], .null)), (791, .aload_n 2, 1, ([], .null)), (792, .invokevirtual 110, 3, ([169, 1, 0, 10], .null)), (795, .iload 6, 2, ([], .null)), 
  (797, .if_icmp .eq 5, 3, ([802], .null)), (800, .iconst 0, 1, ([], .null)), (801, .ireturn, 1, ([1], .null)), (802, .iload 6, 2, ([], .null)), 
  (804, .ifCond .ne 14, 3, ([818], .null)), (807, .aload_n 3, 1, ([], .null)), (808, .iconst 0, 1, ([], .null)), (809, .laload, 1, ([], .null)), (810, .lload 7, 2, ([], .null)), 
  (812, .lcmp, 1, ([], .null)), (813, .ifCond .eq 5, 3, ([818], .null)), (816, .iconst 0, 1, ([], .null)), (817, .ireturn, 1, ([1], .null)), (818, .goto 1086, 3, ([1904], .null)), 
  (821, .aload_n 1, 1, ([], .null)), (822, .aload_n 0, 1, ([], .null)), (823, .iload 5, 2, ([], .null)), (825, .iconst 1, 1, ([], .null)), (826, .iadd, 1, ([], .null)), 
  (827, .iaload, 1, ([], .null)), (828, .aload_n 0, 1, ([], .null)), (829, .iload 5, 2, ([], .null)), (831, .iconst 2, 1, ([], .null)), (832, .iadd, 1, ([], .null)), 
  (833, .iaload, 1, ([], .null)), (834, .ifCond .eq 7, 3, ([841], .null)), (837, .iconst 1, 1, ([], .null)), (838, .goto 4, 3, ([842], .null)), (841, .iconst 0, 1, ([], .null)), 
  (842, .aload_n 0, 1, ([], .null)), (843, .iload 5, 2, ([], .null)), (845, .iconst 3, 1, ([], .null)), (846, .iadd, 1, ([], .null)), (847, .iaload, 1, ([], .null)), 
  (848, .aload 4, 2, ([], .null)), (850, .invokestatic 141, 3, ([73, 5, 0, 0], .null)), (853, .istore 6, 2, ([], .null)), (855, .aload_n 2, 1, ([], .null)), 
  (856, .aload_n 0, 1, ([], .null)), (857, .iload 5, 2, ([], .null)), (859, .iconst 1, 1, ([], .null)), (860, .iadd, 1, ([], .null)), (861, .iaload, 1, ([], .null)), 
  (862, .aload_n 0, 1, ([], .null)), (863, .iload 5, 2, ([], .null)), (865, .iconst 2, 1, ([], .null)), (866, .iadd, 1, ([], .null)), (867, .iaload, 1, ([], .null)), 
  (868, .ifCond .eq 7, 3, ([875], .null)), (871, .iconst 1, 1, ([], .null)), (872, .goto 4, 3, ([876], .null)), (875, .iconst 0, 1, ([], .null)), 
  (876, .aload_n 0, 1, ([], .null)), (877, .iload 5, 2, ([], .null)), (879, .iconst 3, 1, ([], .null)), (880, .iadd, 1, ([], .null)), (881, .iaload, 1, ([], .null)), 
  (882, .invokevirtual 144, 3, ([202, 4, 0, 10], .null)), (885, .dstore 7, 2, ([], .null)), (887, .aload_n 2, 1, ([], .null)), 
  (888, .invokevirtual 110, 3, ([169, 1, 0, 10], .null)), (891, .iload 6, 2, ([], .null)), (893, .if_icmp .eq 5, 3, ([898], .null)), (896, .iconst 0, 1, ([], .null)), 
  (897, .ireturn, 1, ([1], .null)), (898, .iload 6, 2, ([], .null)), (900, .ifCond .ne 35, 3, ([935], .null)), (903, .aload 4, 2, ([], .null)), (905, .iconst 0, 1, ([], .null)), 
  (906, .daload, 1, ([], .null)), (907, .dload 7, 2, ([], .null)), (909, .dcmp .l, 1, ([], .null)), (910, .ifCond .eq 25, 3, ([935], .null)), (913, .aload 4, 2, ([], .null)), 
  (915, .iconst 0, 1, ([], .null)), (916, .daload, 1, ([], .null)), (917, .aload 4, 2, ([], .null)), (919, .iconst 0, 1, ([], .null)), (920, .daload, 1, ([], .null)), 
  (921, .dcmp .l, 1, ([], .null)), (922, .ifCond .eq 11, 3, ([933], .null)), (925, .dload 7, 2, ([], .null)), (927, .dload 7, 2, ([], .null)), (929, .dcmp .l, 1, ([], .null)), 
  (930, .ifCond .ne 5, 3, ([935], .null)), (933, .iconst 0, 1, ([], .null)), (934, .ireturn, 1, ([1], .null)), (935, .goto 969, 3, ([1904], .null)), 
  (938, .aload_n 1, 1, ([], .null)), (939, .aload_n 0, 1, ([], .null)), (940, .iload 5, 2, ([], .null)), (942, .iconst 1, 1, ([], .null)), (943, .iadd, 1, ([], .null)), 
  (944, .iaload, 1, ([], .null)), (945, .aload_n 0, 1, ([], .null)), (946, .iload 5, 2, ([], .null)), (948, .iconst 2, 1, ([], .null)), (949, .iadd, 1, ([], .null)), 
  (950, .iaload, 1, ([], .null)), (951, .aload_n 3, 1, ([], .null)), (952, .invokestatic 145, 3, ([85, 4, 0, 0], .null)), (955, .istore 6, 2, ([], .null)), 
  (957, .aload_n 2, 1, ([], .null)), (958, .aload_n 0, 1, ([], .null)), (959, .iload 5, 2, ([], .null)), (961, .iconst 1, 1, ([], .null)), (962, .iadd, 1, ([], .null)), 
  (963, .iaload, 1, ([], .null)), (964, .aload_n 0, 1, ([], .null)), (965, .iload 5, 2, ([], .null)), (967, .iconst 2, 1, ([], .null)), (968, .iadd, 1, ([], .null)), 
  (969, .iaload, 1, ([], .null)), (970, .invokevirtual 147, 3, ([204, 3, 0, 10], .null)), (973, .lstore 7, 2, ([], .null)), (975, .aload_n 2, 1, ([], .null)), 
  (976, .invokevirtual 110, 3, ([169, 1, 0, 10], .null)), (979, .iload 6, 2, ([], .null)), (981, .if_icmp .eq 5, 3, ([986], .null)), (984, .iconst 0, 1, ([], .null)), 
  (985, .ireturn, 1, ([1], .null)), (986, .iload 6, 2, ([], .null)), (988, .ifCond .ne 14, 3, ([1002], .null)), (991, .aload_n 3, 1, ([], .null)), 
  (992, .iconst 0, 1, ([], .null)), (993, .laload, 1, ([], .null)), (994, .lload 7, 2, ([], .null)), (996, .lcmp, 1, ([], .null)), (997, .ifCond .eq 5, 3, ([1002], .null)), 
  (1000, .iconst 0, 1, ([], .null)), (1001, .ireturn, 1, ([1], .null)), (1002, .goto 902, 3, ([1904], .null)), (1005, .aload_n 1, 1, ([], .null)), 
  (1006, .aload_n 0, 1, ([], .null)), (1007, .iload 5, 2, ([], .null)), (1009, .iconst 1, 1, ([], .null)), (1010, .iadd, 1, ([], .null)), (1011, .iaload, 1, ([], .null)), 
  (1012, .aload_n 0, 1, ([], .null)), (1013, .iload 5, 2, ([], .null)), (1015, .iconst 2, 1, ([], .null)), (1016, .iadd, 1, ([], .null)), (1017, .iaload, 1, ([], .null)), 
  (1018, .aload_n 3, 1, ([], .null)), (1019, .invokestatic 148, 3, ([87, 4, 0, 0], .null)), (1022, .istore 6, 2, ([], .null)), (1024, .aload_n 2, 1, ([], .null)), 
  (1025, .aload_n 0, 1, ([], .null)), (1026, .iload 5, 2, ([], .null)), (1028, .iconst 1, 1, ([], .null)), (1029, .iadd, 1, ([], .null)), (1030, .iaload, 1, ([], .null)), 
  (1031, .aload_n 0, 1, ([], .null)), (1032, .iload 5, 2, ([], .null)), (1034, .iconst 2, 1, ([], .null)), (1035, .iadd, 1, ([], .null)), (1036, .iaload, 1, ([], .null)), 
  (1037, .invokevirtual 150, 3, ([205, 3, 0, 10], .null)), (1040, .istore 7, 2, ([], .null)), (1042, .aload_n 2, 1, ([], .null)), 
  (1043, .invokevirtual 110, 3, ([169, 1, 0, 10], .null)), (1046, .iload 6, 2, ([], .null)), (1048, .if_icmp .eq 5, 3, ([1053], .null)), (1051, .iconst 0, 1, ([], .null)), 
  (1052, .ireturn, 1, ([1], .null)), (1053, .iload 6, 2, ([], .null)), (1055, .ifCond .ne 15, 3, ([1070], .null)), (1058, .aload_n 3, 1, ([], .null)), 
  (1059, .iconst 0, 1, ([], .null)), (1060, .laload, 1, ([], .null)), (1061, .iload 7, 2, ([], .null)), (1063, .i2l, 1, ([], .null)), (1064, .lcmp, 1, ([], .null)), 
  (1065, .ifCond .eq 5, 3, ([1070], .null)), (1068, .iconst 0, 1, ([], .null)), (1069, .ireturn, 1, ([1], .null)), (1070, .goto 834, 3, ([1904], .null)), 
  (1073, .aload_n 1, 1, ([], .null)), (1074, .aload_n 0, 1, ([], .null)), (1075, .iload 5, 2, ([], .null)), (1077, .iconst 1, 1, ([], .null)), (1078, .iadd, 1, ([], .null)), 
  (1079, .iaload, 1, ([], .null)), (1080, .invokestatic 151, 3, ([89, 2, 0, 0], .null)), (1083, .istore 6, 2, ([], .null)), (1085, .aload_n 2, 1, ([], .null)), 
  (1086, .aload_n 0, 1, ([], .null)), (1087, .iload 5, 2, ([], .null)), (1089, .iconst 1, 1, ([], .null)), (1090, .iadd, 1, ([], .null)), (1091, .iaload, 1, ([], .null)), 
  (1092, .invokevirtual 154, 3, ([206, 2, 0, 10], .null)), (1095, .aload_n 2, 1, ([], .null)), (1096, .invokevirtual 110, 3, ([169, 1, 0, 10], .null)), 
  (1099, .iload 6, 2, ([], .null)), (1101, .if_icmp .eq 5, 3, ([1106], .null)), (1104, .iconst 0, 1, ([], .null)), (1105, .ireturn, 1, ([1], .null)), 
  (1106, .goto 798, 3, ([1904], .null)), (1109, .aload_n 1, 1, ([], .null)), (1110, .aload_n 0, 1, ([], .null)), (1111, .iload 5, 2, ([], .null)), 
  (1113, .iconst 1, 1, ([], .null)), (1114, .iadd, 1, ([], .null)), (1115, .iaload, 1, ([], .null)), (1116, .aload_n 0, 1, ([], .null)), (1117, .iload 5, 2, ([], .null)), 
  (1119, .iconst 2, 1, ([], .null)), (1120, .iadd, 1, ([], .null)), (1121, .iaload, 1, ([], .null)), (1122, .aload_n 0, 1, ([], .null)), (1123, .iload 5, 2, ([], .null)), 
  (1125, .iconst 3, 1, ([], .null)), (1126, .iadd, 1, ([], .null)), (1127, .iaload, 1, ([], .null)), (1128, .aload_n 0, 1, ([], .null)), (1129, .iload 5, 2, ([], .null)), 
  (1131, .iconst 4, 1, ([], .null)), (1132, .iadd, 1, ([], .null)), (1133, .iaload, 1, ([], .null)), (1134, .aload_n 0, 1, ([], .null)), (1135, .iload 5, 2, ([], .null)), 
  (1137, .iconst 5, 1, ([], .null)), (1138, .iadd, 1, ([], .null)), (1139, .iaload, 1, ([], .null)), (1140, .aload_n 3, 1, ([], .null)), 
  (1141, .invokestatic 155, 3, ([91, 7, 0, 0], .null)), (1144, .istore 6, 2, ([], .null)), (1146, .aload_n 2, 1, ([], .null)), (1147, .aload_n 0, 1, ([], .null)), 
  (1148, .iload 5, 2, ([], .null)), (1150, .iconst 1, 1, ([], .null)), (1151, .iadd, 1, ([], .null)), (1152, .iaload, 1, ([], .null)), (1153, .aload_n 0, 1, ([], .null)), 
  (1154, .iload 5, 2, ([], .null)), (1156, .iconst 2, 1, ([], .null)), (1157, .iadd, 1, ([], .null)), (1158, .iaload, 1, ([], .null)), (1159, .aload_n 0, 1, ([], .null)), 
  (1160, .iload 5, 2, ([], .null)), (1162, .iconst 3, 1, ([], .null)), (1163, .iadd, 1, ([], .null)), (1164, .iaload, 1, ([], .null)), (1165, .aload_n 0, 1, ([], .null)), 
  (1166, .iload 5, 2, ([], .null)), (1168, .iconst 4, 1, ([], .null)), (1169, .iadd, 1, ([], .null)), (1170, .iaload, 1, ([], .null)), (1171, .aload_n 0, 1, ([], .null)), 
  (1172, .iload 5, 2, ([], .null)), (1174, .iconst 5, 1, ([], .null)), (1175, .iadd, 1, ([], .null)), (1176, .iaload, 1, ([], .null)), 
  (1177, .invokevirtual 158, 3, ([207, 6, 0, 10], .null)), (1180, .istore 7, 2, ([], .null)), (1182, .aload_n 2, 1, ([], .null)), 
  (1183, .invokevirtual 110, 3, ([169, 1, 0, 10], .null)), (1186, .iload 6, 2, ([], .null)), (1188, .if_icmp .eq 5, 3, ([1193], .null)), (1191, .iconst 0, 1, ([], .null)), 
  (1192, .ireturn, 1, ([1], .null)), (1193, .iload 6, 2, ([], .null)), (1195, .ifCond .ne 15, 3, ([1210], .null)), (1198, .aload_n 3, 1, ([], .null)), 
  (1199, .iconst 0, 1, ([], .null)), (1200, .laload, 1, ([], .null)), (1201, .iload 7, 2, ([], .null)), (1203, .i2l, 1, ([], .null)), (1204, .lcmp, 1, ([], .null)), 
  (1205, .ifCond .eq 5, 3, ([1210], .null)), (1208, .iconst 0, 1, ([], .null)), (1209, .ireturn, 1, ([1], .null)), (1210, .goto 694, 3, ([1904], .null)), 
  (1213, .aload_n 1, 1, ([], .null)), (1214, .aload_n 0, 1, ([], .null)), (1215, .iload 5, 2, ([], .null)), (1217, .iconst 1, 1, ([], .null)), (1218, .iadd, 1, ([], .null)), 
  (1219, .iaload, 1, ([], .null)), (1220, .aload_n 0, 1, ([], .null)), (1221, .iload 5, 2, ([], .null)), (1223, .iconst 2, 1, ([], .null)), (1224, .iadd, 1, ([], .null)), 
  (1225, .iaload, 1, ([], .null)), (1226, .aload_n 0, 1, ([], .null)), (1227, .iload 5, 2, ([], .null)), (1229, .iconst 3, 1, ([], .null)), (1230, .iadd, 1, ([], .null)), 
  (1231, .iaload, 1, ([], .null)), (1232, .aload_n 0, 1, ([], .null)), (1233, .iload 5, 2, ([], .null)), (1235, .iconst 4, 1, ([], .null)), (1236, .iadd, 1, ([], .null)), 
  (1237, .iaload, 1, ([], .null)), (1238, .aload_n 0, 1, ([], .null)), (1239, .iload 5, 2, ([], .null)), (1241, .iconst 5, 1, ([], .null)), (1242, .iadd, 1, ([], .null)), 
  (1243, .iaload, 1, ([], .null)), (1244, .aload_n 0, 1, ([], .null)), (1245, .iload 5, 2, ([], .null)), (1247, .bipush 6, 2, ([], .null)), (1249, .iadd, 1, ([], .null)), 
  (1250, .iaload, 1, ([], .null)), (1251, .aload_n 0, 1, ([], .null)), (1252, .iload 5, 2, ([], .null)), (1254, .bipush 7, 2, ([], .null)), (1256, .iadd, 1, ([], .null)), 
  (1257, .iaload, 1, ([], .null)), (1258, .aload_n 3, 1, ([], .null)), (1259, .invokestatic 159, 3, ([109, 9, 0, 0], .null)), (1262, .istore 6, 2, ([], .null)), 
  (1264, .aload_n 2, 1, ([], .null)), (1265, .aload_n 0, 1, ([], .null)), (1266, .iload 5, 2, ([], .null)), (1268, .iconst 1, 1, ([], .null)), (1269, .iadd, 1, ([], .null)), 
  (1270, .iaload, 1, ([], .null)), (1271, .aload_n 0, 1, ([], .null)), (1272, .iload 5, 2, ([], .null)), (1274, .iconst 2, 1, ([], .null)), (1275, .iadd, 1, ([], .null)), 
  (1276, .iaload, 1, ([], .null)), (1277, .aload_n 0, 1, ([], .null)), (1278, .iload 5, 2, ([], .null)), (1280, .iconst 3, 1, ([], .null)), (1281, .iadd, 1, ([], .null)), 
  (1282, .iaload, 1, ([], .null)), (1283, .aload_n 0, 1, ([], .null)), (1284, .iload 5, 2, ([], .null)), (1286, .iconst 4, 1, ([], .null)), (1287, .iadd, 1, ([], .null)), 
  (1288, .iaload, 1, ([], .null)), (1289, .aload_n 0, 1, ([], .null)), (1290, .iload 5, 2, ([], .null)), (1292, .iconst 5, 1, ([], .null)), (1293, .iadd, 1, ([], .null)), 
  (1294, .iaload, 1, ([], .null)), (1295, .aload_n 0, 1, ([], .null)), (1296, .iload 5, 2, ([], .null)), (1298, .bipush 6, 2, ([], .null)), (1300, .iadd, 1, ([], .null)), 
  (1301, .iaload, 1, ([], .null)), (1302, .aload_n 0, 1, ([], .null)), (1303, .iload 5, 2, ([], .null)), (1305, .bipush 7, 2, ([], .null)), (1307, .iadd, 1, ([], .null)), 
  (1308, .iaload, 1, ([], .null)), (1309, .invokevirtual 162, 3, ([215, 8, 0, 10], .null)), (1312, .istore 7, 2, ([], .null)), (1314, .aload_n 2, 1, ([], .null)), 
  (1315, .invokevirtual 110, 3, ([169, 1, 0, 10], .null)), (1318, .iload 6, 2, ([], .null)), (1320, .if_icmp .eq 5, 3, ([1325], .null)), (1323, .iconst 0, 1, ([], .null)), 
  (1324, .ireturn, 1, ([1], .null)), (1325, .iload 6, 2, ([], .null)), (1327, .ifCond .ne 15, 3, ([1342], .null)), (1330, .aload_n 3, 1, ([], .null)), 
  (1331, .iconst 0, 1, ([], .null)), (1332, .laload, 1, ([], .null)), (1333, .iload 7, 2, ([], .null)), (1335, .i2l, 1, ([], .null)), (1336, .lcmp, 1, ([], .null)), 
  (1337, .ifCond .eq 5, 3, ([1342], .null)), (1340, .iconst 0, 1, ([], .null)), (1341, .ireturn, 1, ([1], .null)), (1342, .goto 562, 3, ([1904], .null)), 
  (1345, .aload_n 1, 1, ([], .null)), (1346, .aload_n 0, 1, ([], .null)), (1347, .iload 5, 2, ([], .null)), (1349, .iconst 1, 1, ([], .null)), (1350, .iadd, 1, ([], .null)), 
  (1351, .iaload, 1, ([], .null)), (1352, .aload_n 0, 1, ([], .null)), (1353, .iload 5, 2, ([], .null)), (1355, .iconst 2, 1, ([], .null)), (1356, .iadd, 1, ([], .null)), 
  (1357, .iaload, 1, ([], .null)), (1358, .aload_n 0, 1, ([], .null)), (1359, .iload 5, 2, ([], .null)), (1361, .iconst 3, 1, ([], .null)), (1362, .iadd, 1, ([], .null)), 
  (1363, .iaload, 1, ([], .null)), (1364, .aload_n 0, 1, ([], .null)), (1365, .iload 5, 2, ([], .null)), (1367, .iconst 4, 1, ([], .null)), (1368, .iadd, 1, ([], .null)), 
  (1369, .iaload, 1, ([], .null)), (1370, .i2l, 1, ([], .null)), (1371, .bipush 32, 2, ([], .null)), (1373, .lshl, 1, ([], .null)), (1374, .aload_n 0, 1, ([], .null)), 
  (1375, .iload 5, 2, ([], .null)), (1377, .iconst 5, 1, ([], .null)), (1378, .iadd, 1, ([], .null)), (1379, .iaload, 1, ([], .null)), (1380, .i2l, 1, ([], .null)), 
  (1381, .ldc2_w 113, 3, ([], .long 4294967295)), (1384, .land, 1, ([], .null)), (1385, .lor, 1, ([], .null)), (1386, .invokestatic 163, 3, ([114, 5, 0, 0], .null)), 
  (1389, .istore 6, 2, ([], .null)), (1391, .aload_n 2, 1, ([], .null)), (1392, .aload_n 0, 1, ([], .null)), (1393, .iload 5, 2, ([], .null)), (1395, .iconst 1, 1, ([], .null)), 
  (1396, .iadd, 1, ([], .null)), (1397, .iaload, 1, ([], .null)), (1398, .aload_n 0, 1, ([], .null)), (1399, .iload 5, 2, ([], .null)), (1401, .iconst 2, 1, ([], .null)), 
  (1402, .iadd, 1, ([], .null)), (1403, .iaload, 1, ([], .null)), (1404, .aload_n 0, 1, ([], .null)), (1405, .iload 5, 2, ([], .null)), (1407, .iconst 3, 1, ([], .null)), 
  (1408, .iadd, 1, ([], .null)), (1409, .iaload, 1, ([], .null)), (1410, .aload_n 0, 1, ([], .null)), (1411, .iload 5, 2, ([], .null)), (1413, .iconst 4, 1, ([], .null)), 
  (1414, .iadd, 1, ([], .null)), (1415, .iaload, 1, ([], .null)), (1416, .i2l, 1, ([], .null)), (1417, .bipush 32, 2, ([], .null)), (1419, .lshl, 1, ([], .null)), 
  (1420, .aload_n 0, 1, ([], .null)), (1421, .iload 5, 2, ([], .null)), (1423, .iconst 5, 1, ([], .null)), (1424, .iadd, 1, ([], .null)), (1425, .iaload, 1, ([], .null)), 
  (1426, .i2l, 1, ([], .null)), (1427, .ldc2_w 113, 3, ([], .long 4294967295)), (1430, .land, 1, ([], .null)), (1431, .lor, 1, ([], .null)), 
  (1432, .invokevirtual 166, 3, ([216, 5, 0, 10], .null)), (1435, .aload_n 2, 1, ([], .null)), (1436, .invokevirtual 110, 3, ([169, 1, 0, 10], .null)), 
  (1439, .iload 6, 2, ([], .null)), (1441, .if_icmp .eq 5, 3, ([1446], .null)), (1444, .iconst 0, 1, ([], .null)), (1445, .ireturn, 1, ([1], .null)), 
  (1446, .goto 458, 3, ([1904], .null)), (1449, .aload_n 1, 1, ([], .null)), (1450, .aload_n 0, 1, ([], .null)), (1451, .iload 5, 2, ([], .null)), 
  (1453, .iconst 1, 1, ([], .null)), (1454, .iadd, 1, ([], .null)), (1455, .iaload, 1, ([], .null)), (1456, .aload_n 0, 1, ([], .null)), (1457, .iload 5, 2, ([], .null)), 
  (1459, .iconst 2, 1, ([], .null)), (1460, .iadd, 1, ([], .null)), (1461, .iaload, 1, ([], .null)), (1462, .ifCond .eq 7, 3, ([1469], .null)), (1465, .iconst 1, 1, ([], .null)), 
  (1466, .goto 4, 3, ([1470], .null)), (1469, .iconst 0, 1, ([], .null)), (1470, .aload_n 0, 1, ([], .null)), (1471, .iload 5, 2, ([], .null)), (1473, .iconst 3, 1, ([], .null)), 
  (1474, .iadd, 1, ([], .null)), (1475, .iaload, 1, ([], .null)), (1476, .aload_n 0, 1, ([], .null)), (1477, .iload 5, 2, ([], .null)), (1479, .iconst 4, 1, ([], .null)), 
  (1480, .iadd, 1, ([], .null)), (1481, .iaload, 1, ([], .null)), (1482, .i2d, 1, ([], .null)), (1483, .ldc2_w 167, 3, ([], .double 4593671619917905920)), 
  (1486, .dmul, 1, ([], .null)), (1487, .invokestatic 169, 3, ([118, 5, 0, 0], .null)), (1490, .istore 6, 2, ([], .null)), (1492, .aload_n 2, 1, ([], .null)), 
  (1493, .aload_n 0, 1, ([], .null)), (1494, .iload 5, 2, ([], .null)), (1496, .iconst 1, 1, ([], .null)), (1497, .iadd, 1, ([], .null)), (1498, .iaload, 1, ([], .null)), 
  (1499, .aload_n 0, 1, ([], .null)), (1500, .iload 5, 2, ([], .null)), (1502, .iconst 2, 1, ([], .null)), (1503, .iadd, 1, ([], .null)), (1504, .iaload, 1, ([], .null)), 
  (1505, .ifCond .eq 7, 3, ([1512], .null)), (1508, .iconst 1, 1, ([], .null)), (1509, .goto 4, 3, ([1513], .null)), (1512, .iconst 0, 1, ([], .null)), 
  (1513, .aload_n 0, 1, ([], .null)), (1514, .iload 5, 2, ([], .null)), (1516, .iconst 3, 1, ([], .null)), (1517, .iadd, 1, ([], .null)), (1518, .iaload, 1, ([], .null)), 
  (1519, .aload_n 0, 1, ([], .null)), (1520, .iload 5, 2, ([], .null)), (1522, .iconst 4, 1, ([], .null)), (1523, .iadd, 1, ([], .null)), (1524, .iaload, 1, ([], .null)), 
  (1525, .i2d, 1, ([], .null)), (1526, .ldc2_w 167, 3, ([], .double 4593671619917905920)), (1529, .dmul, 1, ([], .null)), (1530, .invokevirtual 172, 3, ([218, 5, 0, 10], .null)), 
  (1533, .aload_n 2, 1, ([], .null)), (1534, .invokevirtual 110, 3, ([169, 1, 0, 10], .null)), (1537, .iload 6, 2, ([], .null)), (1539, .if_icmp .eq 5, 3, ([1544], .null)), 
  (1542, .iconst 0, 1, ([], .null)), (1543, .ireturn, 1, ([1], .null)), (1544, .goto 360, 3, ([1904], .null)), (1547, .aload_n 1, 1, ([], .null)), 
  (1548, .aload_n 3, 1, ([], .null)), (1549, .invokestatic 173, 3, ([124, 2, 0, 0], .null)), (1552, .istore 6, 2, ([], .null)), (1554, .aload_n 2, 1, ([], .null)), 
  (1555, .invokevirtual 176, 3, ([220, 1, 0, 10], .null)), (1558, .istore 7, 2, ([], .null)), (1560, .aload_n 2, 1, ([], .null)), 
  (1561, .invokevirtual 110, 3, ([169, 1, 0, 10], .null)), (1564, .iload 6, 2, ([], .null)), (1566, .if_icmp .eq 5, 3, ([1571], .null)), (1569, .iconst 0, 1, ([], .null)), 
  (1570, .ireturn, 1, ([1], .null)), (1571, .iload 6, 2, ([], .null)), (1573, .ifCond .ne 15, 3, ([1588], .null)), (1576, .aload_n 3, 1, ([], .null)), 
  (1577, .iconst 0, 1, ([], .null)), (1578, .laload, 1, ([], .null)), (1579, .iload 7, 2, ([], .null)), (1581, .i2l, 1, ([], .null)), (1582, .lcmp, 1, ([], .null)), 
  (1583, .ifCond .eq 5, 3, ([1588], .null)), (1586, .iconst 0, 1, ([], .null)), (1587, .ireturn, 1, ([1], .null)), (1588, .goto 316, 3, ([1904], .null)), 
  (1591, .aload_n 1, 1, ([], .null)), (1592, .aload_n 0, 1, ([], .null)), (1593, .iload 5, 2, ([], .null)), (1595, .iconst 1, 1, ([], .null)), (1596, .iadd, 1, ([], .null)), 
  (1597, .iaload, 1, ([], .null)), (1598, .aload_n 3, 1, ([], .null)), (1599, .invokestatic 177, 3, ([137, 3, 0, 0], .null)), (1602, .istore 6, 2, ([], .null)), 
  (1604, .aload_n 2, 1, ([], .null)), (1605, .aload_n 0, 1, ([], .null)), (1606, .iload 5, 2, ([], .null)), (1608, .iconst 1, 1, ([], .null)), (1609, .iadd, 1, ([], .null)), 
  (1610, .iaload, 1, ([], .null)), (1611, .invokevirtual 179, 3, ([224, 2, 0, 10], .null)), (1614, .istore 7, 2, ([], .null)), (1616, .aload_n 2, 1, ([], .null)), 
  (1617, .invokevirtual 110, 3, ([169, 1, 0, 10], .null)), (1620, .iload 6, 2, ([], .null)), (1622, .if_icmp .eq 5, 3, ([1627], .null)), (1625, .iconst 0, 1, ([], .null)), 
  (1626, .ireturn, 1, ([1], .null)), (1627, .iload 6, 2, ([], .null)), (1629, .ifCond .ne 15, 3, ([1644], .null)), (1632, .aload_n 3, 1, ([], .null)), 
  (1633, .iconst 0, 1, ([], .null)), (1634, .laload, 1, ([], .null)), (1635, .iload 7, 2, ([], .null)), (1637, .i2l, 1, ([], .null)), (1638, .lcmp, 1, ([], .null)), 
  (1639, .ifCond .eq 5, 3, ([1644], .null)), (1642, .iconst 0, 1, ([], .null)), (1643, .ireturn, 1, ([1], .null)), (1644, .goto 260, 3, ([1904], .null)), 
  (1647, .aload_n 1, 1, ([], .null)), (1648, .aload_n 0, 1, ([], .null)), (1649, .iload 5, 2, ([], .null)), (1651, .iconst 1, 1, ([], .null)), (1652, .iadd, 1, ([], .null)), 
  (1653, .iaload, 1, ([], .null)), (1654, .i2l, 1, ([], .null)), (1655, .bipush 32, 2, ([], .null)), (1657, .lshl, 1, ([], .null)), (1658, .aload_n 0, 1, ([], .null)), 
  (1659, .iload 5, 2, ([], .null)), (1661, .iconst 2, 1, ([], .null)), (1662, .iadd, 1, ([], .null)), (1663, .iaload, 1, ([], .null)), (1664, .i2l, 1, ([], .null)), 
  (1665, .ldc2_w 113, 3, ([], .long 4294967295)), (1668, .land, 1, ([], .null)), (1669, .lor, 1, ([], .null)), (1670, .aload_n 0, 1, ([], .null)), 
  (1671, .iload 5, 2, ([], .null)), (1673, .iconst 3, 1, ([], .null)), (1674, .iadd, 1, ([], .null)), (1675, .iaload, 1, ([], .null)), (1676, .aload_n 3, 1, ([], .null)), 
  (1677, .invokestatic 180, 3, ([139, 4, 0, 0], .null)), (1680, .istore 6, 2, ([], .null)), (1682, .aload_n 2, 1, ([], .null)), (1683, .aload_n 0, 1, ([], .null)), 
  (1684, .iload 5, 2, ([], .null)), (1686, .iconst 1, 1, ([], .null)), (1687, .iadd, 1, ([], .null)), (1688, .iaload, 1, ([], .null)), (1689, .i2l, 1, ([], .null)), 
  (1690, .bipush 32, 2, ([], .null)), (1692, .lshl, 1, ([], .null)), (1693, .aload_n 0, 1, ([], .null)), (1694, .iload 5, 2, ([], .null)), (1696, .iconst 2, 1, ([], .null)), 
  (1697, .iadd, 1, ([], .null)), (1698, .iaload, 1, ([], .null)), (1699, .i2l, 1, ([], .null)), (1700, .ldc2_w 113, 3, ([], .long 4294967295)), (1703, .land, 1, ([], .null)), 
  (1704, .lor, 1, ([], .null)), (1705, .aload_n 0, 1, ([], .null)), (1706, .iload 5, 2, ([], .null)), (1708, .iconst 3, 1, ([], .null)), (1709, .iadd, 1, ([], .null)), 
  (1710, .iaload, 1, ([], .null)), (1711, .invokevirtual 183, 3, ([225, 3, 0, 10], .null)), (1714, .istore 7, 2, ([], .null)), (1716, .aload_n 2, 1, ([], .null)), 
  (1717, .invokevirtual 110, 3, ([169, 1, 0, 10], .null)), (1720, .iload 6, 2, ([], .null)), (1722, .if_icmp .eq 5, 3, ([1727], .null)), (1725, .iconst 0, 1, ([], .null)), 
  (1726, .ireturn, 1, ([1], .null)), (1727, .iload 6, 2, ([], .null)), (1729, .ifCond .ne 15, 3, ([1744], .null)), (1732, .aload_n 3, 1, ([], .null)), 
  (1733, .iconst 0, 1, ([], .null)), (1734, .laload, 1, ([], .null)), (1735, .iload 7, 2, ([], .null)), (1737, .i2l, 1, ([], .null)), (1738, .lcmp, 1, ([], .null)), 
  (1739, .ifCond .eq 5, 3, ([1744], .null)), (1742, .iconst 0, 1, ([], .null)), (1743, .ireturn, 1, ([1], .null)), (1744, .goto 160, 3, ([1904], .null)), 
  (1747, .aload_n 1, 1, ([], .null)), (1748, .invokevirtual 184, 3, ([9, 1, 0, 1], .null)), (1751, .aload_n 2, 1, ([], .null)), 
  (1752, .invokevirtual 187, 3, ([226, 1, 0, 10], .null)), (1755, .if_icmp .eq 149, 3, ([1904], .null)), (1758, .iconst 0, 1, ([], .null)), (1759, .ireturn, 1, ([1], .null)), 
  (1760, .aload_n 1, 1, ([], .null)), (1761, .aload_n 3, 1, ([], .null)), (1762, .invokestatic 188, 3, ([141, 2, 0, 0], .null)), (1765, .istore 6, 2, ([], .null)), 
  (1767, .aload_n 2, 1, ([], .null)), (1768, .invokevirtual 190, 3, ([227, 1, 0, 10], .null)), (1771, .istore 7, 2, ([], .null)), (1773, .aload_n 2, 1, ([], .null)), 
  (1774, .invokevirtual 110, 3, ([169, 1, 0, 10], .null)), (1777, .iload 6, 2, ([], .null)), (1779, .if_icmp .eq 5, 3, ([1784], .null)), (1782, .iconst 0, 1, ([], .null)), 
  (1783, .ireturn, 1, ([1], .null)), (1784, .iload 6, 2, ([], .null)), (1786, .ifCond .ne 15, 3, ([1801], .null)), (1789, .aload_n 3, 1, ([], .null)), 
  (1790, .iconst 0, 1, ([], .null)), (1791, .laload, 1, ([], .null)), (1792, .iload 7, 2, ([], .null)), (1794, .i2l, 1, ([], .null)), (1795, .lcmp, 1, ([], .null)), 
  (1796, .ifCond .eq 5, 3, ([1801], .null)), (1799, .iconst 0, 1, ([], .null)), (1800, .ireturn, 1, ([1], .null)), (1801, .goto 103, 3, ([1904], .null)), 
  (1804, .aload_n 1, 1, ([], .null)), (1805, .aload_n 3, 1, ([], .null)), (1806, .invokestatic 191, 3, ([150, 2, 0, 0], .null)), (1809, .istore 6, 2, ([], .null)), 
  (1811, .aload_n 2, 1, ([], .null)), (1812, .invokevirtual 193, 3, ([231, 1, 0, 10], .null)), (1815, .istore 7, 2, ([], .null)), (1817, .aload_n 2, 1, ([], .null)), 
  (1818, .invokevirtual 110, 3, ([169, 1, 0, 10], .null)), (1821, .iload 6, 2, ([], .null)), (1823, .if_icmp .eq 5, 3, ([1828], .null)), (1826, .iconst 0, 1, ([], .null)), 
  (1827, .ireturn, 1, ([1], .null)), (1828, .iload 6, 2, ([], .null)), (1830, .ifCond .ne 15, 3, ([1845], .null)), (1833, .aload_n 3, 1, ([], .null)), 
  (1834, .iconst 0, 1, ([], .null)), (1835, .laload, 1, ([], .null)), (1836, .iload 7, 2, ([], .null)), (1838, .i2l, 1, ([], .null)), (1839, .lcmp, 1, ([], .null)), 
  (1840, .ifCond .eq 5, 3, ([1845], .null)), (1843, .iconst 0, 1, ([], .null)), (1844, .ireturn, 1, ([1], .null)), (1845, .goto 59, 3, ([1904], .null)), 
  (1848, .aload_n 1, 1, ([], .null)), (1849, .aload_n 0, 1, ([], .null)), (1850, .iload 5, 2, ([], .null)), (1852, .iconst 1, 1, ([], .null)), (1853, .iadd, 1, ([], .null)), 
  (1854, .iaload, 1, ([], .null)), (1855, .aload_n 3, 1, ([], .null)), (1856, .invokestatic 194, 3, ([166, 3, 0, 0], .null)), (1859, .istore 6, 2, ([], .null)), 
  (1861, .aload_n 2, 1, ([], .null)), (1862, .aload_n 0, 1, ([], .null)), (1863, .iload 5, 2, ([], .null)), (1865, .iconst 1, 1, ([], .null)), (1866, .iadd, 1, ([], .null)), 
  (1867, .iaload, 1, ([], .null)), (1868, .invokevirtual 196, 3, ([237, 2, 0, 10], .null)), (1871, .istore 7, 2, ([], .null)), (1873, .aload_n 2, 1, ([], .null)), 
  (1874, .invokevirtual 110, 3, ([169, 1, 0, 10], .null)), (1877, .iload 6, 2, ([], .null)), (1879, .if_icmp .eq 5, 3, ([1884], .null)), (1882, .iconst 0, 1, ([], .null)), 
  (1883, .ireturn, 1, ([1], .null)), (1884, .iload 6, 2, ([], .null)), (1886, .ifCond .ne 15, 3, ([1901], .null)), (1889, .aload_n 3, 1, ([], .null)), 
  (1890, .iconst 0, 1, ([], .null)), (1891, .laload, 1, ([], .null)), (1892, .iload 7, 2, ([], .null)), (1894, .i2l, 1, ([], .null)), (1895, .lcmp, 1, ([], .null)), 
  (1896, .ifCond .eq 5, 3, ([1901], .null)), (1899, .iconst 0, 1, ([], .null)), (1900, .ireturn, 1, ([1], .null)), (1901, .goto 3, 3, ([1904], .null)), 
  (1904, .iinc 5 8, 3, ([], .null)), (1907, .goto (-1879), 3, ([28], .null)), (1910, .iconst 1, 1, ([], .null)), (1911, .ireturn, 1, ([1], .null))
]
def pc_MIl : List pm_I := [mi_D_init, mi_Me_init, mi_Re_init, mi_Bu_init, mi_Fr_init, mi_Ca_init, mi_Le_init, mi_Sp_init, mi_Oc_init, mi_D_drop, mi_L_segment, mi_D_segment, mi_D_badIf, mi_D_isWithin, mi_Me_renew, mi_JA_fill, mi_D_cursorsToNothing, mi_Sp_toNothing, mi_Sp_stand, mi_L_word, mi_D_word, mi_Me_holds, mi_L_at, mi_D_at, mi_L_allow, mi_D_allow, mi_L_root, mi_D_root, mi_D_isCursor, mi_D_malformedIf, mi_Re_lead, mi_Re_find, mi_Po_kind, mi_Re_findNear, mi_Po_isNear, mi_Po_offset, mi_Po_farSegment, mi_Po_farPlace, mi_Po_isDouble, mi_Re_findDouble, mi_Re_leadToStruct, mi_Po_data, mi_Po_pointers, mi_Re_checkWithin, mi_Re_charge, mi_Sp_toStruct, mi_Po_code, mi_Re_leadToStructs, mi_Po_elements, mi_Sp_toStructs, mi_Re_leadToList, mi_D_listWords, mi_Sp_toList, mi_L_follow, mi_D_follow, mi_Sp_isPointerList, mi_D_kindIf, mi_Sp_pointerCount, mi_Sp_pointerPlace, mi_Sp_dataWords, mi_L_element, mi_D_element, mi_Sp_toElement, mi_Sp_firstElement, mi_L_number, mi_D_number, mi_D_isFieldSize, mi_D_fieldOf, mi_Sp_hasPiece, mi_Sp_pieceBit, mi_Me_piece, mi_D_ones, mi_D_signed, mi_L_real, mi_D_real, mi_Ra_isFinite, mi_Ra_exponentOf, mi_Ra_fractionBits, mi_Ra_mostExponent, mi_D_notFiniteIf, mi_Ra_fromBits, mi_JM_max, mi_Ra_bias, mi_Ra_scaled, mi_JM_abs, mi_L_item, mi_D_item, mi_L_look, mi_D_look, mi_L_begin, mi_D_begin, mi_L_struct, mi_D_struct, mi_D_isBuildSource, mi_Me_isOwn, mi_D_checkPointer, mi_D_segmentOf, mi_D_placeOf, mi_Bu_addStruct, mi_Po_toStruct, mi_Po_withOffset, mi_Bu_allocate, mi_Me_hasRoom, mi_Me_claim, mi_Me_firstWithRoom, mi_Bu_allocateDouble, mi_Po_toFar, mi_Bu_newSegment, mi_D_noRoomIf, mi_L_list, mi_D_list, mi_Bu_addStructs, mi_Po_toList, mi_Bu_addList, mi_L_put, mi_D_put, mi_Sp_isListOfPieces, mi_Me_setPiece, mi_L_putReal, mi_D_putReal, mi_Ra_canHold, mi_Ra_toBits, mi_Ra_sizeBits, mi_Ra_joined, mi_L_pack, mi_D_pack, mi_Fr_fill, mi_Fr_headGroups, mi_Fr_numberInFront, mi_Fr_packInto, mi_Fr_tagOf, mi_D_octetOf, mi_Oc_add, mi_Fr_addOctets, mi_Fr_zeroRun, mi_Fr_fullRun, mi_JI_bitCount, mi_L_octet, mi_D_octet, mi_L_feed, mi_D_feed, mi_L_take, mi_D_take, mi_Fr_unpack, mi_Fr_nextOctet, mi_Fr_nextGroup, mi_Fr_addGroup, mi_Fr_check, mi_Fr_headNumber, mi_Fr_empty, mi_L_canonical, mi_D_canonical, mi_Ca_make, mi_Ca_copy, mi_Ca_lay, mi_Ca_layStruct, mi_Le_span, mi_Le_measure, mi_Le_elementFrom, mi_Le_needed, mi_Ca_claim, mi_Ca_copyData, mi_Le_elementTo, mi_Ca_layStructs, mi_Ca_layPointers, mi_Ca_layNumbers, mi_L_count, mi_D_count, mi_M_init, mi_M_thrown, mi_M_segment, mi_M_in, mi_M_fails, mi_M_lay, mi_M_forget, mi_M_clear, mi_M_word, mi_M_has, mi_M_at, mi_M_allow, mi_M_root, mi_M_isCursor, mi_M_followed, mi_M_offset, mi_M_stands, mi_M_dataOf, mi_M_pointersOf, mi_M_codeOf, mi_M_countOf, mi_M_wordsOf, mi_M_bitsOf, mi_M_copy, mi_M_follow, mi_M_pointerAt, mi_M_element, mi_M_number, mi_M_isWidth, mi_M_field, mi_M_hasField, mi_M_piece, mi_M_cut, mi_M_signed, mi_M_real, mi_M_realOf, mi_M_item, mi_M_look, mi_M_begin, mi_M_struct, mi_M_made, mi_M_allocated, mi_M_near, mi_M_takes, mi_M_withLeft, mi_M_far, mi_M_sets, mi_M_list, mi_M_put, mi_M_store, mi_M_putReal, mi_M_bitsOfReal, mi_M_pack, mi_M_framed, mi_M_zeros, mi_M_whole, mi_M_octet, mi_M_feed, mi_M_drop, mi_M_take, mi_M_unpacked, mi_M_grown, mi_M_fourth, mi_M_canonical, mi_M_push, mi_M_writesStruct, mi_M_needs, mi_M_writesStructs, mi_M_writesList, mi_M_count]
def pc_MI : Nat → pm_I := fun m => pc_MIl.getD m mi_JM_max
def pc_al : List Nat := [0, 5, 4, 6, 1, 8, 168]
def pc_na : Nat → Bool := fun m => !(pc_al.any (Nat.beq m))
theorem me_0 : pc_MI 0 = mi_D_init := rfl
theorem me_1 : pc_MI 1 = mi_Me_init := rfl
theorem me_2 : pc_MI 2 = mi_Re_init := rfl
theorem me_3 : pc_MI 3 = mi_Bu_init := rfl
theorem me_4 : pc_MI 4 = mi_Fr_init := rfl
theorem me_5 : pc_MI 5 = mi_Ca_init := rfl
theorem me_6 : pc_MI 6 = mi_Le_init := rfl
theorem me_7 : pc_MI 7 = mi_Sp_init := rfl
theorem me_8 : pc_MI 8 = mi_Oc_init := rfl
theorem me_9 : pc_MI 9 = mi_D_drop := rfl
theorem me_10 : pc_MI 10 = mi_L_segment := rfl
theorem me_11 : pc_MI 11 = mi_D_segment := rfl
theorem me_12 : pc_MI 12 = mi_D_badIf := rfl
theorem me_13 : pc_MI 13 = mi_D_isWithin := rfl
theorem me_14 : pc_MI 14 = mi_Me_renew := rfl
theorem me_15 : pc_MI 15 = mi_JA_fill := rfl
theorem me_16 : pc_MI 16 = mi_D_cursorsToNothing := rfl
theorem me_17 : pc_MI 17 = mi_Sp_toNothing := rfl
theorem me_18 : pc_MI 18 = mi_Sp_stand := rfl
theorem me_19 : pc_MI 19 = mi_L_word := rfl
theorem me_20 : pc_MI 20 = mi_D_word := rfl
theorem me_21 : pc_MI 21 = mi_Me_holds := rfl
theorem me_22 : pc_MI 22 = mi_L_at := rfl
theorem me_23 : pc_MI 23 = mi_D_at := rfl
theorem me_24 : pc_MI 24 = mi_L_allow := rfl
theorem me_25 : pc_MI 25 = mi_D_allow := rfl
theorem me_26 : pc_MI 26 = mi_L_root := rfl
theorem me_27 : pc_MI 27 = mi_D_root := rfl
theorem me_28 : pc_MI 28 = mi_D_isCursor := rfl
theorem me_29 : pc_MI 29 = mi_D_malformedIf := rfl
theorem me_30 : pc_MI 30 = mi_Re_lead := rfl
theorem me_31 : pc_MI 31 = mi_Re_find := rfl
theorem me_32 : pc_MI 32 = mi_Po_kind := rfl
theorem me_33 : pc_MI 33 = mi_Re_findNear := rfl
theorem me_34 : pc_MI 34 = mi_Po_isNear := rfl
theorem me_35 : pc_MI 35 = mi_Po_offset := rfl
theorem me_36 : pc_MI 36 = mi_Po_farSegment := rfl
theorem me_37 : pc_MI 37 = mi_Po_farPlace := rfl
theorem me_38 : pc_MI 38 = mi_Po_isDouble := rfl
theorem me_39 : pc_MI 39 = mi_Re_findDouble := rfl
theorem me_40 : pc_MI 40 = mi_Re_leadToStruct := rfl
theorem me_41 : pc_MI 41 = mi_Po_data := rfl
theorem me_42 : pc_MI 42 = mi_Po_pointers := rfl
theorem me_43 : pc_MI 43 = mi_Re_checkWithin := rfl
theorem me_44 : pc_MI 44 = mi_Re_charge := rfl
theorem me_45 : pc_MI 45 = mi_Sp_toStruct := rfl
theorem me_46 : pc_MI 46 = mi_Po_code := rfl
theorem me_47 : pc_MI 47 = mi_Re_leadToStructs := rfl
theorem me_48 : pc_MI 48 = mi_Po_elements := rfl
theorem me_49 : pc_MI 49 = mi_Sp_toStructs := rfl
theorem me_50 : pc_MI 50 = mi_Re_leadToList := rfl
theorem me_51 : pc_MI 51 = mi_D_listWords := rfl
theorem me_52 : pc_MI 52 = mi_Sp_toList := rfl
theorem me_53 : pc_MI 53 = mi_L_follow := rfl
theorem me_54 : pc_MI 54 = mi_D_follow := rfl
theorem me_55 : pc_MI 55 = mi_Sp_isPointerList := rfl
theorem me_56 : pc_MI 56 = mi_D_kindIf := rfl
theorem me_57 : pc_MI 57 = mi_Sp_pointerCount := rfl
theorem me_58 : pc_MI 58 = mi_Sp_pointerPlace := rfl
theorem me_59 : pc_MI 59 = mi_Sp_dataWords := rfl
theorem me_60 : pc_MI 60 = mi_L_element := rfl
theorem me_61 : pc_MI 61 = mi_D_element := rfl
theorem me_62 : pc_MI 62 = mi_Sp_toElement := rfl
theorem me_63 : pc_MI 63 = mi_Sp_firstElement := rfl
theorem me_64 : pc_MI 64 = mi_L_number := rfl
theorem me_65 : pc_MI 65 = mi_D_number := rfl
theorem me_66 : pc_MI 66 = mi_D_isFieldSize := rfl
theorem me_67 : pc_MI 67 = mi_D_fieldOf := rfl
theorem me_68 : pc_MI 68 = mi_Sp_hasPiece := rfl
theorem me_69 : pc_MI 69 = mi_Sp_pieceBit := rfl
theorem me_70 : pc_MI 70 = mi_Me_piece := rfl
theorem me_71 : pc_MI 71 = mi_D_ones := rfl
theorem me_72 : pc_MI 72 = mi_D_signed := rfl
theorem me_73 : pc_MI 73 = mi_L_real := rfl
theorem me_74 : pc_MI 74 = mi_D_real := rfl
theorem me_75 : pc_MI 75 = mi_Ra_isFinite := rfl
theorem me_76 : pc_MI 76 = mi_Ra_exponentOf := rfl
theorem me_77 : pc_MI 77 = mi_Ra_fractionBits := rfl
theorem me_78 : pc_MI 78 = mi_Ra_mostExponent := rfl
theorem me_79 : pc_MI 79 = mi_D_notFiniteIf := rfl
theorem me_80 : pc_MI 80 = mi_Ra_fromBits := rfl
theorem me_81 : pc_MI 81 = mi_JM_max := rfl
theorem me_82 : pc_MI 82 = mi_Ra_bias := rfl
theorem me_83 : pc_MI 83 = mi_Ra_scaled := rfl
theorem me_84 : pc_MI 84 = mi_JM_abs := rfl
theorem me_85 : pc_MI 85 = mi_L_item := rfl
theorem me_86 : pc_MI 86 = mi_D_item := rfl
theorem me_87 : pc_MI 87 = mi_L_look := rfl
theorem me_88 : pc_MI 88 = mi_D_look := rfl
theorem me_89 : pc_MI 89 = mi_L_begin := rfl
theorem me_90 : pc_MI 90 = mi_D_begin := rfl
theorem me_91 : pc_MI 91 = mi_L_struct := rfl
theorem me_92 : pc_MI 92 = mi_D_struct := rfl
theorem me_93 : pc_MI 93 = mi_D_isBuildSource := rfl
theorem me_94 : pc_MI 94 = mi_Me_isOwn := rfl
theorem me_95 : pc_MI 95 = mi_D_checkPointer := rfl
theorem me_96 : pc_MI 96 = mi_D_segmentOf := rfl
theorem me_97 : pc_MI 97 = mi_D_placeOf := rfl
theorem me_98 : pc_MI 98 = mi_Bu_addStruct := rfl
theorem me_99 : pc_MI 99 = mi_Po_toStruct := rfl
theorem me_100 : pc_MI 100 = mi_Po_withOffset := rfl
theorem me_101 : pc_MI 101 = mi_Bu_allocate := rfl
theorem me_102 : pc_MI 102 = mi_Me_hasRoom := rfl
theorem me_103 : pc_MI 103 = mi_Me_claim := rfl
theorem me_104 : pc_MI 104 = mi_Me_firstWithRoom := rfl
theorem me_105 : pc_MI 105 = mi_Bu_allocateDouble := rfl
theorem me_106 : pc_MI 106 = mi_Po_toFar := rfl
theorem me_107 : pc_MI 107 = mi_Bu_newSegment := rfl
theorem me_108 : pc_MI 108 = mi_D_noRoomIf := rfl
theorem me_109 : pc_MI 109 = mi_L_list := rfl
theorem me_110 : pc_MI 110 = mi_D_list := rfl
theorem me_111 : pc_MI 111 = mi_Bu_addStructs := rfl
theorem me_112 : pc_MI 112 = mi_Po_toList := rfl
theorem me_113 : pc_MI 113 = mi_Bu_addList := rfl
theorem me_114 : pc_MI 114 = mi_L_put := rfl
theorem me_115 : pc_MI 115 = mi_D_put := rfl
theorem me_116 : pc_MI 116 = mi_Sp_isListOfPieces := rfl
theorem me_117 : pc_MI 117 = mi_Me_setPiece := rfl
theorem me_118 : pc_MI 118 = mi_L_putReal := rfl
theorem me_119 : pc_MI 119 = mi_D_putReal := rfl
theorem me_120 : pc_MI 120 = mi_Ra_canHold := rfl
theorem me_121 : pc_MI 121 = mi_Ra_toBits := rfl
theorem me_122 : pc_MI 122 = mi_Ra_sizeBits := rfl
theorem me_123 : pc_MI 123 = mi_Ra_joined := rfl
theorem me_124 : pc_MI 124 = mi_L_pack := rfl
theorem me_125 : pc_MI 125 = mi_D_pack := rfl
theorem me_126 : pc_MI 126 = mi_Fr_fill := rfl
theorem me_127 : pc_MI 127 = mi_Fr_headGroups := rfl
theorem me_128 : pc_MI 128 = mi_Fr_numberInFront := rfl
theorem me_129 : pc_MI 129 = mi_Fr_packInto := rfl
theorem me_130 : pc_MI 130 = mi_Fr_tagOf := rfl
theorem me_131 : pc_MI 131 = mi_D_octetOf := rfl
theorem me_132 : pc_MI 132 = mi_Oc_add := rfl
theorem me_133 : pc_MI 133 = mi_Fr_addOctets := rfl
theorem me_134 : pc_MI 134 = mi_Fr_zeroRun := rfl
theorem me_135 : pc_MI 135 = mi_Fr_fullRun := rfl
theorem me_136 : pc_MI 136 = mi_JI_bitCount := rfl
theorem me_137 : pc_MI 137 = mi_L_octet := rfl
theorem me_138 : pc_MI 138 = mi_D_octet := rfl
theorem me_139 : pc_MI 139 = mi_L_feed := rfl
theorem me_140 : pc_MI 140 = mi_D_feed := rfl
theorem me_141 : pc_MI 141 = mi_L_take := rfl
theorem me_142 : pc_MI 142 = mi_D_take := rfl
theorem me_143 : pc_MI 143 = mi_Fr_unpack := rfl
theorem me_144 : pc_MI 144 = mi_Fr_nextOctet := rfl
theorem me_145 : pc_MI 145 = mi_Fr_nextGroup := rfl
theorem me_146 : pc_MI 146 = mi_Fr_addGroup := rfl
theorem me_147 : pc_MI 147 = mi_Fr_check := rfl
theorem me_148 : pc_MI 148 = mi_Fr_headNumber := rfl
theorem me_149 : pc_MI 149 = mi_Fr_empty := rfl
theorem me_150 : pc_MI 150 = mi_L_canonical := rfl
theorem me_151 : pc_MI 151 = mi_D_canonical := rfl
theorem me_152 : pc_MI 152 = mi_Ca_make := rfl
theorem me_153 : pc_MI 153 = mi_Ca_copy := rfl
theorem me_154 : pc_MI 154 = mi_Ca_lay := rfl
theorem me_155 : pc_MI 155 = mi_Ca_layStruct := rfl
theorem me_156 : pc_MI 156 = mi_Le_span := rfl
theorem me_157 : pc_MI 157 = mi_Le_measure := rfl
theorem me_158 : pc_MI 158 = mi_Le_elementFrom := rfl
theorem me_159 : pc_MI 159 = mi_Le_needed := rfl
theorem me_160 : pc_MI 160 = mi_Ca_claim := rfl
theorem me_161 : pc_MI 161 = mi_Ca_copyData := rfl
theorem me_162 : pc_MI 162 = mi_Le_elementTo := rfl
theorem me_163 : pc_MI 163 = mi_Ca_layStructs := rfl
theorem me_164 : pc_MI 164 = mi_Ca_layPointers := rfl
theorem me_165 : pc_MI 165 = mi_Ca_layNumbers := rfl
theorem me_166 : pc_MI 166 = mi_L_count := rfl
theorem me_167 : pc_MI 167 = mi_D_count := rfl
theorem me_168 : pc_MI 168 = mi_M_init := rfl
theorem me_169 : pc_MI 169 = mi_M_thrown := rfl
theorem me_170 : pc_MI 170 = mi_M_segment := rfl
theorem me_171 : pc_MI 171 = mi_M_in := rfl
theorem me_172 : pc_MI 172 = mi_M_fails := rfl
theorem me_173 : pc_MI 173 = mi_M_lay := rfl
theorem me_174 : pc_MI 174 = mi_M_forget := rfl
theorem me_175 : pc_MI 175 = mi_M_clear := rfl
theorem me_176 : pc_MI 176 = mi_M_word := rfl
theorem me_177 : pc_MI 177 = mi_M_has := rfl
theorem me_178 : pc_MI 178 = mi_M_at := rfl
theorem me_179 : pc_MI 179 = mi_M_allow := rfl
theorem me_180 : pc_MI 180 = mi_M_root := rfl
theorem me_181 : pc_MI 181 = mi_M_isCursor := rfl
theorem me_182 : pc_MI 182 = mi_M_followed := rfl
theorem me_183 : pc_MI 183 = mi_M_offset := rfl
theorem me_184 : pc_MI 184 = mi_M_stands := rfl
theorem me_185 : pc_MI 185 = mi_M_dataOf := rfl
theorem me_186 : pc_MI 186 = mi_M_pointersOf := rfl
theorem me_187 : pc_MI 187 = mi_M_codeOf := rfl
theorem me_188 : pc_MI 188 = mi_M_countOf := rfl
theorem me_189 : pc_MI 189 = mi_M_wordsOf := rfl
theorem me_190 : pc_MI 190 = mi_M_bitsOf := rfl
theorem me_191 : pc_MI 191 = mi_M_copy := rfl
theorem me_192 : pc_MI 192 = mi_M_follow := rfl
theorem me_193 : pc_MI 193 = mi_M_pointerAt := rfl
theorem me_194 : pc_MI 194 = mi_M_element := rfl
theorem me_195 : pc_MI 195 = mi_M_number := rfl
theorem me_196 : pc_MI 196 = mi_M_isWidth := rfl
theorem me_197 : pc_MI 197 = mi_M_field := rfl
theorem me_198 : pc_MI 198 = mi_M_hasField := rfl
theorem me_199 : pc_MI 199 = mi_M_piece := rfl
theorem me_200 : pc_MI 200 = mi_M_cut := rfl
theorem me_201 : pc_MI 201 = mi_M_signed := rfl
theorem me_202 : pc_MI 202 = mi_M_real := rfl
theorem me_203 : pc_MI 203 = mi_M_realOf := rfl
theorem me_204 : pc_MI 204 = mi_M_item := rfl
theorem me_205 : pc_MI 205 = mi_M_look := rfl
theorem me_206 : pc_MI 206 = mi_M_begin := rfl
theorem me_207 : pc_MI 207 = mi_M_struct := rfl
theorem me_208 : pc_MI 208 = mi_M_made := rfl
theorem me_209 : pc_MI 209 = mi_M_allocated := rfl
theorem me_210 : pc_MI 210 = mi_M_near := rfl
theorem me_211 : pc_MI 211 = mi_M_takes := rfl
theorem me_212 : pc_MI 212 = mi_M_withLeft := rfl
theorem me_213 : pc_MI 213 = mi_M_far := rfl
theorem me_214 : pc_MI 214 = mi_M_sets := rfl
theorem me_215 : pc_MI 215 = mi_M_list := rfl
theorem me_216 : pc_MI 216 = mi_M_put := rfl
theorem me_217 : pc_MI 217 = mi_M_store := rfl
theorem me_218 : pc_MI 218 = mi_M_putReal := rfl
theorem me_219 : pc_MI 219 = mi_M_bitsOfReal := rfl
theorem me_220 : pc_MI 220 = mi_M_pack := rfl
theorem me_221 : pc_MI 221 = mi_M_framed := rfl
theorem me_222 : pc_MI 222 = mi_M_zeros := rfl
theorem me_223 : pc_MI 223 = mi_M_whole := rfl
theorem me_224 : pc_MI 224 = mi_M_octet := rfl
theorem me_225 : pc_MI 225 = mi_M_feed := rfl
theorem me_226 : pc_MI 226 = mi_M_drop := rfl
theorem me_227 : pc_MI 227 = mi_M_take := rfl
theorem me_228 : pc_MI 228 = mi_M_unpacked := rfl
theorem me_229 : pc_MI 229 = mi_M_grown := rfl
theorem me_230 : pc_MI 230 = mi_M_fourth := rfl
theorem me_231 : pc_MI 231 = mi_M_canonical := rfl
theorem me_232 : pc_MI 232 = mi_M_push := rfl
theorem me_233 : pc_MI 233 = mi_M_writesStruct := rfl
theorem me_234 : pc_MI 234 = mi_M_needs := rfl
theorem me_235 : pc_MI 235 = mi_M_writesStructs := rfl
theorem me_236 : pc_MI 236 = mi_M_writesList := rfl
theorem me_237 : pc_MI 237 = mi_M_count := rfl
