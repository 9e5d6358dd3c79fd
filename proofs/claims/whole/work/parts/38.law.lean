/-! the law: its own code (printed by gen6.py) -/
theorem ln_L_8 : pm_lkN "SegmentDeskLaw" pm_Ts pc_cl pc_Dv 8 0 := ⟨_, FT_0, 8, fy_0, rfl, fi_0, ft_0, w_25, w_26, w_1, pk_d 8 fy_0 _ (by decide +kernel), rfl, pk_v _ rfl⟩
theorem ln_L_101 : pm_lkN "SegmentDeskLaw" pm_Ts pc_cl pc_Dv 101 9 := ⟨_, FT_9, 27, fy_9, rfl, fi_9, ft_9, w_1041, w_1042, w_10, pk_d 27 fy_9 _ (by decide +kernel), rfl, pk_v _ rfl⟩
theorem pk_ch {α : Type} {p : α → Bool} {l : List α} (n a : Nat) (h1 : ((l.drop a).take n).all p = true) (h2 : (l.drop (a + n)).all p = true) : (l.drop a).all p = true := by
  rw [← List.take_append_drop n (l.drop a), List.all_append, h1, List.drop_drop, h2]
  rfl
theorem kl_0 : ((kc_L_law.drop 0).take 40).all (pm_dq code) = true := by decide +kernel
theorem kl_40 : ((kc_L_law.drop 40).take 40).all (pm_dq code) = true := by decide +kernel
theorem kl_80 : ((kc_L_law.drop 80).take 40).all (pm_dq code) = true := by decide +kernel
theorem kl_120 : ((kc_L_law.drop 120).take 40).all (pm_dq code) = true := by decide +kernel
theorem kl_160 : ((kc_L_law.drop 160).take 40).all (pm_dq code) = true := by decide +kernel
theorem kl_200 : ((kc_L_law.drop 200).take 40).all (pm_dq code) = true := by decide +kernel
theorem kl_240 : ((kc_L_law.drop 240).take 40).all (pm_dq code) = true := by decide +kernel
theorem kl_280 : ((kc_L_law.drop 280).take 40).all (pm_dq code) = true := by decide +kernel
theorem kl_320 : ((kc_L_law.drop 320).take 40).all (pm_dq code) = true := by decide +kernel
theorem kl_360 : ((kc_L_law.drop 360).take 40).all (pm_dq code) = true := by decide +kernel
theorem kl_400 : ((kc_L_law.drop 400).take 40).all (pm_dq code) = true := by decide +kernel
theorem kl_440 : ((kc_L_law.drop 440).take 40).all (pm_dq code) = true := by decide +kernel
theorem kl_480 : ((kc_L_law.drop 480).take 40).all (pm_dq code) = true := by decide +kernel
theorem kl_520 : ((kc_L_law.drop 520).take 40).all (pm_dq code) = true := by decide +kernel
theorem kl_560 : ((kc_L_law.drop 560).take 40).all (pm_dq code) = true := by decide +kernel
theorem kl_600 : ((kc_L_law.drop 600).take 40).all (pm_dq code) = true := by decide +kernel
theorem kl_640 : ((kc_L_law.drop 640).take 40).all (pm_dq code) = true := by decide +kernel
theorem kl_680 : ((kc_L_law.drop 680).take 40).all (pm_dq code) = true := by decide +kernel
theorem kl_720 : ((kc_L_law.drop 720).take 40).all (pm_dq code) = true := by decide +kernel
theorem kl_760 : ((kc_L_law.drop 760).take 40).all (pm_dq code) = true := by decide +kernel
theorem kl_800 : ((kc_L_law.drop 800).take 40).all (pm_dq code) = true := by decide +kernel
theorem kl_840 : ((kc_L_law.drop 840).take 40).all (pm_dq code) = true := by decide +kernel
theorem kl_880 : ((kc_L_law.drop 880).take 40).all (pm_dq code) = true := by decide +kernel
theorem kl_920 : ((kc_L_law.drop 920).take 40).all (pm_dq code) = true := by decide +kernel
theorem kl_960 : ((kc_L_law.drop 960).take 40).all (pm_dq code) = true := by decide +kernel
theorem kl_1000 : ((kc_L_law.drop 1000).take 40).all (pm_dq code) = true := by decide +kernel
theorem kl_1040 : ((kc_L_law.drop 1040).take 40).all (pm_dq code) = true := by decide +kernel
theorem kl_1080 : ((kc_L_law.drop 1080).take 40).all (pm_dq code) = true := by decide +kernel
theorem kl_1120 : ((kc_L_law.drop 1120).take 40).all (pm_dq code) = true := by decide +kernel
theorem kl_1160 : ((kc_L_law.drop 1160).take 40).all (pm_dq code) = true := by decide +kernel
theorem kl_1200 : ((kc_L_law.drop 1200).take 40).all (pm_dq code) = true := by decide +kernel
theorem kl_all : kc_L_law.all (pm_dq code) = true := pk_ch 40 0 kl_0 (pk_ch 40 40 kl_40 (pk_ch 40 80 kl_80 (pk_ch 40 120 kl_120 (pk_ch 40 160 kl_160 (pk_ch 40 200 kl_200 (pk_ch 40 240 kl_240 (pk_ch 40 280 kl_280 (pk_ch 40 320 kl_320 (pk_ch 40 360 kl_360 (pk_ch 40 400 kl_400 (pk_ch 40 440 kl_440 (pk_ch 40 480 kl_480 (pk_ch 40 520 kl_520 (pk_ch 40 560 kl_560 (pk_ch 40 600 kl_600 (pk_ch 40 640 kl_640 (pk_ch 40 680 kl_680 (pk_ch 40 720 kl_720 (pk_ch 40 760 kl_760 (pk_ch 40 800 kl_800 (pk_ch 40 840 kl_840 (pk_ch 40 880 kl_880 (pk_ch 40 920 kl_920 (pk_ch 40 960 kl_960 (pk_ch 40 1000 kl_1000 (pk_ch 40 1040 kl_1040 (pk_ch 40 1080 kl_1080 (pk_ch 40 1120 kl_1120 (pk_ch 40 1160 kl_1160 (pk_ch 40 1200 kl_1200 (by decide +kernel)))))))))))))))))))))))))))))))
theorem ok_law {s0 : State} : pm_OKi s0 pm_Ts pc_cl pc_Dv pc_MI pc_na "SegmentDeskLaw" "law" code (some .boolean) (kc_L_law, []) := by
  refine pk_i kl_all (pk_all (ks := [(0, .new 8, 3, ([0], .null)), (4, .invokespecial 100, 3, ([0, 1, 1, 1], .null)), (8, .new 101, 3, ([9], .null)), (12, .invokespecial 103, 3, ([168, 1, 1, 10], .null)), (17, .newarray .long, 2, ([1], .null)), (21, .newarray .double, 2, ([4], .null)), (35, .if_icmp .gt 1875, 3, ([1910], .null)), (45, .tableswitch 1859 0 22 #[107, 191, 302, 369, 425, 493, 573, 653, 776, 893, 960, 1028, 1064, 1168, 1300, 1404, 1502, 1546, 1602, 1702, 1715, 1759, 1803], 107, ([1904, 152, 236, 347, 414, 470, 538, 618, 698, 821, 938, 1005, 1073, 1109, 1213, 1345, 1449, 1547, 1591, 1647, 1747, 1760, 1804, 1848], .null)), (183, .invokestatic 104, 3, ([10, 6, 0, 0], .null)), (219, .invokevirtual 109, 3, ([170, 6, 0, 10], .null)), (223, .invokevirtual 110, 3, ([169, 1, 0, 10], .null)), (228, .if_icmp .eq 5, 3, ([233], .null)), (232, .ireturn, 1, ([1], .null)), (233, .goto 1671, 3, ([1904], .null)), (266, .ldc2_w 113, 3, ([], .long 4294967295)), (272, .invokestatic 115, 3, ([19, 5, 0, 0], .null)), (307, .ldc2_w 113, 3, ([], .long 4294967295)), (312, .invokevirtual 118, 3, ([176, 4, 0, 10], .null)), (318, .invokevirtual 110, 3, ([169, 1, 0, 10], .null)), (323, .if_icmp .eq 5, 3, ([328], .null)), (327, .ireturn, 1, ([1], .null)), (330, .ifCond .ne 14, 3, ([344], .null)), (339, .ifCond .eq 5, 3, ([344], .null)), (343, .ireturn, 1, ([1], .null)), (344, .goto 1560, 3, ([1904], .null)), (361, .invokestatic 119, 3, ([22, 4, 0, 0], .null)), (379, .invokevirtual 122, 3, ([178, 3, 0, 10], .null)), (385, .invokevirtual 110, 3, ([169, 1, 0, 10], .null)), (390, .if_icmp .eq 5, 3, ([395], .null)), (394, .ireturn, 1, ([1], .null)), (397, .ifCond .ne 14, 3, ([411], .null)), (406, .ifCond .eq 5, 3, ([411], .null)), (410, .ireturn, 1, ([1], .null)), (411, .goto 1493, 3, ([1904], .null)), (422, .invokestatic 123, 3, ([24, 3, 0, 0], .null)), (434, .invokevirtual 126, 3, ([179, 2, 0, 10], .null)), (440, .invokevirtual 110, 3, ([169, 1, 0, 10], .null)), (445, .if_icmp .eq 5, 3, ([450], .null)), (449, .ireturn, 1, ([1], .null)), (452, .ifCond .ne 15, 3, ([467], .null)), (462, .ifCond .eq 5, 3, ([467], .null)), (466, .ireturn, 1, ([1], .null)), (467, .goto 1437, 3, ([1904], .null)), (484, .invokestatic 127, 3, ([26, 4, 0, 0], .null)), (502, .invokevirtual 129, 3, ([180, 3, 0, 10], .null)), (508, .invokevirtual 110, 3, ([169, 1, 0, 10], .null)), (513, .if_icmp .eq 5, 3, ([518], .null)), (517, .ireturn, 1, ([1], .null)), (520, .ifCond .ne 15, 3, ([535], .null)), (530, .ifCond .eq 5, 3, ([535], .null)), (534, .ireturn, 1, ([1], .null)), (535, .goto 1369, 3, ([1904], .null)), (558, .invokestatic 130, 3, ([53, 5, 0, 0], .null)), (582, .invokevirtual 133, 3, ([192, 4, 0, 10], .null)), (588, .invokevirtual 110, 3, ([169, 1, 0, 10], .null)), (593, .if_icmp .eq 5, 3, ([598], .null)), (597, .ireturn, 1, ([1], .null)), (600, .ifCond .ne 15, 3, ([615], .null)), (610, .ifCond .eq 5, 3, ([615], .null)), (614, .ireturn, 1, ([1], .null)), (615, .goto 1289, 3, ([1904], .null)), (638, .invokestatic 134, 3, ([60, 5, 0, 0], .null)), (662, .invokevirtual 136, 3, ([194, 4, 0, 10], .null)), (668, .invokevirtual 110, 3, ([169, 1, 0, 10], .null)), (673, .if_icmp .eq 5, 3, ([678], .null)), (677, .ireturn, 1, ([1], .null)), (680, .ifCond .ne 15, 3, ([695], .null)), (690, .ifCond .eq 5, 3, ([695], .null)), (694, .ireturn, 1, ([1], .null)), (695, .goto 1209, 3, ([1904], .null)), (734, .ldc2_w 113, 3, ([], .long 4294967295)), (740, .invokestatic 137, 3, ([64, 6, 0, 0], .null)), (781, .ldc2_w 113, 3, ([], .long 4294967295)), (786, .invokevirtual 140, 3, ([195, 5, 0, 10], .null)), (792, .invokevirtual 110, 3, ([169, 1, 0, 10], .null)), (797, .if_icmp .eq 5, 3, ([802], .null)), (801, .ireturn, 1, ([1], .null)), (804, .ifCond .ne 14, 3, ([818], .null)), (813, .ifCond .eq 5, 3, ([818], .null)), (817, .ireturn, 1, ([1], .null)), (818, .goto 1086, 3, ([1904], .null)), (834, .ifCond .eq 7, 3, ([841], .null)), (838, .goto 4, 3, ([842], .null)), (850, .invokestatic 141, 3, ([73, 5, 0, 0], .null)), (868, .ifCond .eq 7, 3, ([875], .null)), (872, .goto 4, 3, ([876], .null)), (882, .invokevirtual 144, 3, ([202, 4, 0, 10], .null)), (888, .invokevirtual 110, 3, ([169, 1, 0, 10], .null)), (893, .if_icmp .eq 5, 3, ([898], .null)), (897, .ireturn, 1, ([1], .null)), (900, .ifCond .ne 35, 3, ([935], .null)), (910, .ifCond .eq 25, 3, ([935], .null)), (922, .ifCond .eq 11, 3, ([933], .null)), (930, .ifCond .ne 5, 3, ([935], .null)), (934, .ireturn, 1, ([1], .null)), (935, .goto 969, 3, ([1904], .null)), (952, .invokestatic 145, 3, ([85, 4, 0, 0], .null)), (970, .invokevirtual 147, 3, ([204, 3, 0, 10], .null)), (976, .invokevirtual 110, 3, ([169, 1, 0, 10], .null)), (981, .if_icmp .eq 5, 3, ([986], .null)), (985, .ireturn, 1, ([1], .null)), (988, .ifCond .ne 14, 3, ([1002], .null)), (997, .ifCond .eq 5, 3, ([1002], .null)), (1001, .ireturn, 1, ([1], .null)), (1002, .goto 902, 3, ([1904], .null)), (1019, .invokestatic 148, 3, ([87, 4, 0, 0], .null)), (1037, .invokevirtual 150, 3, ([205, 3, 0, 10], .null)), (1043, .invokevirtual 110, 3, ([169, 1, 0, 10], .null)), (1048, .if_icmp .eq 5, 3, ([1053], .null)), (1052, .ireturn, 1, ([1], .null)), (1055, .ifCond .ne 15, 3, ([1070], .null)), (1065, .ifCond .eq 5, 3, ([1070], .null)), (1069, .ireturn, 1, ([1], .null)), (1070, .goto 834, 3, ([1904], .null)), (1080, .invokestatic 151, 3, ([89, 2, 0, 0], .null)), (1092, .invokevirtual 154, 3, ([206, 2, 0, 10], .null)), (1096, .invokevirtual 110, 3, ([169, 1, 0, 10], .null)), (1101, .if_icmp .eq 5, 3, ([1106], .null)), (1105, .ireturn, 1, ([1], .null)), (1106, .goto 798, 3, ([1904], .null)), (1141, .invokestatic 155, 3, ([91, 7, 0, 0], .null)), (1177, .invokevirtual 158, 3, ([207, 6, 0, 10], .null)), (1183, .invokevirtual 110, 3, ([169, 1, 0, 10], .null)), (1188, .if_icmp .eq 5, 3, ([1193], .null)), (1192, .ireturn, 1, ([1], .null)), (1195, .ifCond .ne 15, 3, ([1210], .null)), (1205, .ifCond .eq 5, 3, ([1210], .null)), (1209, .ireturn, 1, ([1], .null)), (1210, .goto 694, 3, ([1904], .null)), (1259, .invokestatic 159, 3, ([109, 9, 0, 0], .null)), (1309, .invokevirtual 162, 3, ([215, 8, 0, 10], .null)), (1315, .invokevirtual 110, 3, ([169, 1, 0, 10], .null)), (1320, .if_icmp .eq 5, 3, ([1325], .null)), (1324, .ireturn, 1, ([1], .null)), (1327, .ifCond .ne 15, 3, ([1342], .null)), (1337, .ifCond .eq 5, 3, ([1342], .null)), (1341, .ireturn, 1, ([1], .null)), (1342, .goto 562, 3, ([1904], .null)), (1381, .ldc2_w 113, 3, ([], .long 4294967295)), (1386, .invokestatic 163, 3, ([114, 5, 0, 0], .null)), (1427, .ldc2_w 113, 3, ([], .long 4294967295)), (1432, .invokevirtual 166, 3, ([216, 5, 0, 10], .null)), (1436, .invokevirtual 110, 3, ([169, 1, 0, 10], .null)), (1441, .if_icmp .eq 5, 3, ([1446], .null)), (1445, .ireturn, 1, ([1], .null)), (1446, .goto 458, 3, ([1904], .null)), (1462, .ifCond .eq 7, 3, ([1469], .null)), (1466, .goto 4, 3, ([1470], .null)), (1483, .ldc2_w 167, 3, ([], .double 4593671619917905920)), (1487, .invokestatic 169, 3, ([118, 5, 0, 0], .null)), (1505, .ifCond .eq 7, 3, ([1512], .null)), (1509, .goto 4, 3, ([1513], .null)), (1526, .ldc2_w 167, 3, ([], .double 4593671619917905920)), (1530, .invokevirtual 172, 3, ([218, 5, 0, 10], .null)), (1534, .invokevirtual 110, 3, ([169, 1, 0, 10], .null)), (1539, .if_icmp .eq 5, 3, ([1544], .null)), (1543, .ireturn, 1, ([1], .null)), (1544, .goto 360, 3, ([1904], .null)), (1549, .invokestatic 173, 3, ([124, 2, 0, 0], .null)), (1555, .invokevirtual 176, 3, ([220, 1, 0, 10], .null)), (1561, .invokevirtual 110, 3, ([169, 1, 0, 10], .null)), (1566, .if_icmp .eq 5, 3, ([1571], .null)), (1570, .ireturn, 1, ([1], .null)), (1573, .ifCond .ne 15, 3, ([1588], .null)), (1583, .ifCond .eq 5, 3, ([1588], .null)), (1587, .ireturn, 1, ([1], .null)), (1588, .goto 316, 3, ([1904], .null)), (1599, .invokestatic 177, 3, ([137, 3, 0, 0], .null)), (1611, .invokevirtual 179, 3, ([224, 2, 0, 10], .null)), (1617, .invokevirtual 110, 3, ([169, 1, 0, 10], .null)), (1622, .if_icmp .eq 5, 3, ([1627], .null)), (1626, .ireturn, 1, ([1], .null)), (1629, .ifCond .ne 15, 3, ([1644], .null)), (1639, .ifCond .eq 5, 3, ([1644], .null)), (1643, .ireturn, 1, ([1], .null)), (1644, .goto 260, 3, ([1904], .null)), (1665, .ldc2_w 113, 3, ([], .long 4294967295)), (1677, .invokestatic 180, 3, ([139, 4, 0, 0], .null)), (1700, .ldc2_w 113, 3, ([], .long 4294967295)), (1711, .invokevirtual 183, 3, ([225, 3, 0, 10], .null)), (1717, .invokevirtual 110, 3, ([169, 1, 0, 10], .null)), (1722, .if_icmp .eq 5, 3, ([1727], .null)), (1726, .ireturn, 1, ([1], .null)), (1729, .ifCond .ne 15, 3, ([1744], .null)), (1739, .ifCond .eq 5, 3, ([1744], .null)), (1743, .ireturn, 1, ([1], .null)), (1744, .goto 160, 3, ([1904], .null)), (1748, .invokevirtual 184, 3, ([9, 1, 0, 1], .null)), (1752, .invokevirtual 187, 3, ([226, 1, 0, 10], .null)), (1755, .if_icmp .eq 149, 3, ([1904], .null)), (1759, .ireturn, 1, ([1], .null)), (1762, .invokestatic 188, 3, ([141, 2, 0, 0], .null)), (1768, .invokevirtual 190, 3, ([227, 1, 0, 10], .null)), (1774, .invokevirtual 110, 3, ([169, 1, 0, 10], .null)), (1779, .if_icmp .eq 5, 3, ([1784], .null)), (1783, .ireturn, 1, ([1], .null)), (1786, .ifCond .ne 15, 3, ([1801], .null)), (1796, .ifCond .eq 5, 3, ([1801], .null)), (1800, .ireturn, 1, ([1], .null)), (1801, .goto 103, 3, ([1904], .null)), (1806, .invokestatic 191, 3, ([150, 2, 0, 0], .null)), (1812, .invokevirtual 193, 3, ([231, 1, 0, 10], .null)), (1818, .invokevirtual 110, 3, ([169, 1, 0, 10], .null)), (1823, .if_icmp .eq 5, 3, ([1828], .null)), (1827, .ireturn, 1, ([1], .null)), (1830, .ifCond .ne 15, 3, ([1845], .null)), (1840, .ifCond .eq 5, 3, ([1845], .null)), (1844, .ireturn, 1, ([1], .null)), (1845, .goto 59, 3, ([1904], .null)), (1856, .invokestatic 194, 3, ([166, 3, 0, 0], .null)), (1868, .invokevirtual 196, 3, ([237, 2, 0, 10], .null)), (1874, .invokevirtual 110, 3, ([169, 1, 0, 10], .null)), (1879, .if_icmp .eq 5, 3, ([1884], .null)), (1883, .ireturn, 1, ([1], .null)), (1886, .ifCond .ne 15, 3, ([1901], .null)), (1896, .ifCond .eq 5, 3, ([1901], .null)), (1900, .ireturn, 1, ([1], .null)), (1901, .goto 3, 3, ([1904], .null)), (1907, .goto (-1879), 3, ([28], .null)), (1911, .ireturn, 1, ([1], .null))]) (by decide +kernel) ?_)
  refine pk_c (pk_0 (Or.inr rfl) (Or.inr ⟨0, rfl, ln_L_8⟩) (Or.inr rfl)) ?_
  refine pk_c (pk_4 lm_L_100) ?_
  refine pk_c (pk_0 (Or.inr rfl) (Or.inr ⟨9, rfl, ln_L_101⟩) (Or.inr rfl)) ?_
  refine pk_c (pk_4 lm_L_103) ?_
  refine pk_c (pk_0 (Or.inr rfl) ⟨1, rfl, rfl, w_69, by decide⟩ (Or.inr rfl)) ?_
  refine pk_c (pk_0 (Or.inr rfl) ⟨4, rfl, rfl, w_1410, by decide⟩ (Or.inr rfl)) ?_
  refine pk_c (pk_0 (Or.inr rfl) ⟨1910, rfl, by decide⟩ (Or.inr rfl)) ?_
  refine pk_c (pk_0 (Or.inl rfl) ⟨1904, _, rfl, by decide, by decide, by decide, pk_t (by decide +kernel)⟩ (Or.inr rfl)) ?_
  refine pk_c (pk_4 lm_L_104) ?_
  refine pk_c (pk_4 lm_L_109) ?_
  refine pk_c (pk_4 lm_L_110) ?_
  refine pk_c (pk_0 (Or.inr rfl) ⟨233, rfl, by decide⟩ (Or.inr rfl)) ?_
  refine pk_c (pk_2 rfl (Or.inr ⟨rfl, rfl⟩)) ?_
  refine pk_c (pk_0 (Or.inr rfl) ⟨1904, rfl, by decide⟩ (Or.inr rfl)) ?_
  refine pk_c (pk_0 (Or.inr rfl) w_1408 (Or.inr rfl)) ?_
  refine pk_c (pk_4 lm_L_115) ?_
  refine pk_c (pk_0 (Or.inr rfl) w_1408 (Or.inr rfl)) ?_
  refine pk_c (pk_4 lm_L_118) ?_
  refine pk_c (pk_4 lm_L_110) ?_
  refine pk_c (pk_0 (Or.inr rfl) ⟨328, rfl, by decide⟩ (Or.inr rfl)) ?_
  refine pk_c (pk_2 rfl (Or.inr ⟨rfl, rfl⟩)) ?_
  refine pk_c (pk_0 (Or.inr rfl) ⟨344, rfl, by decide⟩ (Or.inr rfl)) ?_
  refine pk_c (pk_0 (Or.inr rfl) ⟨344, rfl, by decide⟩ (Or.inr rfl)) ?_
  refine pk_c (pk_2 rfl (Or.inr ⟨rfl, rfl⟩)) ?_
  refine pk_c (pk_0 (Or.inr rfl) ⟨1904, rfl, by decide⟩ (Or.inr rfl)) ?_
  refine pk_c (pk_4 lm_L_119) ?_
  refine pk_c (pk_4 lm_L_122) ?_
  refine pk_c (pk_4 lm_L_110) ?_
  refine pk_c (pk_0 (Or.inr rfl) ⟨395, rfl, by decide⟩ (Or.inr rfl)) ?_
  refine pk_c (pk_2 rfl (Or.inr ⟨rfl, rfl⟩)) ?_
  refine pk_c (pk_0 (Or.inr rfl) ⟨411, rfl, by decide⟩ (Or.inr rfl)) ?_
  refine pk_c (pk_0 (Or.inr rfl) ⟨411, rfl, by decide⟩ (Or.inr rfl)) ?_
  refine pk_c (pk_2 rfl (Or.inr ⟨rfl, rfl⟩)) ?_
  refine pk_c (pk_0 (Or.inr rfl) ⟨1904, rfl, by decide⟩ (Or.inr rfl)) ?_
  refine pk_c (pk_4 lm_L_123) ?_
  refine pk_c (pk_4 lm_L_126) ?_
  refine pk_c (pk_4 lm_L_110) ?_
  refine pk_c (pk_0 (Or.inr rfl) ⟨450, rfl, by decide⟩ (Or.inr rfl)) ?_
  refine pk_c (pk_2 rfl (Or.inr ⟨rfl, rfl⟩)) ?_
  refine pk_c (pk_0 (Or.inr rfl) ⟨467, rfl, by decide⟩ (Or.inr rfl)) ?_
  refine pk_c (pk_0 (Or.inr rfl) ⟨467, rfl, by decide⟩ (Or.inr rfl)) ?_
  refine pk_c (pk_2 rfl (Or.inr ⟨rfl, rfl⟩)) ?_
  refine pk_c (pk_0 (Or.inr rfl) ⟨1904, rfl, by decide⟩ (Or.inr rfl)) ?_
  refine pk_c (pk_4 lm_L_127) ?_
  refine pk_c (pk_4 lm_L_129) ?_
  refine pk_c (pk_4 lm_L_110) ?_
  refine pk_c (pk_0 (Or.inr rfl) ⟨518, rfl, by decide⟩ (Or.inr rfl)) ?_
  refine pk_c (pk_2 rfl (Or.inr ⟨rfl, rfl⟩)) ?_
  refine pk_c (pk_0 (Or.inr rfl) ⟨535, rfl, by decide⟩ (Or.inr rfl)) ?_
  refine pk_c (pk_0 (Or.inr rfl) ⟨535, rfl, by decide⟩ (Or.inr rfl)) ?_
  refine pk_c (pk_2 rfl (Or.inr ⟨rfl, rfl⟩)) ?_
  refine pk_c (pk_0 (Or.inr rfl) ⟨1904, rfl, by decide⟩ (Or.inr rfl)) ?_
  refine pk_c (pk_4 lm_L_130) ?_
  refine pk_c (pk_4 lm_L_133) ?_
  refine pk_c (pk_4 lm_L_110) ?_
  refine pk_c (pk_0 (Or.inr rfl) ⟨598, rfl, by decide⟩ (Or.inr rfl)) ?_
  refine pk_c (pk_2 rfl (Or.inr ⟨rfl, rfl⟩)) ?_
  refine pk_c (pk_0 (Or.inr rfl) ⟨615, rfl, by decide⟩ (Or.inr rfl)) ?_
  refine pk_c (pk_0 (Or.inr rfl) ⟨615, rfl, by decide⟩ (Or.inr rfl)) ?_
  refine pk_c (pk_2 rfl (Or.inr ⟨rfl, rfl⟩)) ?_
  refine pk_c (pk_0 (Or.inr rfl) ⟨1904, rfl, by decide⟩ (Or.inr rfl)) ?_
  refine pk_c (pk_4 lm_L_134) ?_
  refine pk_c (pk_4 lm_L_136) ?_
  refine pk_c (pk_4 lm_L_110) ?_
  refine pk_c (pk_0 (Or.inr rfl) ⟨678, rfl, by decide⟩ (Or.inr rfl)) ?_
  refine pk_c (pk_2 rfl (Or.inr ⟨rfl, rfl⟩)) ?_
  refine pk_c (pk_0 (Or.inr rfl) ⟨695, rfl, by decide⟩ (Or.inr rfl)) ?_
  refine pk_c (pk_0 (Or.inr rfl) ⟨695, rfl, by decide⟩ (Or.inr rfl)) ?_
  refine pk_c (pk_2 rfl (Or.inr ⟨rfl, rfl⟩)) ?_
  refine pk_c (pk_0 (Or.inr rfl) ⟨1904, rfl, by decide⟩ (Or.inr rfl)) ?_
  refine pk_c (pk_0 (Or.inr rfl) w_1408 (Or.inr rfl)) ?_
  refine pk_c (pk_4 lm_L_137) ?_
  refine pk_c (pk_0 (Or.inr rfl) w_1408 (Or.inr rfl)) ?_
  refine pk_c (pk_4 lm_L_140) ?_
  refine pk_c (pk_4 lm_L_110) ?_
  refine pk_c (pk_0 (Or.inr rfl) ⟨802, rfl, by decide⟩ (Or.inr rfl)) ?_
  refine pk_c (pk_2 rfl (Or.inr ⟨rfl, rfl⟩)) ?_
  refine pk_c (pk_0 (Or.inr rfl) ⟨818, rfl, by decide⟩ (Or.inr rfl)) ?_
  refine pk_c (pk_0 (Or.inr rfl) ⟨818, rfl, by decide⟩ (Or.inr rfl)) ?_
  refine pk_c (pk_2 rfl (Or.inr ⟨rfl, rfl⟩)) ?_
  refine pk_c (pk_0 (Or.inr rfl) ⟨1904, rfl, by decide⟩ (Or.inr rfl)) ?_
  refine pk_c (pk_0 (Or.inr rfl) ⟨841, rfl, by decide⟩ (Or.inr rfl)) ?_
  refine pk_c (pk_0 (Or.inr rfl) ⟨842, rfl, by decide⟩ (Or.inr rfl)) ?_
  refine pk_c (pk_4 lm_L_141) ?_
  refine pk_c (pk_0 (Or.inr rfl) ⟨875, rfl, by decide⟩ (Or.inr rfl)) ?_
  refine pk_c (pk_0 (Or.inr rfl) ⟨876, rfl, by decide⟩ (Or.inr rfl)) ?_
  refine pk_c (pk_4 lm_L_144) ?_
  refine pk_c (pk_4 lm_L_110) ?_
  refine pk_c (pk_0 (Or.inr rfl) ⟨898, rfl, by decide⟩ (Or.inr rfl)) ?_
  refine pk_c (pk_2 rfl (Or.inr ⟨rfl, rfl⟩)) ?_
  refine pk_c (pk_0 (Or.inr rfl) ⟨935, rfl, by decide⟩ (Or.inr rfl)) ?_
  refine pk_c (pk_0 (Or.inr rfl) ⟨935, rfl, by decide⟩ (Or.inr rfl)) ?_
  refine pk_c (pk_0 (Or.inr rfl) ⟨933, rfl, by decide⟩ (Or.inr rfl)) ?_
  refine pk_c (pk_0 (Or.inr rfl) ⟨935, rfl, by decide⟩ (Or.inr rfl)) ?_
  refine pk_c (pk_2 rfl (Or.inr ⟨rfl, rfl⟩)) ?_
  refine pk_c (pk_0 (Or.inr rfl) ⟨1904, rfl, by decide⟩ (Or.inr rfl)) ?_
  refine pk_c (pk_4 lm_L_145) ?_
  refine pk_c (pk_4 lm_L_147) ?_
  refine pk_c (pk_4 lm_L_110) ?_
  refine pk_c (pk_0 (Or.inr rfl) ⟨986, rfl, by decide⟩ (Or.inr rfl)) ?_
  refine pk_c (pk_2 rfl (Or.inr ⟨rfl, rfl⟩)) ?_
  refine pk_c (pk_0 (Or.inr rfl) ⟨1002, rfl, by decide⟩ (Or.inr rfl)) ?_
  refine pk_c (pk_0 (Or.inr rfl) ⟨1002, rfl, by decide⟩ (Or.inr rfl)) ?_
  refine pk_c (pk_2 rfl (Or.inr ⟨rfl, rfl⟩)) ?_
  refine pk_c (pk_0 (Or.inr rfl) ⟨1904, rfl, by decide⟩ (Or.inr rfl)) ?_
  refine pk_c (pk_4 lm_L_148) ?_
  refine pk_c (pk_4 lm_L_150) ?_
  refine pk_c (pk_4 lm_L_110) ?_
  refine pk_c (pk_0 (Or.inr rfl) ⟨1053, rfl, by decide⟩ (Or.inr rfl)) ?_
  refine pk_c (pk_2 rfl (Or.inr ⟨rfl, rfl⟩)) ?_
  refine pk_c (pk_0 (Or.inr rfl) ⟨1070, rfl, by decide⟩ (Or.inr rfl)) ?_
  refine pk_c (pk_0 (Or.inr rfl) ⟨1070, rfl, by decide⟩ (Or.inr rfl)) ?_
  refine pk_c (pk_2 rfl (Or.inr ⟨rfl, rfl⟩)) ?_
  refine pk_c (pk_0 (Or.inr rfl) ⟨1904, rfl, by decide⟩ (Or.inr rfl)) ?_
  refine pk_c (pk_4 lm_L_151) ?_
  refine pk_c (pk_4 lm_L_154) ?_
  refine pk_c (pk_4 lm_L_110) ?_
  refine pk_c (pk_0 (Or.inr rfl) ⟨1106, rfl, by decide⟩ (Or.inr rfl)) ?_
  refine pk_c (pk_2 rfl (Or.inr ⟨rfl, rfl⟩)) ?_
  refine pk_c (pk_0 (Or.inr rfl) ⟨1904, rfl, by decide⟩ (Or.inr rfl)) ?_
  refine pk_c (pk_4 lm_L_155) ?_
  refine pk_c (pk_4 lm_L_158) ?_
  refine pk_c (pk_4 lm_L_110) ?_
  refine pk_c (pk_0 (Or.inr rfl) ⟨1193, rfl, by decide⟩ (Or.inr rfl)) ?_
  refine pk_c (pk_2 rfl (Or.inr ⟨rfl, rfl⟩)) ?_
  refine pk_c (pk_0 (Or.inr rfl) ⟨1210, rfl, by decide⟩ (Or.inr rfl)) ?_
  refine pk_c (pk_0 (Or.inr rfl) ⟨1210, rfl, by decide⟩ (Or.inr rfl)) ?_
  refine pk_c (pk_2 rfl (Or.inr ⟨rfl, rfl⟩)) ?_
  refine pk_c (pk_0 (Or.inr rfl) ⟨1904, rfl, by decide⟩ (Or.inr rfl)) ?_
  refine pk_c (pk_4 lm_L_159) ?_
  refine pk_c (pk_4 lm_L_162) ?_
  refine pk_c (pk_4 lm_L_110) ?_
  refine pk_c (pk_0 (Or.inr rfl) ⟨1325, rfl, by decide⟩ (Or.inr rfl)) ?_
  refine pk_c (pk_2 rfl (Or.inr ⟨rfl, rfl⟩)) ?_
  refine pk_c (pk_0 (Or.inr rfl) ⟨1342, rfl, by decide⟩ (Or.inr rfl)) ?_
  refine pk_c (pk_0 (Or.inr rfl) ⟨1342, rfl, by decide⟩ (Or.inr rfl)) ?_
  refine pk_c (pk_2 rfl (Or.inr ⟨rfl, rfl⟩)) ?_
  refine pk_c (pk_0 (Or.inr rfl) ⟨1904, rfl, by decide⟩ (Or.inr rfl)) ?_
  refine pk_c (pk_0 (Or.inr rfl) w_1408 (Or.inr rfl)) ?_
  refine pk_c (pk_4 lm_L_163) ?_
  refine pk_c (pk_0 (Or.inr rfl) w_1408 (Or.inr rfl)) ?_
  refine pk_c (pk_4 lm_L_166) ?_
  refine pk_c (pk_4 lm_L_110) ?_
  refine pk_c (pk_0 (Or.inr rfl) ⟨1446, rfl, by decide⟩ (Or.inr rfl)) ?_
  refine pk_c (pk_2 rfl (Or.inr ⟨rfl, rfl⟩)) ?_
  refine pk_c (pk_0 (Or.inr rfl) ⟨1904, rfl, by decide⟩ (Or.inr rfl)) ?_
  refine pk_c (pk_0 (Or.inr rfl) ⟨1469, rfl, by decide⟩ (Or.inr rfl)) ?_
  refine pk_c (pk_0 (Or.inr rfl) ⟨1470, rfl, by decide⟩ (Or.inr rfl)) ?_
  refine pk_c (pk_0 (Or.inr rfl) w_1409 (Or.inr rfl)) ?_
  refine pk_c (pk_4 lm_L_169) ?_
  refine pk_c (pk_0 (Or.inr rfl) ⟨1512, rfl, by decide⟩ (Or.inr rfl)) ?_
  refine pk_c (pk_0 (Or.inr rfl) ⟨1513, rfl, by decide⟩ (Or.inr rfl)) ?_
  refine pk_c (pk_0 (Or.inr rfl) w_1409 (Or.inr rfl)) ?_
  refine pk_c (pk_4 lm_L_172) ?_
  refine pk_c (pk_4 lm_L_110) ?_
  refine pk_c (pk_0 (Or.inr rfl) ⟨1544, rfl, by decide⟩ (Or.inr rfl)) ?_
  refine pk_c (pk_2 rfl (Or.inr ⟨rfl, rfl⟩)) ?_
  refine pk_c (pk_0 (Or.inr rfl) ⟨1904, rfl, by decide⟩ (Or.inr rfl)) ?_
  refine pk_c (pk_4 lm_L_173) ?_
  refine pk_c (pk_4 lm_L_176) ?_
  refine pk_c (pk_4 lm_L_110) ?_
  refine pk_c (pk_0 (Or.inr rfl) ⟨1571, rfl, by decide⟩ (Or.inr rfl)) ?_
  refine pk_c (pk_2 rfl (Or.inr ⟨rfl, rfl⟩)) ?_
  refine pk_c (pk_0 (Or.inr rfl) ⟨1588, rfl, by decide⟩ (Or.inr rfl)) ?_
  refine pk_c (pk_0 (Or.inr rfl) ⟨1588, rfl, by decide⟩ (Or.inr rfl)) ?_
  refine pk_c (pk_2 rfl (Or.inr ⟨rfl, rfl⟩)) ?_
  refine pk_c (pk_0 (Or.inr rfl) ⟨1904, rfl, by decide⟩ (Or.inr rfl)) ?_
  refine pk_c (pk_4 lm_L_177) ?_
  refine pk_c (pk_4 lm_L_179) ?_
  refine pk_c (pk_4 lm_L_110) ?_
  refine pk_c (pk_0 (Or.inr rfl) ⟨1627, rfl, by decide⟩ (Or.inr rfl)) ?_
  refine pk_c (pk_2 rfl (Or.inr ⟨rfl, rfl⟩)) ?_
  refine pk_c (pk_0 (Or.inr rfl) ⟨1644, rfl, by decide⟩ (Or.inr rfl)) ?_
  refine pk_c (pk_0 (Or.inr rfl) ⟨1644, rfl, by decide⟩ (Or.inr rfl)) ?_
  refine pk_c (pk_2 rfl (Or.inr ⟨rfl, rfl⟩)) ?_
  refine pk_c (pk_0 (Or.inr rfl) ⟨1904, rfl, by decide⟩ (Or.inr rfl)) ?_
  refine pk_c (pk_0 (Or.inr rfl) w_1408 (Or.inr rfl)) ?_
  refine pk_c (pk_4 lm_L_180) ?_
  refine pk_c (pk_0 (Or.inr rfl) w_1408 (Or.inr rfl)) ?_
  refine pk_c (pk_4 lm_L_183) ?_
  refine pk_c (pk_4 lm_L_110) ?_
  refine pk_c (pk_0 (Or.inr rfl) ⟨1727, rfl, by decide⟩ (Or.inr rfl)) ?_
  refine pk_c (pk_2 rfl (Or.inr ⟨rfl, rfl⟩)) ?_
  refine pk_c (pk_0 (Or.inr rfl) ⟨1744, rfl, by decide⟩ (Or.inr rfl)) ?_
  refine pk_c (pk_0 (Or.inr rfl) ⟨1744, rfl, by decide⟩ (Or.inr rfl)) ?_
  refine pk_c (pk_2 rfl (Or.inr ⟨rfl, rfl⟩)) ?_
  refine pk_c (pk_0 (Or.inr rfl) ⟨1904, rfl, by decide⟩ (Or.inr rfl)) ?_
  refine pk_c (pk_4 lm_L_184) ?_
  refine pk_c (pk_4 lm_L_187) ?_
  refine pk_c (pk_0 (Or.inr rfl) ⟨1904, rfl, by decide⟩ (Or.inr rfl)) ?_
  refine pk_c (pk_2 rfl (Or.inr ⟨rfl, rfl⟩)) ?_
  refine pk_c (pk_4 lm_L_188) ?_
  refine pk_c (pk_4 lm_L_190) ?_
  refine pk_c (pk_4 lm_L_110) ?_
  refine pk_c (pk_0 (Or.inr rfl) ⟨1784, rfl, by decide⟩ (Or.inr rfl)) ?_
  refine pk_c (pk_2 rfl (Or.inr ⟨rfl, rfl⟩)) ?_
  refine pk_c (pk_0 (Or.inr rfl) ⟨1801, rfl, by decide⟩ (Or.inr rfl)) ?_
  refine pk_c (pk_0 (Or.inr rfl) ⟨1801, rfl, by decide⟩ (Or.inr rfl)) ?_
  refine pk_c (pk_2 rfl (Or.inr ⟨rfl, rfl⟩)) ?_
  refine pk_c (pk_0 (Or.inr rfl) ⟨1904, rfl, by decide⟩ (Or.inr rfl)) ?_
  refine pk_c (pk_4 lm_L_191) ?_
  refine pk_c (pk_4 lm_L_193) ?_
  refine pk_c (pk_4 lm_L_110) ?_
  refine pk_c (pk_0 (Or.inr rfl) ⟨1828, rfl, by decide⟩ (Or.inr rfl)) ?_
  refine pk_c (pk_2 rfl (Or.inr ⟨rfl, rfl⟩)) ?_
  refine pk_c (pk_0 (Or.inr rfl) ⟨1845, rfl, by decide⟩ (Or.inr rfl)) ?_
  refine pk_c (pk_0 (Or.inr rfl) ⟨1845, rfl, by decide⟩ (Or.inr rfl)) ?_
  refine pk_c (pk_2 rfl (Or.inr ⟨rfl, rfl⟩)) ?_
  refine pk_c (pk_0 (Or.inr rfl) ⟨1904, rfl, by decide⟩ (Or.inr rfl)) ?_
  refine pk_c (pk_4 lm_L_194) ?_
  refine pk_c (pk_4 lm_L_196) ?_
  refine pk_c (pk_4 lm_L_110) ?_
  refine pk_c (pk_0 (Or.inr rfl) ⟨1884, rfl, by decide⟩ (Or.inr rfl)) ?_
  refine pk_c (pk_2 rfl (Or.inr ⟨rfl, rfl⟩)) ?_
  refine pk_c (pk_0 (Or.inr rfl) ⟨1901, rfl, by decide⟩ (Or.inr rfl)) ?_
  refine pk_c (pk_0 (Or.inr rfl) ⟨1901, rfl, by decide⟩ (Or.inr rfl)) ?_
  refine pk_c (pk_2 rfl (Or.inr ⟨rfl, rfl⟩)) ?_
  refine pk_c (pk_0 (Or.inr rfl) ⟨1904, rfl, by decide⟩ (Or.inr rfl)) ?_
  refine pk_c (pk_0 (Or.inr rfl) ⟨28, rfl, by decide⟩ (Or.inr rfl)) ?_
  refine pk_c (pk_2 rfl (Or.inr ⟨rfl, rfl⟩)) ?_
  exact pk_n
