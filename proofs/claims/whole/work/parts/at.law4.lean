def lc_pack : List (Nat × Instr × Nat × pm_L) := [(1547, .aload_n 1, 1, ([], .null)), (1548, .aload_n 3, 1, ([], .null)), (1549, .invokestatic 173, 3, ([124, 2, 0, 0], .null)), (1552, .istore 6, 2, ([], .null)), (1554, .aload_n 2, 1, ([], .null)), (1555, .invokevirtual 176, 3, ([220, 1, 0, 10], .null)), (1558, .istore 7, 2, ([], .null)), (1560, .aload_n 2, 1, ([], .null)), (1561, .invokevirtual 110, 3, ([169, 1, 0, 10], .null)), (1564, .iload 6, 2, ([], .null)), (1566, .if_icmp .eq 5, 3, ([1571], .null)), (1569, .iconst 0, 1, ([], .null)), (1570, .ireturn, 1, ([1], .null)), (1571, .iload 6, 2, ([], .null)), (1573, .ifCond .ne 15, 3, ([1588], .null)), (1576, .aload_n 3, 1, ([], .null)), (1577, .iconst 0, 1, ([], .null)), (1578, .laload, 1, ([], .null)), (1579, .iload 7, 2, ([], .null)), (1581, .i2l, 1, ([], .null)), (1582, .lcmp, 1, ([], .null)), (1583, .ifCond .eq 5, 3, ([1588], .null)), (1586, .iconst 0, 1, ([], .null)), (1587, .ireturn, 1, ([1], .null)), (1588, .goto 316, 3, ([1904], .null))]
theorem ls_pack : pm_sub lc_pack kc_L_law := pm_sub_of (by decide +kernel)
theorem lw_pack {X : pm_X} {n : Nat} {xs : Nat → Int32} (h0 : X 0 = (n, xs)) (hX : X 1 = (8, eb)) {d : Nat} {i : Int32} (hi : lw_in i n) {a b e : Option Value} {c k : Nat} {I : st_I} {J : st_J} (h : RR I J) : lw_S X d 1547 i a b e c k I J := by
  obtain ⟨q0, q1, q2, q3, q4, q5, q6, q7⟩ := hi
  obtain ⟨I1, J1, kk, cc, ks, e1, n1, n2, I2, J2, v, e2, e3, e4, hR⟩ := s_pack (X := X) (d := d + 66)  h
  refine ⟨I2, J2, some (.int kk), some (.int v), e, c + cc, k + ks, hR, by omega, by omega, fun r g => ?_⟩
  refine (t_pS ls_pack (pc' := 1549) (ls' := [some (.retAddr 0), some (.ref 0), some (.ref 166), some (.ref 187), some (.ref 188), some (.int i), a, b, e]) (st' := [.ref 187, .ref 0]) 2 rfl).mpr ?_
  refine (t_cS (ls_pack _ _ rfl) rfl rfl (Ex_of e1)).mpr ?_
  show Gx X (d + 72) (kc_L_law, []) (1552, [some (.retAddr 0), some (.ref 0), some (.ref 166), some (.ref 187), some (.ref 188), some (.int i), a, b, e], [.int kk], st_h I1 J1, c + cc, k + ks) r
  refine (t_pS ls_pack (pc' := 1555) (ls' := [some (.retAddr 0), some (.ref 0), some (.ref 166), some (.ref 187), some (.ref 188), some (.int i), some (.int kk), b, e]) (st' := [.ref 166]) 2 rfl).mpr ?_
  refine (t_cV (ls_pack _ _ rfl) rfl rfl rfl (Ex_of e2)).mpr ?_
  show Gx X (d + 72) (kc_L_law, []) (1558, [some (.retAddr 0), some (.ref 0), some (.ref 166), some (.ref 187), some (.ref 188), some (.int i), some (.int kk), b, e], [.int v], st_h I2 J2, c + cc, k + ks) r
  refine (t_pS ls_pack (pc' := 1561) (ls' := [some (.retAddr 0), some (.ref 0), some (.ref 166), some (.ref 187), some (.ref 188), some (.int i), some (.int kk), some (.int v), e]) (st' := [.ref 166]) 2 rfl).mpr ?_
  refine (t_cV (ls_pack _ _ rfl) rfl rfl rfl (ev_M_thrown (d := d + 71))).mpr ?_
  show Gx X (d + 72) (kc_L_law, []) (1564, [some (.retAddr 0), some (.ref 0), some (.ref 166), some (.ref 187), some (.ref 188), some (.int i), some (.int kk), some (.int v), e], [.int (I2 166 10)], st_h I2 J2, c + cc, k + ks) r
  refine (t_pS ls_pack (pc' := 1566) (ls' := [some (.retAddr 0), some (.ref 0), some (.ref 166), some (.ref 187), some (.ref 188), some (.int i), some (.int kk), some (.int v), e]) (st' := [.int kk, .int (I2 166 10)]) 1 rfl).mpr ?_
  refine (t_ieq (ls_pack _ _ rfl)).mpr ?_
  rw [if_pos e3]
  refine (t_pS ls_pack (pc' := 1573) (ls' := [some (.retAddr 0), some (.ref 0), some (.ref 166), some (.ref 187), some (.ref 188), some (.int i), some (.int kk), some (.int v), e]) (st' := [.int kk]) 1 rfl).mpr ?_
  refine (t_fne (ls_pack _ _ rfl)).mpr ?_
  by_cases hk : kk = 0
  rotate_left
  · rw [if_neg hk]
    refine (t_pS ls_pack (pc' := 1904) (ls' := [some (.retAddr 0), some (.ref 0), some (.ref 166), some (.ref 187), some (.ref 188), some (.int i), some (.int kk), some (.int v), e]) (st' := []) 1 rfl).mpr ?_
    exact g
  rw [if_pos hk]
  refine (t_pS ls_pack (pc' := 1578) (ls' := [some (.retAddr 0), some (.ref 0), some (.ref 166), some (.ref 187), some (.ref 188), some (.int i), some (.int kk), some (.int v), e]) (st' := [.int (0 : Int32), .ref 187]) 2 rfl).mpr ?_
  refine (t_lJ (ls_pack _ _ rfl) rfl).mpr ⟨rfl, ?_⟩
  refine (t_pS ls_pack (pc' := 1583) (ls' := [some (.retAddr 0), some (.ref 0), some (.ref 166), some (.ref 187), some (.ref 188), some (.int i), some (.int kk), some (.int v), e]) (st' := [.int (lg_cmp (J2 187 0) (Int32.toInt64 v))]) 3 rfl).mpr ?_
  refine (t_Leq (ls_pack _ _ rfl)).mpr ?_
  rw [if_pos (e4 hk)]
  refine (t_pS ls_pack (pc' := 1904) (ls' := [some (.retAddr 0), some (.ref 0), some (.ref 166), some (.ref 187), some (.ref 188), some (.int i), some (.int kk), some (.int v), e]) (st' := []) 1 rfl).mpr ?_
  exact g
def lc_octet : List (Nat × Instr × Nat × pm_L) := [(1591, .aload_n 1, 1, ([], .null)), (1592, .aload_n 0, 1, ([], .null)), (1593, .iload 5, 2, ([], .null)), (1595, .iconst 1, 1, ([], .null)), (1596, .iadd, 1, ([], .null)), (1597, .iaload, 1, ([], .null)), (1598, .aload_n 3, 1, ([], .null)), (1599, .invokestatic 177, 3, ([137, 3, 0, 0], .null)), (1602, .istore 6, 2, ([], .null)), (1604, .aload_n 2, 1, ([], .null)), (1605, .aload_n 0, 1, ([], .null)), (1606, .iload 5, 2, ([], .null)), (1608, .iconst 1, 1, ([], .null)), (1609, .iadd, 1, ([], .null)), (1610, .iaload, 1, ([], .null)), (1611, .invokevirtual 179, 3, ([224, 2, 0, 10], .null)), (1614, .istore 7, 2, ([], .null)), (1616, .aload_n 2, 1, ([], .null)), (1617, .invokevirtual 110, 3, ([169, 1, 0, 10], .null)), (1620, .iload 6, 2, ([], .null)), (1622, .if_icmp .eq 5, 3, ([1627], .null)), (1625, .iconst 0, 1, ([], .null)), (1626, .ireturn, 1, ([1], .null)), (1627, .iload 6, 2, ([], .null)), (1629, .ifCond .ne 15, 3, ([1644], .null)), (1632, .aload_n 3, 1, ([], .null)), (1633, .iconst 0, 1, ([], .null)), (1634, .laload, 1, ([], .null)), (1635, .iload 7, 2, ([], .null)), (1637, .i2l, 1, ([], .null)), (1638, .lcmp, 1, ([], .null)), (1639, .ifCond .eq 5, 3, ([1644], .null)), (1642, .iconst 0, 1, ([], .null)), (1643, .ireturn, 1, ([1], .null)), (1644, .goto 260, 3, ([1904], .null))]
theorem ls_octet : pm_sub lc_octet kc_L_law := pm_sub_of (by decide +kernel)
theorem lw_octet {X : pm_X} {n : Nat} {xs : Nat → Int32} (h0 : X 0 = (n, xs)) (hX : X 1 = (8, eb)) {d : Nat} {i : Int32} (hi : lw_in i n) {a b e : Option Value} {c k : Nat} {I : st_I} {J : st_J} (h : RR I J) : lw_S X d 1591 i a b e c k I J := by
  obtain ⟨q0, q1, q2, q3, q4, q5, q6, q7⟩ := hi
  obtain ⟨I1, J1, kk, cc, ks, e1, n1, n2, I2, J2, v, e2, e3, e4, hR⟩ := s_octet (X := X) (d := d + 69) (p1 := (xs (Int32.toNatClampNeg (i + (1 : Int32))))) h
  refine ⟨I2, J2, some (.int kk), some (.int v), e, c + cc, k + ks, hR, by omega, by omega, fun r g => ?_⟩
  refine (t_pS ls_octet (pc' := 1597) (ls' := [some (.retAddr 0), some (.ref 0), some (.ref 166), some (.ref 187), some (.ref 188), some (.int i), a, b, e]) (st' := [.int (i + (1 : Int32)), .retAddr 0, .ref 0]) 5 rfl).mpr ?_
  refine (t_lX (ls_octet _ _ rfl) rfl h0).mpr ⟨q1, ?_⟩
  refine (t_pS ls_octet (pc' := 1599) (ls' := [some (.retAddr 0), some (.ref 0), some (.ref 166), some (.ref 187), some (.ref 188), some (.int i), a, b, e]) (st' := [.ref 187, .int (xs (Int32.toNatClampNeg (i + (1 : Int32)))), .ref 0]) 1 rfl).mpr ?_
  refine (t_cS (ls_octet _ _ rfl) rfl rfl (Ex_of e1)).mpr ?_
  show Gx X (d + 72) (kc_L_law, []) (1602, [some (.retAddr 0), some (.ref 0), some (.ref 166), some (.ref 187), some (.ref 188), some (.int i), a, b, e], [.int kk], st_h I1 J1, c + cc, k + ks) r
  refine (t_pS ls_octet (pc' := 1610) (ls' := [some (.retAddr 0), some (.ref 0), some (.ref 166), some (.ref 187), some (.ref 188), some (.int i), some (.int kk), b, e]) (st' := [.int (i + (1 : Int32)), .retAddr 0, .ref 166]) 6 rfl).mpr ?_
  refine (t_lX (ls_octet _ _ rfl) rfl h0).mpr ⟨q1, ?_⟩
  refine (t_cV (ls_octet _ _ rfl) rfl rfl rfl (Ex_of e2)).mpr ?_
  show Gx X (d + 72) (kc_L_law, []) (1614, [some (.retAddr 0), some (.ref 0), some (.ref 166), some (.ref 187), some (.ref 188), some (.int i), some (.int kk), b, e], [.int v], st_h I2 J2, c + cc, k + ks) r
  refine (t_pS ls_octet (pc' := 1617) (ls' := [some (.retAddr 0), some (.ref 0), some (.ref 166), some (.ref 187), some (.ref 188), some (.int i), some (.int kk), some (.int v), e]) (st' := [.ref 166]) 2 rfl).mpr ?_
  refine (t_cV (ls_octet _ _ rfl) rfl rfl rfl (ev_M_thrown (d := d + 71))).mpr ?_
  show Gx X (d + 72) (kc_L_law, []) (1620, [some (.retAddr 0), some (.ref 0), some (.ref 166), some (.ref 187), some (.ref 188), some (.int i), some (.int kk), some (.int v), e], [.int (I2 166 10)], st_h I2 J2, c + cc, k + ks) r
  refine (t_pS ls_octet (pc' := 1622) (ls' := [some (.retAddr 0), some (.ref 0), some (.ref 166), some (.ref 187), some (.ref 188), some (.int i), some (.int kk), some (.int v), e]) (st' := [.int kk, .int (I2 166 10)]) 1 rfl).mpr ?_
  refine (t_ieq (ls_octet _ _ rfl)).mpr ?_
  rw [if_pos e3]
  refine (t_pS ls_octet (pc' := 1629) (ls' := [some (.retAddr 0), some (.ref 0), some (.ref 166), some (.ref 187), some (.ref 188), some (.int i), some (.int kk), some (.int v), e]) (st' := [.int kk]) 1 rfl).mpr ?_
  refine (t_fne (ls_octet _ _ rfl)).mpr ?_
  by_cases hk : kk = 0
  rotate_left
  · rw [if_neg hk]
    refine (t_pS ls_octet (pc' := 1904) (ls' := [some (.retAddr 0), some (.ref 0), some (.ref 166), some (.ref 187), some (.ref 188), some (.int i), some (.int kk), some (.int v), e]) (st' := []) 1 rfl).mpr ?_
    exact g
  rw [if_pos hk]
  refine (t_pS ls_octet (pc' := 1634) (ls' := [some (.retAddr 0), some (.ref 0), some (.ref 166), some (.ref 187), some (.ref 188), some (.int i), some (.int kk), some (.int v), e]) (st' := [.int (0 : Int32), .ref 187]) 2 rfl).mpr ?_
  refine (t_lJ (ls_octet _ _ rfl) rfl).mpr ⟨rfl, ?_⟩
  refine (t_pS ls_octet (pc' := 1639) (ls' := [some (.retAddr 0), some (.ref 0), some (.ref 166), some (.ref 187), some (.ref 188), some (.int i), some (.int kk), some (.int v), e]) (st' := [.int (lg_cmp (J2 187 0) (Int32.toInt64 v))]) 3 rfl).mpr ?_
  refine (t_Leq (ls_octet _ _ rfl)).mpr ?_
  rw [if_pos (e4 hk)]
  refine (t_pS ls_octet (pc' := 1904) (ls' := [some (.retAddr 0), some (.ref 0), some (.ref 166), some (.ref 187), some (.ref 188), some (.int i), some (.int kk), some (.int v), e]) (st' := []) 1 rfl).mpr ?_
  exact g
def lc_feed : List (Nat × Instr × Nat × pm_L) := [(1647, .aload_n 1, 1, ([], .null)), (1648, .aload_n 0, 1, ([], .null)), (1649, .iload 5, 2, ([], .null)), (1651, .iconst 1, 1, ([], .null)), (1652, .iadd, 1, ([], .null)), (1653, .iaload, 1, ([], .null)), (1654, .i2l, 1, ([], .null)), (1655, .bipush 32, 2, ([], .null)), (1657, .lshl, 1, ([], .null)), (1658, .aload_n 0, 1, ([], .null)), (1659, .iload 5, 2, ([], .null)), (1661, .iconst 2, 1, ([], .null)), (1662, .iadd, 1, ([], .null)), (1663, .iaload, 1, ([], .null)), (1664, .i2l, 1, ([], .null)), (1665, .ldc2_w 113, 3, ([], .long 4294967295)), (1668, .land, 1, ([], .null)), (1669, .lor, 1, ([], .null)), (1670, .aload_n 0, 1, ([], .null)), (1671, .iload 5, 2, ([], .null)), (1673, .iconst 3, 1, ([], .null)), (1674, .iadd, 1, ([], .null)), (1675, .iaload, 1, ([], .null)), (1676, .aload_n 3, 1, ([], .null)), (1677, .invokestatic 180, 3, ([139, 4, 0, 0], .null)), (1680, .istore 6, 2, ([], .null)), (1682, .aload_n 2, 1, ([], .null)), (1683, .aload_n 0, 1, ([], .null)), (1684, .iload 5, 2, ([], .null)), (1686, .iconst 1, 1, ([], .null)), (1687, .iadd, 1, ([], .null)), (1688, .iaload, 1, ([], .null)), (1689, .i2l, 1, ([], .null)), (1690, .bipush 32, 2, ([], .null)), (1692, .lshl, 1, ([], .null)), (1693, .aload_n 0, 1, ([], .null)), (1694, .iload 5, 2, ([], .null)), (1696, .iconst 2, 1, ([], .null)), (1697, .iadd, 1, ([], .null)), (1698, .iaload, 1, ([], .null)), (1699, .i2l, 1, ([], .null)), (1700, .ldc2_w 113, 3, ([], .long 4294967295)), (1703, .land, 1, ([], .null)), (1704, .lor, 1, ([], .null)), (1705, .aload_n 0, 1, ([], .null)), (1706, .iload 5, 2, ([], .null)), (1708, .iconst 3, 1, ([], .null)), (1709, .iadd, 1, ([], .null)), (1710, .iaload, 1, ([], .null)), (1711, .invokevirtual 183, 3, ([225, 3, 0, 10], .null)), (1714, .istore 7, 2, ([], .null)), (1716, .aload_n 2, 1, ([], .null)), (1717, .invokevirtual 110, 3, ([169, 1, 0, 10], .null)), (1720, .iload 6, 2, ([], .null)), (1722, .if_icmp .eq 5, 3, ([1727], .null)), (1725, .iconst 0, 1, ([], .null)), (1726, .ireturn, 1, ([1], .null)), (1727, .iload 6, 2, ([], .null)), (1729, .ifCond .ne 15, 3, ([1744], .null)), (1732, .aload_n 3, 1, ([], .null)), (1733, .iconst 0, 1, ([], .null)), (1734, .laload, 1, ([], .null)), (1735, .iload 7, 2, ([], .null)), (1737, .i2l, 1, ([], .null)), (1738, .lcmp, 1, ([], .null)), (1739, .ifCond .eq 5, 3, ([1744], .null)), (1742, .iconst 0, 1, ([], .null)), (1743, .ireturn, 1, ([1], .null)), (1744, .goto 160, 3, ([1904], .null))]
theorem ls_feed : pm_sub lc_feed kc_L_law := pm_sub_of (by decide +kernel)
theorem lw_feed {X : pm_X} {n : Nat} {xs : Nat → Int32} (h0 : X 0 = (n, xs)) (hX : X 1 = (8, eb)) {d : Nat} {i : Int32} (hi : lw_in i n) {a b e : Option Value} {c k : Nat} {I : st_I} {J : st_J} (h : RR I J) : lw_S X d 1647 i a b e c k I J := by
  obtain ⟨q0, q1, q2, q3, q4, q5, q6, q7⟩ := hi
  obtain ⟨I1, J1, kk, cc, ks, e1, n1, n2, I2, J2, v, e2, e3, e4, hR⟩ := s_feed (X := X) (d := d + 68) (p1 := ((lw_sh (Int32.toInt64 (xs (Int32.toNatClampNeg (i + (1 : Int32)))))) ||| ((Int32.toInt64 (xs (Int32.toNatClampNeg (i + (2 : Int32))))) &&& (4294967295 : Int64)))) (p2 := (xs (Int32.toNatClampNeg (i + (3 : Int32))))) h
  refine ⟨I2, J2, some (.int kk), some (.int v), e, c + cc, k + ks, hR, by omega, by omega, fun r g => ?_⟩
  refine (t_pS ls_feed (pc' := 1653) (ls' := [some (.retAddr 0), some (.ref 0), some (.ref 166), some (.ref 187), some (.ref 188), some (.int i), a, b, e]) (st' := [.int (i + (1 : Int32)), .retAddr 0, .ref 0]) 5 rfl).mpr ?_
  refine (t_lX (ls_feed _ _ rfl) rfl h0).mpr ⟨q1, ?_⟩
  refine (t_pS ls_feed (pc' := 1663) (ls' := [some (.retAddr 0), some (.ref 0), some (.ref 166), some (.ref 187), some (.ref 188), some (.int i), a, b, e]) (st' := [.int (i + (2 : Int32)), .retAddr 0, .long (lw_sh (Int32.toInt64 (xs (Int32.toNatClampNeg (i + (1 : Int32)))))), .ref 0]) 7 rfl).mpr ?_
  refine (t_lX (ls_feed _ _ rfl) rfl h0).mpr ⟨q2, ?_⟩
  refine (t_pS ls_feed (pc' := 1675) (ls' := [some (.retAddr 0), some (.ref 0), some (.ref 166), some (.ref 187), some (.ref 188), some (.int i), a, b, e]) (st' := [.int (i + (3 : Int32)), .retAddr 0, .long ((lw_sh (Int32.toInt64 (xs (Int32.toNatClampNeg (i + (1 : Int32)))))) ||| ((Int32.toInt64 (xs (Int32.toNatClampNeg (i + (2 : Int32))))) &&& (4294967295 : Int64))), .ref 0]) 8 rfl).mpr ?_
  refine (t_lX (ls_feed _ _ rfl) rfl h0).mpr ⟨q3, ?_⟩
  refine (t_pS ls_feed (pc' := 1677) (ls' := [some (.retAddr 0), some (.ref 0), some (.ref 166), some (.ref 187), some (.ref 188), some (.int i), a, b, e]) (st' := [.ref 187, .int (xs (Int32.toNatClampNeg (i + (3 : Int32)))), .long ((lw_sh (Int32.toInt64 (xs (Int32.toNatClampNeg (i + (1 : Int32)))))) ||| ((Int32.toInt64 (xs (Int32.toNatClampNeg (i + (2 : Int32))))) &&& (4294967295 : Int64))), .ref 0]) 1 rfl).mpr ?_
  refine (t_cS (ls_feed _ _ rfl) rfl rfl (Ex_of e1)).mpr ?_
  show Gx X (d + 72) (kc_L_law, []) (1680, [some (.retAddr 0), some (.ref 0), some (.ref 166), some (.ref 187), some (.ref 188), some (.int i), a, b, e], [.int kk], st_h I1 J1, c + cc, k + ks) r
  refine (t_pS ls_feed (pc' := 1688) (ls' := [some (.retAddr 0), some (.ref 0), some (.ref 166), some (.ref 187), some (.ref 188), some (.int i), some (.int kk), b, e]) (st' := [.int (i + (1 : Int32)), .retAddr 0, .ref 166]) 6 rfl).mpr ?_
  refine (t_lX (ls_feed _ _ rfl) rfl h0).mpr ⟨q1, ?_⟩
  refine (t_pS ls_feed (pc' := 1698) (ls' := [some (.retAddr 0), some (.ref 0), some (.ref 166), some (.ref 187), some (.ref 188), some (.int i), some (.int kk), b, e]) (st' := [.int (i + (2 : Int32)), .retAddr 0, .long (lw_sh (Int32.toInt64 (xs (Int32.toNatClampNeg (i + (1 : Int32)))))), .ref 166]) 7 rfl).mpr ?_
  refine (t_lX (ls_feed _ _ rfl) rfl h0).mpr ⟨q2, ?_⟩
  refine (t_pS ls_feed (pc' := 1710) (ls' := [some (.retAddr 0), some (.ref 0), some (.ref 166), some (.ref 187), some (.ref 188), some (.int i), some (.int kk), b, e]) (st' := [.int (i + (3 : Int32)), .retAddr 0, .long ((lw_sh (Int32.toInt64 (xs (Int32.toNatClampNeg (i + (1 : Int32)))))) ||| ((Int32.toInt64 (xs (Int32.toNatClampNeg (i + (2 : Int32))))) &&& (4294967295 : Int64))), .ref 166]) 8 rfl).mpr ?_
  refine (t_lX (ls_feed _ _ rfl) rfl h0).mpr ⟨q3, ?_⟩
  refine (t_cV (ls_feed _ _ rfl) rfl rfl rfl (Ex_of e2)).mpr ?_
  show Gx X (d + 72) (kc_L_law, []) (1714, [some (.retAddr 0), some (.ref 0), some (.ref 166), some (.ref 187), some (.ref 188), some (.int i), some (.int kk), b, e], [.int v], st_h I2 J2, c + cc, k + ks) r
  refine (t_pS ls_feed (pc' := 1717) (ls' := [some (.retAddr 0), some (.ref 0), some (.ref 166), some (.ref 187), some (.ref 188), some (.int i), some (.int kk), some (.int v), e]) (st' := [.ref 166]) 2 rfl).mpr ?_
  refine (t_cV (ls_feed _ _ rfl) rfl rfl rfl (ev_M_thrown (d := d + 71))).mpr ?_
  show Gx X (d + 72) (kc_L_law, []) (1720, [some (.retAddr 0), some (.ref 0), some (.ref 166), some (.ref 187), some (.ref 188), some (.int i), some (.int kk), some (.int v), e], [.int (I2 166 10)], st_h I2 J2, c + cc, k + ks) r
  refine (t_pS ls_feed (pc' := 1722) (ls' := [some (.retAddr 0), some (.ref 0), some (.ref 166), some (.ref 187), some (.ref 188), some (.int i), some (.int kk), some (.int v), e]) (st' := [.int kk, .int (I2 166 10)]) 1 rfl).mpr ?_
  refine (t_ieq (ls_feed _ _ rfl)).mpr ?_
  rw [if_pos e3]
  refine (t_pS ls_feed (pc' := 1729) (ls' := [some (.retAddr 0), some (.ref 0), some (.ref 166), some (.ref 187), some (.ref 188), some (.int i), some (.int kk), some (.int v), e]) (st' := [.int kk]) 1 rfl).mpr ?_
  refine (t_fne (ls_feed _ _ rfl)).mpr ?_
  by_cases hk : kk = 0
  rotate_left
  · rw [if_neg hk]
    refine (t_pS ls_feed (pc' := 1904) (ls' := [some (.retAddr 0), some (.ref 0), some (.ref 166), some (.ref 187), some (.ref 188), some (.int i), some (.int kk), some (.int v), e]) (st' := []) 1 rfl).mpr ?_
    exact g
  rw [if_pos hk]
  refine (t_pS ls_feed (pc' := 1734) (ls' := [some (.retAddr 0), some (.ref 0), some (.ref 166), some (.ref 187), some (.ref 188), some (.int i), some (.int kk), some (.int v), e]) (st' := [.int (0 : Int32), .ref 187]) 2 rfl).mpr ?_
  refine (t_lJ (ls_feed _ _ rfl) rfl).mpr ⟨rfl, ?_⟩
  refine (t_pS ls_feed (pc' := 1739) (ls' := [some (.retAddr 0), some (.ref 0), some (.ref 166), some (.ref 187), some (.ref 188), some (.int i), some (.int kk), some (.int v), e]) (st' := [.int (lg_cmp (J2 187 0) (Int32.toInt64 v))]) 3 rfl).mpr ?_
  refine (t_Leq (ls_feed _ _ rfl)).mpr ?_
  rw [if_pos (e4 hk)]
  refine (t_pS ls_feed (pc' := 1904) (ls' := [some (.retAddr 0), some (.ref 0), some (.ref 166), some (.ref 187), some (.ref 188), some (.int i), some (.int kk), some (.int v), e]) (st' := []) 1 rfl).mpr ?_
  exact g
def lc_drop : List (Nat × Instr × Nat × pm_L) := [(1747, .aload_n 1, 1, ([], .null)), (1748, .invokevirtual 184, 3, ([9, 1, 0, 1], .null)), (1751, .aload_n 2, 1, ([], .null)), (1752, .invokevirtual 187, 3, ([226, 1, 0, 10], .null)), (1755, .if_icmp .eq 149, 3, ([1904], .null)), (1758, .iconst 0, 1, ([], .null)), (1759, .ireturn, 1, ([1], .null))]
theorem ls_drop : pm_sub lc_drop kc_L_law := pm_sub_of (by decide +kernel)
theorem lw_drop {X : pm_X} {n : Nat} {xs : Nat → Int32} (h0 : X 0 = (n, xs)) (hX : X 1 = (8, eb)) {d : Nat} {i : Int32} (hi : lw_in i n) {a b e : Option Value} {c k : Nat} {I : st_I} {J : st_J} (h : RR I J) : lw_S X d 1747 i a b e c k I J := by
  obtain ⟨q0, q1, q2, q3, q4, q5, q6, q7⟩ := hi
  obtain ⟨I1, v, e1, I2, e2, hR⟩ := s_drop (X := X) (d := d + 71) h
  refine ⟨I2, J, a, b, e, c, k, hR, by omega, by omega, fun r g => ?_⟩
  refine (t_pS ls_drop (pc' := 1748) (ls' := [some (.retAddr 0), some (.ref 0), some (.ref 166), some (.ref 187), some (.ref 188), some (.int i), a, b, e]) (st' := [.ref 0]) 1 rfl).mpr ?_
  refine (t_cV (ls_drop _ _ rfl) rfl rfl rfl (Ex_of e1)).mpr ?_
  show Gx X (d + 72) (kc_L_law, []) (1751, [some (.retAddr 0), some (.ref 0), some (.ref 166), some (.ref 187), some (.ref 188), some (.int i), a, b, e], [.int v], st_h I1 J, c + 0, k + 0) r
  refine (t_pS ls_drop (pc' := 1752) (ls' := [some (.retAddr 0), some (.ref 0), some (.ref 166), some (.ref 187), some (.ref 188), some (.int i), a, b, e]) (st' := [.ref 166, .int v]) 1 rfl).mpr ?_
  refine (t_cV (ls_drop _ _ rfl) rfl rfl rfl (Ex_of e2)).mpr ?_
  show Gx X (d + 72) (kc_L_law, []) (1755, [some (.retAddr 0), some (.ref 0), some (.ref 166), some (.ref 187), some (.ref 188), some (.int i), a, b, e], [.int v, .int v], st_h I2 J, c + 0, k + 0) r
  refine (t_ieq (ls_drop _ _ rfl)).mpr ?_
  rw [if_pos rfl]
  exact g
def lc_take : List (Nat × Instr × Nat × pm_L) := [(1760, .aload_n 1, 1, ([], .null)), (1761, .aload_n 3, 1, ([], .null)), (1762, .invokestatic 188, 3, ([141, 2, 0, 0], .null)), (1765, .istore 6, 2, ([], .null)), (1767, .aload_n 2, 1, ([], .null)), (1768, .invokevirtual 190, 3, ([227, 1, 0, 10], .null)), (1771, .istore 7, 2, ([], .null)), (1773, .aload_n 2, 1, ([], .null)), (1774, .invokevirtual 110, 3, ([169, 1, 0, 10], .null)), (1777, .iload 6, 2, ([], .null)), (1779, .if_icmp .eq 5, 3, ([1784], .null)), (1782, .iconst 0, 1, ([], .null)), (1783, .ireturn, 1, ([1], .null)), (1784, .iload 6, 2, ([], .null)), (1786, .ifCond .ne 15, 3, ([1801], .null)), (1789, .aload_n 3, 1, ([], .null)), (1790, .iconst 0, 1, ([], .null)), (1791, .laload, 1, ([], .null)), (1792, .iload 7, 2, ([], .null)), (1794, .i2l, 1, ([], .null)), (1795, .lcmp, 1, ([], .null)), (1796, .ifCond .eq 5, 3, ([1801], .null)), (1799, .iconst 0, 1, ([], .null)), (1800, .ireturn, 1, ([1], .null)), (1801, .goto 103, 3, ([1904], .null))]
theorem ls_take : pm_sub lc_take kc_L_law := pm_sub_of (by decide +kernel)
theorem lw_take {X : pm_X} {n : Nat} {xs : Nat → Int32} (h0 : X 0 = (n, xs)) (hX : X 1 = (8, eb)) {d : Nat} {i : Int32} (hi : lw_in i n) {a b e : Option Value} {c k : Nat} {I : st_I} {J : st_J} (h : RR I J) : lw_S X d 1760 i a b e c k I J := by
  obtain ⟨q0, q1, q2, q3, q4, q5, q6, q7⟩ := hi
  obtain ⟨I1, J1, kk, cc, ks, e1, n1, n2, I2, J2, v, e2, e3, e4, hR⟩ := s_take (X := X) (d := d + 66)  h
  refine ⟨I2, J2, some (.int kk), some (.int v), e, c + cc, k + ks, hR, by omega, by omega, fun r g => ?_⟩
  refine (t_pS ls_take (pc' := 1762) (ls' := [some (.retAddr 0), some (.ref 0), some (.ref 166), some (.ref 187), some (.ref 188), some (.int i), a, b, e]) (st' := [.ref 187, .ref 0]) 2 rfl).mpr ?_
  refine (t_cS (ls_take _ _ rfl) rfl rfl (Ex_of e1)).mpr ?_
  show Gx X (d + 72) (kc_L_law, []) (1765, [some (.retAddr 0), some (.ref 0), some (.ref 166), some (.ref 187), some (.ref 188), some (.int i), a, b, e], [.int kk], st_h I1 J1, c + cc, k + ks) r
  refine (t_pS ls_take (pc' := 1768) (ls' := [some (.retAddr 0), some (.ref 0), some (.ref 166), some (.ref 187), some (.ref 188), some (.int i), some (.int kk), b, e]) (st' := [.ref 166]) 2 rfl).mpr ?_
  refine (t_cV (ls_take _ _ rfl) rfl rfl rfl (Ex_of e2)).mpr ?_
  show Gx X (d + 72) (kc_L_law, []) (1771, [some (.retAddr 0), some (.ref 0), some (.ref 166), some (.ref 187), some (.ref 188), some (.int i), some (.int kk), b, e], [.int v], st_h I2 J2, c + cc, k + ks) r
  refine (t_pS ls_take (pc' := 1774) (ls' := [some (.retAddr 0), some (.ref 0), some (.ref 166), some (.ref 187), some (.ref 188), some (.int i), some (.int kk), some (.int v), e]) (st' := [.ref 166]) 2 rfl).mpr ?_
  refine (t_cV (ls_take _ _ rfl) rfl rfl rfl (ev_M_thrown (d := d + 71))).mpr ?_
  show Gx X (d + 72) (kc_L_law, []) (1777, [some (.retAddr 0), some (.ref 0), some (.ref 166), some (.ref 187), some (.ref 188), some (.int i), some (.int kk), some (.int v), e], [.int (I2 166 10)], st_h I2 J2, c + cc, k + ks) r
  refine (t_pS ls_take (pc' := 1779) (ls' := [some (.retAddr 0), some (.ref 0), some (.ref 166), some (.ref 187), some (.ref 188), some (.int i), some (.int kk), some (.int v), e]) (st' := [.int kk, .int (I2 166 10)]) 1 rfl).mpr ?_
  refine (t_ieq (ls_take _ _ rfl)).mpr ?_
  rw [if_pos e3]
  refine (t_pS ls_take (pc' := 1786) (ls' := [some (.retAddr 0), some (.ref 0), some (.ref 166), some (.ref 187), some (.ref 188), some (.int i), some (.int kk), some (.int v), e]) (st' := [.int kk]) 1 rfl).mpr ?_
  refine (t_fne (ls_take _ _ rfl)).mpr ?_
  by_cases hk : kk = 0
  rotate_left
  · rw [if_neg hk]
    refine (t_pS ls_take (pc' := 1904) (ls' := [some (.retAddr 0), some (.ref 0), some (.ref 166), some (.ref 187), some (.ref 188), some (.int i), some (.int kk), some (.int v), e]) (st' := []) 1 rfl).mpr ?_
    exact g
  rw [if_pos hk]
  refine (t_pS ls_take (pc' := 1791) (ls' := [some (.retAddr 0), some (.ref 0), some (.ref 166), some (.ref 187), some (.ref 188), some (.int i), some (.int kk), some (.int v), e]) (st' := [.int (0 : Int32), .ref 187]) 2 rfl).mpr ?_
  refine (t_lJ (ls_take _ _ rfl) rfl).mpr ⟨rfl, ?_⟩
  refine (t_pS ls_take (pc' := 1796) (ls' := [some (.retAddr 0), some (.ref 0), some (.ref 166), some (.ref 187), some (.ref 188), some (.int i), some (.int kk), some (.int v), e]) (st' := [.int (lg_cmp (J2 187 0) (Int32.toInt64 v))]) 3 rfl).mpr ?_
  refine (t_Leq (ls_take _ _ rfl)).mpr ?_
  rw [if_pos (e4 hk)]
  refine (t_pS ls_take (pc' := 1904) (ls' := [some (.retAddr 0), some (.ref 0), some (.ref 166), some (.ref 187), some (.ref 188), some (.int i), some (.int kk), some (.int v), e]) (st' := []) 1 rfl).mpr ?_
  exact g
def lc_canonical : List (Nat × Instr × Nat × pm_L) := [(1804, .aload_n 1, 1, ([], .null)), (1805, .aload_n 3, 1, ([], .null)), (1806, .invokestatic 191, 3, ([150, 2, 0, 0], .null)), (1809, .istore 6, 2, ([], .null)), (1811, .aload_n 2, 1, ([], .null)), (1812, .invokevirtual 193, 3, ([231, 1, 0, 10], .null)), (1815, .istore 7, 2, ([], .null)), (1817, .aload_n 2, 1, ([], .null)), (1818, .invokevirtual 110, 3, ([169, 1, 0, 10], .null)), (1821, .iload 6, 2, ([], .null)), (1823, .if_icmp .eq 5, 3, ([1828], .null)), (1826, .iconst 0, 1, ([], .null)), (1827, .ireturn, 1, ([1], .null)), (1828, .iload 6, 2, ([], .null)), (1830, .ifCond .ne 15, 3, ([1845], .null)), (1833, .aload_n 3, 1, ([], .null)), (1834, .iconst 0, 1, ([], .null)), (1835, .laload, 1, ([], .null)), (1836, .iload 7, 2, ([], .null)), (1838, .i2l, 1, ([], .null)), (1839, .lcmp, 1, ([], .null)), (1840, .ifCond .eq 5, 3, ([1845], .null)), (1843, .iconst 0, 1, ([], .null)), (1844, .ireturn, 1, ([1], .null)), (1845, .goto 59, 3, ([1904], .null))]
theorem ls_canonical : pm_sub lc_canonical kc_L_law := pm_sub_of (by decide +kernel)
theorem lw_canonical {X : pm_X} {n : Nat} {xs : Nat → Int32} (h0 : X 0 = (n, xs)) (hX : X 1 = (8, eb)) {d : Nat} {i : Int32} (hi : lw_in i n) {a b e : Option Value} {c k : Nat} {I : st_I} {J : st_J} (h : RR I J) : lw_S X d 1804 i a b e c k I J := by
  obtain ⟨q0, q1, q2, q3, q4, q5, q6, q7⟩ := hi
  obtain ⟨I1, J1, kk, cc, ks, e1, n1, n2, I2, J2, v, e2, e3, e4, hR⟩ := s_canonical (X := X) hX (d := d)  h
  refine ⟨I2, J2, some (.int kk), some (.int v), e, c + cc, k + ks, hR, by omega, by omega, fun r g => ?_⟩
  refine (t_pS ls_canonical (pc' := 1806) (ls' := [some (.retAddr 0), some (.ref 0), some (.ref 166), some (.ref 187), some (.ref 188), some (.int i), a, b, e]) (st' := [.ref 187, .ref 0]) 2 rfl).mpr ?_
  refine (t_cS (ls_canonical _ _ rfl) rfl rfl (Ex_of e1)).mpr ?_
  show Gx X (d + 72) (kc_L_law, []) (1809, [some (.retAddr 0), some (.ref 0), some (.ref 166), some (.ref 187), some (.ref 188), some (.int i), a, b, e], [.int kk], st_h I1 J1, c + cc, k + ks) r
  refine (t_pS ls_canonical (pc' := 1812) (ls' := [some (.retAddr 0), some (.ref 0), some (.ref 166), some (.ref 187), some (.ref 188), some (.int i), some (.int kk), b, e]) (st' := [.ref 166]) 2 rfl).mpr ?_
  refine (t_cV (ls_canonical _ _ rfl) rfl rfl rfl (Ex_of e2)).mpr ?_
  show Gx X (d + 72) (kc_L_law, []) (1815, [some (.retAddr 0), some (.ref 0), some (.ref 166), some (.ref 187), some (.ref 188), some (.int i), some (.int kk), b, e], [.int v], st_h I2 J2, c + cc, k + ks) r
  refine (t_pS ls_canonical (pc' := 1818) (ls' := [some (.retAddr 0), some (.ref 0), some (.ref 166), some (.ref 187), some (.ref 188), some (.int i), some (.int kk), some (.int v), e]) (st' := [.ref 166]) 2 rfl).mpr ?_
  refine (t_cV (ls_canonical _ _ rfl) rfl rfl rfl (ev_M_thrown (d := d + 71))).mpr ?_
  show Gx X (d + 72) (kc_L_law, []) (1821, [some (.retAddr 0), some (.ref 0), some (.ref 166), some (.ref 187), some (.ref 188), some (.int i), some (.int kk), some (.int v), e], [.int (I2 166 10)], st_h I2 J2, c + cc, k + ks) r
  refine (t_pS ls_canonical (pc' := 1823) (ls' := [some (.retAddr 0), some (.ref 0), some (.ref 166), some (.ref 187), some (.ref 188), some (.int i), some (.int kk), some (.int v), e]) (st' := [.int kk, .int (I2 166 10)]) 1 rfl).mpr ?_
  refine (t_ieq (ls_canonical _ _ rfl)).mpr ?_
  rw [if_pos e3]
  refine (t_pS ls_canonical (pc' := 1830) (ls' := [some (.retAddr 0), some (.ref 0), some (.ref 166), some (.ref 187), some (.ref 188), some (.int i), some (.int kk), some (.int v), e]) (st' := [.int kk]) 1 rfl).mpr ?_
  refine (t_fne (ls_canonical _ _ rfl)).mpr ?_
  by_cases hk : kk = 0
  rotate_left
  · rw [if_neg hk]
    refine (t_pS ls_canonical (pc' := 1904) (ls' := [some (.retAddr 0), some (.ref 0), some (.ref 166), some (.ref 187), some (.ref 188), some (.int i), some (.int kk), some (.int v), e]) (st' := []) 1 rfl).mpr ?_
    exact g
  rw [if_pos hk]
  refine (t_pS ls_canonical (pc' := 1835) (ls' := [some (.retAddr 0), some (.ref 0), some (.ref 166), some (.ref 187), some (.ref 188), some (.int i), some (.int kk), some (.int v), e]) (st' := [.int (0 : Int32), .ref 187]) 2 rfl).mpr ?_
  refine (t_lJ (ls_canonical _ _ rfl) rfl).mpr ⟨rfl, ?_⟩
  refine (t_pS ls_canonical (pc' := 1840) (ls' := [some (.retAddr 0), some (.ref 0), some (.ref 166), some (.ref 187), some (.ref 188), some (.int i), some (.int kk), some (.int v), e]) (st' := [.int (lg_cmp (J2 187 0) (Int32.toInt64 v))]) 3 rfl).mpr ?_
  refine (t_Leq (ls_canonical _ _ rfl)).mpr ?_
  rw [if_pos (e4 hk)]
  refine (t_pS ls_canonical (pc' := 1904) (ls' := [some (.retAddr 0), some (.ref 0), some (.ref 166), some (.ref 187), some (.ref 188), some (.int i), some (.int kk), some (.int v), e]) (st' := []) 1 rfl).mpr ?_
  exact g
def lc_count : List (Nat × Instr × Nat × pm_L) := [(1848, .aload_n 1, 1, ([], .null)), (1849, .aload_n 0, 1, ([], .null)), (1850, .iload 5, 2, ([], .null)), (1852, .iconst 1, 1, ([], .null)), (1853, .iadd, 1, ([], .null)), (1854, .iaload, 1, ([], .null)), (1855, .aload_n 3, 1, ([], .null)), (1856, .invokestatic 194, 3, ([166, 3, 0, 0], .null)), (1859, .istore 6, 2, ([], .null)), (1861, .aload_n 2, 1, ([], .null)), (1862, .aload_n 0, 1, ([], .null)), (1863, .iload 5, 2, ([], .null)), (1865, .iconst 1, 1, ([], .null)), (1866, .iadd, 1, ([], .null)), (1867, .iaload, 1, ([], .null)), (1868, .invokevirtual 196, 3, ([237, 2, 0, 10], .null)), (1871, .istore 7, 2, ([], .null)), (1873, .aload_n 2, 1, ([], .null)), (1874, .invokevirtual 110, 3, ([169, 1, 0, 10], .null)), (1877, .iload 6, 2, ([], .null)), (1879, .if_icmp .eq 5, 3, ([1884], .null)), (1882, .iconst 0, 1, ([], .null)), (1883, .ireturn, 1, ([1], .null)), (1884, .iload 6, 2, ([], .null)), (1886, .ifCond .ne 15, 3, ([1901], .null)), (1889, .aload_n 3, 1, ([], .null)), (1890, .iconst 0, 1, ([], .null)), (1891, .laload, 1, ([], .null)), (1892, .iload 7, 2, ([], .null)), (1894, .i2l, 1, ([], .null)), (1895, .lcmp, 1, ([], .null)), (1896, .ifCond .eq 5, 3, ([1901], .null)), (1899, .iconst 0, 1, ([], .null)), (1900, .ireturn, 1, ([1], .null)), (1901, .goto 3, 3, ([1904], .null))]
theorem ls_count : pm_sub lc_count kc_L_law := pm_sub_of (by decide +kernel)
theorem lw_count {X : pm_X} {n : Nat} {xs : Nat → Int32} (h0 : X 0 = (n, xs)) (hX : X 1 = (8, eb)) {d : Nat} {i : Int32} (hi : lw_in i n) {a b e : Option Value} {c k : Nat} {I : st_I} {J : st_J} (h : RR I J) : lw_S X d 1848 i a b e c k I J := by
  obtain ⟨q0, q1, q2, q3, q4, q5, q6, q7⟩ := hi
  obtain ⟨I1, J1, kk, cc, ks, e1, n1, n2, I2, J2, v, e2, e3, e4, hR⟩ := s_count (X := X) (d := d + 69) (p1 := (xs (Int32.toNatClampNeg (i + (1 : Int32))))) h
  refine ⟨I2, J2, some (.int kk), some (.int v), e, c + cc, k + ks, hR, by omega, by omega, fun r g => ?_⟩
  refine (t_pS ls_count (pc' := 1854) (ls' := [some (.retAddr 0), some (.ref 0), some (.ref 166), some (.ref 187), some (.ref 188), some (.int i), a, b, e]) (st' := [.int (i + (1 : Int32)), .retAddr 0, .ref 0]) 5 rfl).mpr ?_
  refine (t_lX (ls_count _ _ rfl) rfl h0).mpr ⟨q1, ?_⟩
  refine (t_pS ls_count (pc' := 1856) (ls' := [some (.retAddr 0), some (.ref 0), some (.ref 166), some (.ref 187), some (.ref 188), some (.int i), a, b, e]) (st' := [.ref 187, .int (xs (Int32.toNatClampNeg (i + (1 : Int32)))), .ref 0]) 1 rfl).mpr ?_
  refine (t_cS (ls_count _ _ rfl) rfl rfl (Ex_of e1)).mpr ?_
  show Gx X (d + 72) (kc_L_law, []) (1859, [some (.retAddr 0), some (.ref 0), some (.ref 166), some (.ref 187), some (.ref 188), some (.int i), a, b, e], [.int kk], st_h I1 J1, c + cc, k + ks) r
  refine (t_pS ls_count (pc' := 1867) (ls' := [some (.retAddr 0), some (.ref 0), some (.ref 166), some (.ref 187), some (.ref 188), some (.int i), some (.int kk), b, e]) (st' := [.int (i + (1 : Int32)), .retAddr 0, .ref 166]) 6 rfl).mpr ?_
  refine (t_lX (ls_count _ _ rfl) rfl h0).mpr ⟨q1, ?_⟩
  refine (t_cV (ls_count _ _ rfl) rfl rfl rfl (Ex_of e2)).mpr ?_
  show Gx X (d + 72) (kc_L_law, []) (1871, [some (.retAddr 0), some (.ref 0), some (.ref 166), some (.ref 187), some (.ref 188), some (.int i), some (.int kk), b, e], [.int v], st_h I2 J2, c + cc, k + ks) r
  refine (t_pS ls_count (pc' := 1874) (ls' := [some (.retAddr 0), some (.ref 0), some (.ref 166), some (.ref 187), some (.ref 188), some (.int i), some (.int kk), some (.int v), e]) (st' := [.ref 166]) 2 rfl).mpr ?_
  refine (t_cV (ls_count _ _ rfl) rfl rfl rfl (ev_M_thrown (d := d + 71))).mpr ?_
  show Gx X (d + 72) (kc_L_law, []) (1877, [some (.retAddr 0), some (.ref 0), some (.ref 166), some (.ref 187), some (.ref 188), some (.int i), some (.int kk), some (.int v), e], [.int (I2 166 10)], st_h I2 J2, c + cc, k + ks) r
  refine (t_pS ls_count (pc' := 1879) (ls' := [some (.retAddr 0), some (.ref 0), some (.ref 166), some (.ref 187), some (.ref 188), some (.int i), some (.int kk), some (.int v), e]) (st' := [.int kk, .int (I2 166 10)]) 1 rfl).mpr ?_
  refine (t_ieq (ls_count _ _ rfl)).mpr ?_
  rw [if_pos e3]
  refine (t_pS ls_count (pc' := 1886) (ls' := [some (.retAddr 0), some (.ref 0), some (.ref 166), some (.ref 187), some (.ref 188), some (.int i), some (.int kk), some (.int v), e]) (st' := [.int kk]) 1 rfl).mpr ?_
  refine (t_fne (ls_count _ _ rfl)).mpr ?_
  by_cases hk : kk = 0
  rotate_left
  · rw [if_neg hk]
    refine (t_pS ls_count (pc' := 1904) (ls' := [some (.retAddr 0), some (.ref 0), some (.ref 166), some (.ref 187), some (.ref 188), some (.int i), some (.int kk), some (.int v), e]) (st' := []) 1 rfl).mpr ?_
    exact g
  rw [if_pos hk]
  refine (t_pS ls_count (pc' := 1891) (ls' := [some (.retAddr 0), some (.ref 0), some (.ref 166), some (.ref 187), some (.ref 188), some (.int i), some (.int kk), some (.int v), e]) (st' := [.int (0 : Int32), .ref 187]) 2 rfl).mpr ?_
  refine (t_lJ (ls_count _ _ rfl) rfl).mpr ⟨rfl, ?_⟩
  refine (t_pS ls_count (pc' := 1896) (ls' := [some (.retAddr 0), some (.ref 0), some (.ref 166), some (.ref 187), some (.ref 188), some (.int i), some (.int kk), some (.int v), e]) (st' := [.int (lg_cmp (J2 187 0) (Int32.toInt64 v))]) 3 rfl).mpr ?_
  refine (t_Leq (ls_count _ _ rfl)).mpr ?_
  rw [if_pos (e4 hk)]
  refine (t_pS ls_count (pc' := 1904) (ls' := [some (.retAddr 0), some (.ref 0), some (.ref 166), some (.ref 187), some (.ref 188), some (.int i), some (.int kk), some (.int v), e]) (st' := []) 1 rfl).mpr ?_
  exact g
